/-! ctor -/
section
/-! ===== constructors: what is made comes behind what there is ===== -/
def rmC (d c k : Nat) : Room := { frames := d, cells := c, slots := k, locals := 40 * d }
def preW (G : va_G) (cI cR : ClassId) (sz : Nat) (ws : va_W) (U : State) : Prop := U.heap.size = sz ∧ va_P G vwCl ws U.heap ∧ va_K G vwCl (tyz cI cR) U ∧ va_D (fun _ => True) ws ∧ NW U ∧ va_AO RX4 U
theorem preW_blind {G : va_G} {cI cR : ClassId} {sz : Nat} {ws : va_W} {av : List Value} : FrameBlind (va_Pc av (preW G cI cR sz ws)) :=
  fun a U g mk q => ⟨q.1, q.2.1, q.2.2.1, va_K.moved (u := U) (U := U.calling g mk a) (Vm.Alike.refl U.vm) q.2.2.2.1, q.2.2.2.2.1, NW.same (s := U) (U := U.calling g mk a) rfl q.2.2.2.2.2.1, va_AO.moved (u := U) (U := U.calling g mk a) (Vm.Alike.refl U.vm) q.2.2.2.2.2.2⟩
def QW (G : va_G) (cI cR : ClassId) (A : Nat → Prop) (Sh : va_W → Prop) : Array Value → State → Outcome → State → Prop := va_Qv Sh (fun w t => va_P G vwCl w t.heap ∧ va_K G vwCl (tyz cI cR) t ∧ va_D A w) A
abbrev SHP : Type := Nat → ClassId → ClassId → va_W → Prop
def Ctr (M : MD) (d c k : Nat) (o : Nat) (fs : List Value) (Sh : SHP) : Prop :=
  ∀ (l : Launch) (G : va_G) (cI cR : ClassId) (sz h0 : Nat), Met l (mY M) (wsM M) (rmC d c k) (va_Pc [.ref h0] (preW G cI cR sz [(h0, .inr (o, fs))])) (QW G cI cR (va_A [(h0, .inr (o, fs))] sz) (Sh h0 cI cR)) c k (va_A [(h0, .inr (o, fs))] sz)
def JW (cI cR : ClassId) (M : MD) (R : Room) (Sh : va_W → Prop) (pc : Nat) (lv : List (Nat × Value)) (st : List Value) (ws : va_W) (cc ss : Nat) : Prop :=
  ∀ (p : Program) (l : Launch) (e : Env) (s : State) (m : MethodId) (args : Array Value) (below : List Frame) (meth : Method) (c : Code) (H : Heap) (locs : List Loc) (G : va_G) (A : Nat → Prop) (ls : Array Slot),
    Fix M p s m args meth c G cI cR A → (meth.name = "<init>" ∧ va_AO RX4 s) → va_P G vwCl ws H → va_D A ws → va_S A s.heap H locs → lv_has ls (mL M) lv →
    W p l e R s m args below meth c H locs cc ss (MQ below (QW G cI cR A Sh) args s R.cells R.slots A) (F0 m pc ls st)
theorem ctr_of {M : MD} {d c k o : Nat} {fs : List Value} {Sh : SHP} (hM : okM M) (hname : (mY M).name = "<init>") (hn : 1 ≤ mL M) (K : ∀ (cI cR : ClassId) (h0 : Nat), JW cI cR M (rmC d c k) (Sh h0 cI cR) 0 [(0, .ref h0)] [] [(h0, .inr (o, fs))] 0 0) : Ctr M d c k o fs Sh := by
  intro l G cI cR sz h0
  obtain ⟨h1, h2, h3, h4, h5, h6, h7⟩ := okM_sp hM
  refine Met.ofW (cc := mB M) (maxL := mL M) (ret := mR M) h3 rfl ?_
  intro p e s m args below meth c s₁ B hml hv
  obtain ⟨rfl, hsz, hP, hK, hD0, hNW, hAO⟩ := hv
  have hts := atoms_spec (ws := wsM M) B.pre
  have hown : s.vm.findClass (cnm (mO M)) = some m.cls := by rw [← h4]; exact findClass_of_methodNamed B.named
  have hin : meth.name = "<init>" := by rw [← hname]; exact (name_of_methodNamed B.named B.method).1
  have hent := lv_entry ([.ref h0]) (n := mL M) hn
  rw [lg_entry_eq]
  exact K cI cR h0 p l e s m _ below meth c s.heap [] G _ _ ⟨B.exec, B.bytes, B.returns, hml, hown, B.notSynchronized, fun w hw => hts w (List.mem_cons_of_mem _ hw), hK, fun q hq => Or.inr (by rw [← hsz]; exact hq), hNW⟩ ⟨hin, hAO⟩ hP hD0.self va_S.rf hent
theorem va_nd_of {l : List Nat} (h : l.Nodup) : va_nd l = true := by
  induction l with
  | nil => rfl
  | cons a t ih =>
    rw [List.nodup_cons] at h
    simp only [va_nd, Bool.and_eq_true, decide_eq_true_eq]
    exact ⟨h.1, ih h.2⟩
theorem cI_eq {G : va_G} {cI cR cA : ClassId} {s : State} (h : va_K G vwCl (tyz cI cR ++ [(cA, .int)]) s) : cA = cI := by
  have h1 := (h.2 0 (cI, .int) rfl).2
  have h2 := (h.2 2 (cA, .int) rfl).2
  exact Option.some.inj (h2.symm.trans h1)
theorem cR_eq {G : va_G} {cI cR cA : ClassId} {s : State} (h : va_K G vwCl (tyz cI cR ++ [(cA, .object RX4)]) s) : cA = cR := by
  obtain ⟨_, _, _, _, _, h1⟩ := (h.2 1 (cR, .object RX4) rfl).2
  obtain ⟨_, _, _, _, _, h2⟩ := (h.2 2 (cA, .object RX4) rfl).2
  exact Option.some.inj (h2.symm.trans h1)
section JWS
variable {cI cR : ClassId} {M : MD} {R : Room} {Sh : va_W → Prop} {pc : Nat} {lv : List (Nat × Value)} {st : List Value} {ws : va_W} {cc ss : Nat}
theorem jw_aload {i : Fin 4} {x : Nat} (k : Nat) (hd : decode (mB M) pc = .ok (.aload_n i, 1)) (hk : lv[k]? = some ((i : Nat), .ref x)) (K : JW cI cR M R Sh (pc + 1) lv (.ref x :: st) ws cc ss) : JW cI cR M R Sh pc lv st ws cc ss := by
  intro p l e s m args below meth c H locs G A ls F hin hP hD hS E
  exact lv_aload_n F.1 F.2.1 hd rfl (lv_at E k hk) (K p l e s m args below meth c H locs G A ls F hin hP hD hS E)
theorem jw_iload {i : Fin 4} {x : Int32} (k : Nat) (hd : decode (mB M) pc = .ok (.iload_n i, 1)) (hk : lv[k]? = some ((i : Nat), .int x)) (K : JW cI cR M R Sh (pc + 1) lv (.int x :: st) ws cc ss) : JW cI cR M R Sh pc lv st ws cc ss := by
  intro p l e s m args below meth c H locs G A ls F hin hP hD hS E
  exact lv_iload_n F.1 F.2.1 hd rfl (lv_at E k hk) (K p l e s m args below meth c H locs G A ls F hin hP hD hS E)
theorem jw_bip {n : Int} {v : Int32} (hd : decode (mB M) pc = .ok (.bipush n, 2)) (hv : (Int8.ofInt n).toInt32 = v) (K : JW cI cR M R Sh (pc + 2) lv (.int v :: st) ws cc ss) : JW cI cR M R Sh pc lv st ws cc ss := by
  intro p l e s m args below meth c H locs G A ls F hin hP hD hS E
  exact lv_bipush F.1 F.2.1 hd hv (K p l e s m args below meth c H locs G A ls F hin hP hD hS E)
theorem jw_sip {n : Int} {v : Int32} (hd : decode (mB M) pc = .ok (.sipush n, 3)) (hv : (Int16.ofInt n).toInt32 = v) (K : JW cI cR M R Sh (pc + 3) lv (.int v :: st) ws cc ss) : JW cI cR M R Sh pc lv st ws cc ss := by
  intro p l e s m args below meth c H locs G A ls F hin hP hD hS E
  exact lv_sipush F.1 F.2.1 hd hv (K p l e s m args below meth c H locs G A ls F hin hP hD hS E)
theorem jw_icn {n : Int} {v : Int32} (hd : decode (mB M) pc = .ok (.iconst n, 1)) (hv : Int32.ofInt n = v) (K : JW cI cR M R Sh (pc + 1) lv (.int v :: st) ws cc ss) : JW cI cR M R Sh pc lv st ws cc ss := by
  intro p l e s m args below meth c H locs G A ls F hin hP hD hS E
  exact lv_iconst F.1 F.2.1 hd hv (K p l e s m args below meth c H locs G A ls F hin hP hD hS E)
theorem jw_dup {x : Nat} (hd : decode (mB M) pc = .ok (.dup, 1)) (K : JW cI cR M R Sh (pc + 1) lv (.ref x :: .ref x :: st) ws cc ss) : JW cI cR M R Sh pc lv (.ref x :: st) ws cc ss := by
  intro p l e s m args below meth c H locs G A ls F hin hP hD hS E
  exact lv_dup F.1 F.2.1 hd rfl (K p l e s m args below meth c H locs G A ls F hin hP hD hS E)
theorem jw_istore {i : Fin 4} {x : Int32} {lv' : List (Nat × Value)} (hd : decode (mB M) pc = .ok (.istore_n i, 1)) (hn : (i : Nat) < mL M) (hl : ((i : Nat), Value.int x) :: lv.filter (fun q => !(q.1 == (i : Nat)) && !(q.1 + 1 == (i : Nat) && q.2.category == 2)) = lv') (K : JW cI cR M R Sh (pc + 1) lv' st ws cc ss) : JW cI cR M R Sh pc lv (.int x :: st) ws cc ss := by
  intro p l e s m args below meth c H locs G A ls F hin hP hD hS E
  exact lv_istore_n F.1 F.2.1 hd rfl E hn hl (fun ls' E' => K p l e s m args below meth c H locs G A ls' F hin hP hD hS E')
theorem jw_iinc {i k : Nat} {n : Int} {x v : Int32} {lv' : List (Nat × Value)} (hd : decode (mB M) pc = .ok (.iinc i n, 3)) (hk : lv[k]? = some (i, .int x)) (hv : x + Int32.ofInt n = v) (hn : i < mL M) (hl : (i, Value.int v) :: lv.filter (fun q => !(q.1 == i) && !(q.1 + 1 == i && q.2.category == 2)) = lv') (K : JW cI cR M R Sh (pc + 3) lv' st ws cc ss) : JW cI cR M R Sh pc lv st ws cc ss := by
  intro p l e s m args below meth c H locs G A ls F hin hP hD hS E
  exact lv_iinc F.1 F.2.1 hd E hk hv hn hl (fun ls' E' => K p l e s m args below meth c H locs G A ls' F hin hP hD hS E')
theorem jw_goto {off : Int} {tgt : Nat} (hd : decode (mB M) pc = .ok (.goto off, 3)) (ht : (pc : Int) + off = (tgt : Int)) (K : JW cI cR M R Sh tgt lv st ws cc ss) : JW cI cR M R Sh pc lv st ws cc ss := by
  intro p l e s m args below meth c H locs G A ls F hin hP hD hS E
  exact lv_goto F.1 F.2.1 hd ht (K p l e s m args below meth c H locs G A ls F hin hP hD hS E)
theorem jw_ge {x y : Int32} {off : Int} {tgt : Nat} (hd : decode (mB M) pc = .ok (.if_icmp .ge off, 3)) (ht : (pc : Int) + off = (tgt : Int)) (K1 : y ≤ x → JW cI cR M R Sh tgt lv st ws cc ss) (K0 : ¬ y ≤ x → JW cI cR M R Sh (pc + 3) lv st ws cc ss) : JW cI cR M R Sh pc lv (.int y :: .int x :: st) ws cc ss := by
  intro p l e s m args below meth c H locs G A ls F hin hP hD hS E
  exact lv_icmp_ge F.1 F.2.1 hd ht (fun q => K1 q p l e s m args below meth c H locs G A ls F hin hP hD hS E) (fun q => K0 q p l e s m args below meth c H locs G A ls F hin hP hD hS E)
theorem jw_obj {idx x : Nat} (hlink : (.methodLink (cnm (mO M)) idx Lib.objectInit : Cond) ∈ WT) (hinst : (.instanceMethod Lib.objectInit : Cond) ∈ WT) (hcode : (.code Lib.objectInit ⟨#[0xb1]⟩ 1 none : Cond) ∈ WT) (hd : decode (mB M) pc = .ok (.invokespecial idx, 3)) (hf : 1 ≤ R.frames) (hc : (st.map fun v => v.category).sum + 12 ≤ R.locals) (K : JW cI cR M R Sh (pc + 3) lv st ws cc ss) : JW cI cR M R Sh pc lv (.ref x :: st) ws cc ss := by
  intro p l e s m args below meth c H locs G A ls F hin hP hD hS E
  have hw := F.2.2.2.2.2.2.1
  refine W.objInit F.1 F.2.1 F.2.2.2.2.1 (hw _ hlink) (hw _ hinst) (hw _ hcode) rfl (by rw [F.2.2.2.1]; exact E.1) rfl hd hf ?_ ?_
  · show 2 * 0 + _ + 12 ≤ _
    omega
  · exact W.eq (g2 := F0 m (pc + 3) ls st) rfl (K p l e s m args below meth c H locs G A ls F hin hP hD hS E)
theorem jw_new {idx ci N : Nat} {C : String} {T : u_T} {fs : List Value} (hcl : vwCl[ci]? = some (C, T, N)) (hlink : (.classLink (cnm (mO M)) idx C : Cond) ∈ WT) (hinst : (.instantiable C N : Cond) ∈ WT) (hini : (.initialized C : Cond) ∈ WT) (ty : Nat → FieldType) (hty : ∀ k, k < N → parseFieldDescriptor (T k).2.2.1 = some (ty k)) (hfs : ∀ j, j < N → defaultValue (ty j) = vp_V fs j) (hd : decode (mB M) pc = .ok (.new idx, 3)) (hc : cc + 1 ≤ R.cells) (hs : ss + N ≤ R.slots)
    (K : ∀ q : Nat, JW cI cR M R Sh (pc + 3) lv (.ref q :: st) (ws ++ [(q, .inr (ci, fs))]) (cc + 1) (ss + N)) : JW cI cR M R Sh pc lv st ws cc ss := by
  intro p l e s m args below meth c H locs G A ls F hin hP hD hS E
  have hw := F.2.2.2.2.2.2.1
  obtain ⟨hu, _, _⟩ := clsF hcl
  exact va_new (Ts := WT) F.1 F.2.1 hw hu ty hty F.2.2.2.2.1 (hw _ hlink) (hw _ hinst) (hw _ hini) F.2.2.2.2.2.2.2.1 hP hD hS F.2.2.2.2.2.2.2.2.1 hcl hfs hc hs hd (fun q H1 hP1 hD1 hS1 => K q p l e s m args below meth c H1 locs G A ls F hin hP1 hD1 hS1 E)
theorem jw_newa {n : Int32} {N : Nat} (harr : (.arrayClass .int : Cond) ∈ WT) (hn : ¬ n < 0) (hN : n.toNatClampNeg = N) (hb : N * 4 ≤ 536870912) (hd : decode (mB M) pc = .ok (.newarray .int, 2)) (hc : cc + 1 ≤ R.cells) (hs : ss + N ≤ R.slots)
    (K : ∀ q : Nat, JW cI cR M R Sh (pc + 2) lv (.ref q :: st) (ws ++ [(q, .inl (cI, N, .inl (fun _ => 0)))]) (cc + 1) (ss + N)) : JW cI cR M R Sh pc lv (.int n :: st) ws cc ss := by
  intro p l e s m args below meth c H locs G A ls F hin hP hD hS E
  have hw := F.2.2.2.2.2.2.1
  refine va_newa (atype := .int) (a0 := (N, .inl (fun _ => 0))) F.1 F.2.1 (hw _ harr) rfl F.2.2.2.2.2.2.2.1 hP hD hS F.2.2.2.2.2.2.2.2.1 (fun cA => vp_cell_i cA N _) hn hN hb hc hs hd (fun q cA H1 hK1 hP1 hD1 hS1 => ?_)
  have := cI_eq hK1
  subst this
  exact K q p l e s m args below meth c H1 locs G A ls F hin hP1 hD1 hS1 E
theorem jw_newq {idx : Nat} {n : Int32} {N : Nat} (hlink : (.classLink (cnm (mO M)) idx RX4 : Cond) ∈ WT) (hn : ¬ n < 0) (hN : n.toNatClampNeg = N) (hb : N * 4 ≤ 536870912) (hd : decode (mB M) pc = .ok (.anewarray idx, 3)) (hc : cc + 1 ≤ R.cells) (hs : ss + N ≤ R.slots)
    (K : ∀ q : Nat, JW cI cR M R Sh (pc + 3) lv (.ref q :: st) (ws ++ [(q, .inl (cR, N, .inr (.inr (.inr (.inr (fun _ => none))))))]) (cc + 1) (ss + N)) : JW cI cR M R Sh pc lv (.int n :: st) ws cc ss := by
  intro p l e s m args below meth c H locs G A ls F hin hP hD hS E
  have hw := F.2.2.2.2.2.2.1
  refine va_newq (C := RX4) F.1 F.2.1 F.2.2.2.2.1 (hw _ hlink) hin.2 F.2.2.2.2.2.2.2.1 hP hD hS F.2.2.2.2.2.2.2.2.1 hn hN hb hc hs hd (fun q cA H1 hK1 hP1 hD1 hS1 => ?_)
  have := cR_eq hK1
  subst this
  exact K q p l e s m args below meth c H1 locs G A ls F hin hP1 hD1 hS1 E
theorem jw_putF {idx ci sl N q0 a : Nat} {C : String} {T : u_T} {fs : List Value} {v : Value} {ty : FieldType} (he : ws[q0]? = some (a, .inr (ci, fs))) (hcl : vwCl[ci]? = some (C, T, N)) (hsl : sl < N) (hlink : (.fieldLink (cnm (mO M)) idx C (T sl).2.1 (T sl).2.2.1 : Cond) ∈ WT) (hC : (T sl).1 = C) (hfin : (T sl).2.2.2 = true) (hdecl : (T sl).1 = cnm (mO M)) (hty : parseFieldDescriptor (T sl).2.2.1 = some ty) (hn : narrow ty v = v) (hfit : fits ty v = true) (hl : sl < fs.length) (hd : decode (mB M) pc = .ok (.putfield idx, 3))
    (K : JW cI cR M R Sh (pc + 3) lv st (ws.set q0 (a, .inr (ci, fs.set sl v))) cc ss) : JW cI cR M R Sh pc lv (v :: .ref a :: st) ws cc ss := by
  intro p l e s m args below meth c H locs G A ls F hin hP hD hS E
  have hw := F.2.2.2.2.2.2.1
  obtain ⟨hu, ⟨ty0, hty0⟩, hnm⟩ := clsF hcl
  exact va_putF (Ts := WT) F.1 F.2.1 hw hu ty0 hty0 hnm F.2.2.2.2.1 F.2.2.2.2.2.2.2.1 hP hD hS q0 he hcl sl hsl (hw _ hlink) (fun x hx => by rw [← hC]; exact hx) hfin hin.1 hdecl hty hn hfit hl hd (fun H1 locs1 hP1 hD1 hS1 => K p l e s m args below meth c H1 locs1 G A ls F hin hP1 hD1 hS1 E)
theorem jw_put {idx ci sl N q0 a : Nat} {C : String} {T : u_T} {fs : List Value} {v : Value} {ty : FieldType} (he : ws[q0]? = some (a, .inr (ci, fs))) (hcl : vwCl[ci]? = some (C, T, N)) (hsl : sl < N) (hlink : (.fieldLink (cnm (mO M)) idx C (T sl).2.1 (T sl).2.2.1 : Cond) ∈ WT) (hC : (T sl).1 = C) (hfin : (T sl).2.2.2 = false) (hty : parseFieldDescriptor (T sl).2.2.1 = some ty) (hn : narrow ty v = v) (hfit : fits ty v = true) (hl : sl < fs.length) (hd : decode (mB M) pc = .ok (.putfield idx, 3))
    (K : JW cI cR M R Sh (pc + 3) lv st (ws.set q0 (a, .inr (ci, fs.set sl v))) cc ss) : JW cI cR M R Sh pc lv (v :: .ref a :: st) ws cc ss := by
  intro p l e s m args below meth c H locs G A ls F hin hP hD hS E
  have hw := F.2.2.2.2.2.2.1
  obtain ⟨hu, ⟨ty0, hty0⟩, hnm⟩ := clsF hcl
  exact va_put (Ts := WT) F.1 F.2.1 hw hu ty0 hty0 hnm F.2.2.2.2.1 F.2.2.2.2.2.2.2.1 hP hD hS q0 he hcl sl hsl (hw _ hlink) (fun x hx => by rw [← hC]; exact hx) hfin hty hn hfit hl hd (fun H1 locs1 hP1 hD1 hS1 => K p l e s m args below meth c H1 locs1 G A ls F hin hP1 hD1 hS1 E)
theorem jw_get {idx ci sl N q0 a : Nat} {C : String} {T : u_T} {fs : List Value} {v : Value} (he : ws[q0]? = some (a, .inr (ci, fs))) (hcl : vwCl[ci]? = some (C, T, N)) (hsl : sl < N) (hlink : (.fieldLink (cnm (mO M)) idx C (T sl).2.1 (T sl).2.2.1 : Cond) ∈ WT) (hC : (T sl).1 = C) (hv : fs[sl]? = some v) (hd : decode (mB M) pc = .ok (.getfield idx, 3))
    (K : JW cI cR M R Sh (pc + 3) lv (v :: st) ws cc ss) : JW cI cR M R Sh pc lv (.ref a :: st) ws cc ss := by
  intro p l e s m args below meth c H locs G A ls F hin hP hD hS E
  have hw := F.2.2.2.2.2.2.1
  obtain ⟨hu, _, _⟩ := clsF hcl
  exact va_get (Ts := WT) F.1 F.2.1 hw hu F.2.2.2.2.1 F.2.2.2.2.2.2.2.1 hP q0 he hcl sl hsl (hw _ hlink) (fun x hx => by rw [← hC]; exact hx) hv hd (K p l e s m args below meth c H locs G A ls F hin hP hD hS E)
theorem jw_iast {q0 a n : Nat} {f : Nat → Int32} {i x : Int32} (ha : ws[q0]? = some (a, .inl (cI, n, .inl f))) (hi : vp_in i n) (hd : decode (mB M) pc = .ok (.iastore, 1))
    (K : JW cI cR M R Sh (pc + 1) lv st (ws.set q0 (a, .inl (cI, n, .inl (upd f i.toNatClampNeg x)))) cc ss) : JW cI cR M R Sh pc lv (.int x :: .int i :: .ref a :: st) ws cc ss := by
  intro p l e s m args below meth c H locs G A ls F hin hP hD hS E
  exact va_iast F.1 F.2.1 F.2.2.2.2.2.2.2.1 hP hD hS q0 0 ha rfl hi hd (fun H1 locs1 hP1 hD1 hS1 => K p l e s m args below meth c H1 locs1 G A ls F hin hP1 hD1 hS1 E)
theorem jw_aast {q0 qk a n v : Nat} {f : Nat → Option Nat} {vs : List Value} {i : Int32} (ha : ws[q0]? = some (a, .inl (cR, n, .inr (.inr (.inr (.inr f)))))) (hv : ws[qk]? = some (v, .inr (4, vs))) (hi : vp_in i n) (hd : decode (mB M) pc = .ok (.aastore, 1))
    (K : JW cI cR M R Sh (pc + 1) lv st (ws.set q0 (a, .inl (cR, n, .inr (.inr (.inr (.inr (va_up f i.toNatClampNeg (some v)))))))) cc ss) : JW cI cR M R Sh pc lv (.ref v :: .int i :: .ref a :: st) ws cc ss := by
  intro p l e s m args below meth c H locs G A ls F hin hP hD hS E
  exact va_astq (r := (RX4, TX4, 10)) F.1 F.2.1 F.2.2.2.2.2.2.2.1 hP hD hS q0 1 qk 4 ha rfl hv rfl hi hd (fun H1 locs1 hP1 hD1 hS1 => K p l e s m args below meth c H1 locs1 G A ls F hin hP1 hD1 hS1 E)
theorem range_map {α : Type} (wr : List α) (x : α) : (List.range wr.length).map (fun i => (wr ++ [x])[i]?) = wr.map some := by
  apply List.ext_getElem?
  intro i
  by_cases h : i < wr.length
  · simp [h, List.getElem?_append_left h]
  · simp [Nat.not_lt.mp h]
theorem jw_ctor {Y : MD} {idx d c0 k0 o q : Nat} {fs : List Value} {Sh2 : SHP} {wr : va_W} (hY : Ctr Y d c0 k0 o fs Sh2) (hok : okM Y) (hname : (mY Y).name = "<init>") (hret : mR Y = none) (hpar : mN Y = 0) (hlink : (.methodLink (cnm (mO M)) idx (mY Y) : Cond) ∈ WT ∨ (.methodLinkNest (cnm (mO M)) idx (mY Y) (cnm 6) : Cond) ∈ NT) (hinst : (.instanceMethod (mY Y) : Cond) ∈ WT) (hfr : d + 1 ≤ R.frames) (hlo : 8 + (mL Y + 11) + 40 * d ≤ R.locals) (hcat : ((Value.ref q :: st).map fun v => v.category).sum ≤ 8) (hd : decode (mB M) pc = .ok (.invokespecial idx, 3)) (hc : cc + c0 ≤ R.cells) (hs : ss + k0 ≤ R.slots)
    (K : ∀ w1 : va_W, Sh2 q cI cR w1 → JW cI cR M R Sh (pc + 3) lv (.ref q :: st) (wr ++ w1) (cc + c0) (ss + k0)) : JW cI cR M R Sh pc lv (.ref q :: .ref q :: st) (wr ++ [(q, .inr (o, fs))]) cc ss := by
  intro p l e s m args below meth c H locs G A ls F hin hP hD hS E
  have hw := F.2.2.2.2.2.2.1
  obtain ⟨g1, g2, g3, g4, g5, g6, g7⟩ := okM_sp hok
  rw [hpar] at g6
  have hC : [wr.length].map (fun i => (wr ++ [(q, (.inr (o, fs) : va_E))])[i]?) = [(q, (.inr (o, fs) : va_E))].map some := by simp
  have hF := va_free hD hS F.2.2.2.2.2.2.2.2.1 [wr.length] hC
  have hPc : va_P G vwCl [(q, .inr (o, fs))] H := hP.sub [wr.length] (by simp)
  have hDc : va_D A [(q, (.inr (o, fs) : va_E))] := hD.sub [wr.length] (by simp [va_nd]) hC
  have hGI : GoodIn WT (wsM Y) := by
    intro w hw
    rcases List.mem_cons.mp hw with rfl | hw
    · exact WT_good _ g1
    · exact WT_good _ hw
  have hret' : wsM Y = .code (mY Y) (mB Y) (mL Y) none :: WT := by rw [← hret]; rfl
  have pre : PreS s H (va_Pc [.ref q] (preW G cI cR H.size [(q, .inr (o, fs))])) (.ref q :: []) := ⟨preW_blind, fun U hU hW => ⟨rfl, by rw [hU], by rw [hU]; exact hPc, va_K.moved hW.alike F.2.2.2.2.2.2.2.1, hDc.weaken (fun _ _ _ _ => trivial), F.2.2.2.2.2.2.2.2.2.warm hW, hin.2.moved hW.alike⟩⟩
  have run : va_Run p l e R s m args below meth c H locs cc ss c0 k0 (F0 m pc ls (.ref q :: .ref q :: st)) (.ref q :: st) (QW G cI cR (va_A [(q, .inr (o, fs))] H.size) (Sh2 q cI cR) (Value.ref q :: []).toArray) (va_A [(q, .inr (o, fs))] H.size) := by
    rcases hlink with hl | hl
    · exact va_runI (As := []) (rest := .ref q :: st) ⟨F.1, F.2.1, F.2.2.2.1, F.2.2.2.2.1, hw⟩ (hY l G cI cR H.size q) (cwI 0 hw hGI hret' rfl rfl (hw _ g2) (hw _ hl) (hw _ hinst) hname ⟨g5.1, g5.2, g6⟩ ⟨hfr, hlo⟩) pre rfl rfl E.1 rfl (lv_room hcat) hd ⟨hc, hs⟩
    · exact va_runIN (As := []) (rest := .ref q :: st) ⟨F.1, F.2.1, F.2.2.2.1, F.2.2.2.2.1, hw⟩ (hY l G cI cR H.size q) ⟨va_cnB 0 hw hGI hret' rfl rfl (F.2.2.2.2.2.2.2.2.2 _ hl) (hw _ g2) ⟨g5.1, g5.2, g6⟩ ⟨hfr, hlo⟩, hname, hw _ hinst⟩ pre rfl rfl E.1 rfl (lv_room hcat) hd ⟨hc, hs⟩
  refine va_callv run hS (fun x _ h => hF x h) hF (fun w1 t H1 locs1 ht hvm hsh hB hz1 hk1 hS1 => ?_)
  obtain ⟨hP1, hK1, hD1⟩ := hB
  rw [ht] at hP1
  obtain ⟨hP2, hD2⟩ := va_join (wr := wr) (w1 := w1) hP hD [wr.length] (List.range wr.length) hC (range_map wr _) (va_nd_of List.nodup_range) (fun i hi hj => by
    rw [List.mem_range] at hi
    rw [List.mem_singleton] at hj
    omega) hk1 hF hP1 hD1
  exact K w1 hsh p l e s m args below meth c H1 locs1 G A ls F hin hP2 hD2 hS1 E
theorem jw_ret (hret : mR M = none) (hsh : Sh ws) (hc : cc ≤ R.cells) (hs : ss ≤ R.slots) (hd : decode (mB M) pc = .ok (.return_, 1)) : JW cI cR M R Sh pc lv [] ws cc ss := by
  intro p l e s m args below meth c H locs G A ls F hin hP hD hS E
  refine W.widen hc hs ?_
  exact W.vret F.1 F.2.1 (F.2.2.1.trans hret) (fun t ht hW => ⟨⟨ws, rfl, hsh, by rw [ht]; exact hP, va_K.moved hW.alike F.2.2.2.2.2.2.2.1, hD⟩, hS.F ht⟩) hS.2.2 hd F.2.2.2.2.2.1
end JWS
end
/-! ctors -/
section
/-! ===== the constructors ===== -/
def fs0 : List Value := [.null, .int (zI 0)]
theorem df0 : ∀ j, j < 2 → defaultValue (tyX0 j) = vp_V fs0 j := by
  intro j hj
  match j, hj with
  | 0, _ => rfl
  | 1, _ => rfl
  | k + 2, h => exact absurd h (by omega)
def fs1 : List Value := [.null, .null, .null]
theorem df1 : ∀ j, j < 3 → defaultValue (tyX1 j) = vp_V fs1 j := by
  intro j hj
  match j, hj with
  | 0, _ => rfl
  | 1, _ => rfl
  | 2, _ => rfl
  | k + 3, h => exact absurd h (by omega)
def fs2 : List Value := [.null, .int (zI 0)]
theorem df2 : ∀ j, j < 2 → defaultValue (tyX2 j) = vp_V fs2 j := by
  intro j hj
  match j, hj with
  | 0, _ => rfl
  | 1, _ => rfl
  | k + 2, h => exact absurd h (by omega)
def fs3 : List Value := [.null, .int (zI 0)]
theorem df3 : ∀ j, j < 2 → defaultValue (tyX3 j) = vp_V fs3 j := by
  intro j hj
  match j, hj with
  | 0, _ => rfl
  | 1, _ => rfl
  | k + 2, h => exact absurd h (by omega)
def fs4 : List Value := [.null, .null, .null, .null, .null, .int (zI 0), .int (zI 0), .int (zI 0), .int (zI 0), .int (zI 0)]
theorem df4 : ∀ j, j < 10 → defaultValue (tyX4 j) = vp_V fs4 j := by
  intro j hj
  match j, hj with
  | 0, _ => rfl
  | 1, _ => rfl
  | 2, _ => rfl
  | 3, _ => rfl
  | 4, _ => rfl
  | 5, _ => rfl
  | 6, _ => rfl
  | 7, _ => rfl
  | 8, _ => rfl
  | 9, _ => rfl
  | k + 10, h => exact absurd h (by omega)
def fs5 : List Value := [.null, .int (zI 0)]
theorem df5 : ∀ j, j < 2 → defaultValue (tyX5 j) = vp_V fs5 j := by
  intro j hj
  match j, hj with
  | 0, _ => rfl
  | 1, _ => rfl
  | k + 2, h => exact absurd h (by omega)
def fs6 : List Value := [.null, .null, .null, .null, .null, .null, .null, .null, .null, .int (zI 0)]
theorem df6 : ∀ j, j < 10 → defaultValue (tyX6 j) = vp_V fs6 j := by
  intro j hj
  match j, hj with
  | 0, _ => rfl
  | 1, _ => rfl
  | 2, _ => rfl
  | 3, _ => rfl
  | 4, _ => rfl
  | 5, _ => rfl
  | 6, _ => rfl
  | 7, _ => rfl
  | 8, _ => rfl
  | 9, _ => rfl
  | k + 10, h => exact absurd h (by omega)
def fs7 : List Value := [.null, .int (zI 0), .int (zI 0), .int (zI 0), .null, .null, .null, .null, .int (zI 0), .int (zI 0), .int (zI 0), .null, .null, .int (zI 0), .int (zI 0), .int (zI 0), .int (zI 0), .null, .null, .null, .null, .null, .int (zI 0), .int (zI 0), .int (zI 0), .null, .null, .null, .int (zI 0), .null, .int (zI 0), .null, .int (zI 0)]
theorem df7 : ∀ j, j < 33 → defaultValue (tyX7 j) = vp_V fs7 j := by
  intro j hj
  match j, hj with
  | 0, _ => rfl
  | 1, _ => rfl
  | 2, _ => rfl
  | 3, _ => rfl
  | 4, _ => rfl
  | 5, _ => rfl
  | 6, _ => rfl
  | 7, _ => rfl
  | 8, _ => rfl
  | 9, _ => rfl
  | 10, _ => rfl
  | 11, _ => rfl
  | 12, _ => rfl
  | 13, _ => rfl
  | 14, _ => rfl
  | 15, _ => rfl
  | 16, _ => rfl
  | 17, _ => rfl
  | 18, _ => rfl
  | 19, _ => rfl
  | 20, _ => rfl
  | 21, _ => rfl
  | 22, _ => rfl
  | 23, _ => rfl
  | 24, _ => rfl
  | 25, _ => rfl
  | 26, _ => rfl
  | 27, _ => rfl
  | 28, _ => rfl
  | 29, _ => rfl
  | 30, _ => rfl
  | 31, _ => rfl
  | 32, _ => rfl
  | k + 33, h => exact absurd h (by omega)
abbrev cA (cI : ClassId) (n : Nat) (f : Nat → Int32) : va_E := .inl (cI, n, .inl f)
abbrev cQ (cR : ClassId) (n : Nat) (f : Nat → Option Nat) : va_E := .inl (cR, n, .inr (.inr (.inr (.inr f))))
def zr : Nat → Int32 := fun _ => zI 0
def onesF (n : Nat) : Nat → Int32 := fun j => zI (if j < n then 1 else 0)
theorem ones_up (i : Nat) : upd (onesF i) i (zI 1) = onesF (i + 1) := by
  funext j
  simp only [upd, onesF]
  by_cases h : j = i
  · subst h
    rw [if_pos rfl, if_pos (by omega)]
  · by_cases h2 : j < i
    · rw [if_neg h, if_pos h2, if_pos (by omega)]
    · rw [if_neg h, if_neg h2, if_neg (by omega)]
theorem ones_0 : onesF 0 = zr := by
  funext j
  rfl
theorem tnc {i : Nat} (h : i < 100) : (zI (i : Int)).toNatClampNeg = i := by
  show (zI (i : Int)).toInt.toNat = i
  rw [an_ (by omega) (by omega), Int.toNat_natCast]
theorem vp_inC {i n : Nat} (h : i < n) (hn : n ≤ 100) : vp_in (zI (i : Int)) n := by
  intro q
  rcases q with q | q
  · rw [Int32.lt_iff_toInt_lt, an_ (by omega) (by omega)] at q
    have : (0 : Int32).toInt = 0 := rfl
    omega
  · rw [tnc (by omega)] at q
    omega
theorem le_zI {n : Int32} {z : Nat} {i : Nat} (hn : n.toInt = z) (hi : i < 100) : (n ≤ zI (i : Int)) = (z ≤ i) := by
  rw [Int32.le_iff_toInt_le, an_ (by omega) (by omega), hn]
  simp
theorem jw_ws {cI cR : ClassId} {M : MD} {R : Room} {Sh : va_W → Prop} {pc : Nat} {lv : List (Nat × Value)} {st : List Value} {ws ws' : va_W} {cc ss : Nat} (h : ws = ws') (K : JW cI cR M R Sh pc lv st ws' cc ss) : JW cI cR M R Sh pc lv st ws cc ss := h ▸ K
theorem jw_n {cI cR : ClassId} {M : MD} {R : Room} {Sh : va_W → Prop} {pc : Nat} {lv : List (Nat × Value)} {st : List Value} {ws : va_W} {cc ss cc' ss' : Nat} (h1 : cc = cc') (h2 : ss = ss') (K : JW cI cR M R Sh pc lv st ws cc' ss') : JW cI cR M R Sh pc lv st ws cc ss := by
  subst h1
  subst h2
  exact K
def RW (cI : ClassId) (a : Nat → Nat) : va_W := [(a 0, .inr (4, [.ref (a 1), .ref (a 2), .ref (a 3), .ref (a 4), .ref (a 5), .int (zI 0), .int (zI 0), .int (zI 12), .int (zI 0), .int (zI 0)])), (a 1, cA cI 12 (onesF 12)), (a 2, cA cI 8 zr), (a 3, cA cI 8 zr), (a 4, cA cI 8 zr), (a 5, cA cI 8 zr)]
def Sh4 : SHP := fun h0 cI _ w => ∃ a : Nat → Nat, a 0 = h0 ∧ w = RW cI a
def PB (cI : ClassId) (b : Nat → Nat → Nat) : Nat → va_W
  | 0 => []
  | i + 1 => PB cI b i ++ RW cI (b i)
def Sh3 : SHP := fun h0 cI cR w => ∃ (a : Nat) (b : Nat → Nat → Nat), w = (h0, .inr (3, [.ref a, .int (zI 0)])) :: (a, cQ cR 8 (fun j => if j < 8 then some (b j 0) else none)) :: PB cI b 8
def Sh2 : SHP := fun h0 cI _ w => ∃ a : Nat, w = [(h0, .inr (2, [.ref a, .int (zI 0)])), (a, cA cI 96 zr)]
def Sh5 : SHP := fun h0 cI _ w => ∃ a : Nat, w = [(h0, .inr (5, [.ref a, .int (zI 0)])), (a, cA cI 12 zr)]
def Sh1 : SHP := fun h0 cI _ w => ∃ (r : Nat → Nat) (a b : Nat), w = (h0, .inr (1, [.ref (r 0), .ref a, .ref b])) :: ((RW cI r ++ [(a, cA cI 4 zr)]) ++ [(b, cA cI 4 zr)])
def Sh0 : SHP := fun h0 cI _ w => ∃ r : Nat → Nat, w = (h0, .inr (0, [.ref (r 0), .int (zI 0)])) :: RW cI r
theorem ctr_4 : Ctr M_Re_init 1 5 44 4 fs4 Sh4 := by
  refine ctr_of ok_Re_init rfl (Nat.le_of_ble_eq_true rfl) (fun cI cR h0 => ?_)
  refine jw_aload (i := 0) 0 (by decide +kernel) rfl ?_
  refine jw_obj (idx := 3) (g9_ (i := 25) rfl rfl) (g9_ (i := 18) rfl rfl) (g9_ (i := 19) rfl rfl) (by decide +kernel) (Nat.le_of_ble_eq_true rfl) (Nat.le_of_ble_eq_true rfl) ?_
  refine jw_aload (i := 0) 0 (by decide +kernel) rfl ?_
  refine jw_bip (n := 12) (v := zI 12) (by decide +kernel) rfl ?_
  refine jw_newa (N := 12) (g9_ (i := 66) rfl rfl) (by decide +kernel) (by decide +kernel) (Nat.le_of_ble_eq_true rfl) (by decide +kernel) (Nat.le_of_ble_eq_true rfl) (Nat.le_of_ble_eq_true rfl) (fun q1 => ?_)
  refine jw_putF (idx := 9) (q0 := 0) (sl := 0) (N := 10) (C := RX4) (T := TX4) (ty := tyX4 0) rfl rfl (Nat.le_of_ble_eq_true rfl) (g9_ (i := 26) rfl rfl) rfl rfl rfl (tyX4_ok 0 (Nat.le_of_ble_eq_true rfl)) rfl rfl (Nat.le_of_ble_eq_true rfl) (by decide +kernel) ?_
  refine jw_ws (ws' := (h0, .inr (4, [.ref q1, .null, .null, .null, .null, .int (zI 0), .int (zI 0), .int (zI 0), .int (zI 0), .int (zI 0)])) :: [(q1, cA cI 12 zr)]) rfl ?_
  refine jw_aload (i := 0) 0 (by decide +kernel) rfl ?_
  refine jw_bip (n := 8) (v := zI 8) (by decide +kernel) rfl ?_
  refine jw_newa (N := 8) (g9_ (i := 66) rfl rfl) (by decide +kernel) (by decide +kernel) (Nat.le_of_ble_eq_true rfl) (by decide +kernel) (Nat.le_of_ble_eq_true rfl) (Nat.le_of_ble_eq_true rfl) (fun q2 => ?_)
  refine jw_putF (idx := 15) (q0 := 0) (sl := 1) (N := 10) (C := RX4) (T := TX4) (ty := tyX4 1) rfl rfl (Nat.le_of_ble_eq_true rfl) (g9_ (i := 27) rfl rfl) rfl rfl rfl (tyX4_ok 1 (Nat.le_of_ble_eq_true rfl)) rfl rfl (Nat.le_of_ble_eq_true rfl) (by decide +kernel) ?_
  refine jw_ws (ws' := (h0, .inr (4, [.ref q1, .ref q2, .null, .null, .null, .int (zI 0), .int (zI 0), .int (zI 0), .int (zI 0), .int (zI 0)])) :: ([(q1, cA cI 12 zr)] ++ [(q2, cA cI 8 zr)])) rfl ?_
  refine jw_aload (i := 0) 0 (by decide +kernel) rfl ?_
  refine jw_bip (n := 8) (v := zI 8) (by decide +kernel) rfl ?_
  refine jw_newa (N := 8) (g9_ (i := 66) rfl rfl) (by decide +kernel) (by decide +kernel) (Nat.le_of_ble_eq_true rfl) (by decide +kernel) (Nat.le_of_ble_eq_true rfl) (Nat.le_of_ble_eq_true rfl) (fun q3 => ?_)
  refine jw_putF (idx := 18) (q0 := 0) (sl := 2) (N := 10) (C := RX4) (T := TX4) (ty := tyX4 2) rfl rfl (Nat.le_of_ble_eq_true rfl) (g9_ (i := 28) rfl rfl) rfl rfl rfl (tyX4_ok 2 (Nat.le_of_ble_eq_true rfl)) rfl rfl (Nat.le_of_ble_eq_true rfl) (by decide +kernel) ?_
  refine jw_ws (ws' := (h0, .inr (4, [.ref q1, .ref q2, .ref q3, .null, .null, .int (zI 0), .int (zI 0), .int (zI 0), .int (zI 0), .int (zI 0)])) :: (([(q1, cA cI 12 zr)] ++ [(q2, cA cI 8 zr)]) ++ [(q3, cA cI 8 zr)])) rfl ?_
  refine jw_aload (i := 0) 0 (by decide +kernel) rfl ?_
  refine jw_bip (n := 8) (v := zI 8) (by decide +kernel) rfl ?_
  refine jw_newa (N := 8) (g9_ (i := 66) rfl rfl) (by decide +kernel) (by decide +kernel) (Nat.le_of_ble_eq_true rfl) (by decide +kernel) (Nat.le_of_ble_eq_true rfl) (Nat.le_of_ble_eq_true rfl) (fun q4 => ?_)
  refine jw_putF (idx := 21) (q0 := 0) (sl := 3) (N := 10) (C := RX4) (T := TX4) (ty := tyX4 3) rfl rfl (Nat.le_of_ble_eq_true rfl) (g9_ (i := 29) rfl rfl) rfl rfl rfl (tyX4_ok 3 (Nat.le_of_ble_eq_true rfl)) rfl rfl (Nat.le_of_ble_eq_true rfl) (by decide +kernel) ?_
  refine jw_ws (ws' := (h0, .inr (4, [.ref q1, .ref q2, .ref q3, .ref q4, .null, .int (zI 0), .int (zI 0), .int (zI 0), .int (zI 0), .int (zI 0)])) :: ((([(q1, cA cI 12 zr)] ++ [(q2, cA cI 8 zr)]) ++ [(q3, cA cI 8 zr)]) ++ [(q4, cA cI 8 zr)])) rfl ?_
  refine jw_aload (i := 0) 0 (by decide +kernel) rfl ?_
  refine jw_bip (n := 8) (v := zI 8) (by decide +kernel) rfl ?_
  refine jw_newa (N := 8) (g9_ (i := 66) rfl rfl) (by decide +kernel) (by decide +kernel) (Nat.le_of_ble_eq_true rfl) (by decide +kernel) (Nat.le_of_ble_eq_true rfl) (Nat.le_of_ble_eq_true rfl) (fun q5 => ?_)
  refine jw_putF (idx := 24) (q0 := 0) (sl := 4) (N := 10) (C := RX4) (T := TX4) (ty := tyX4 4) rfl rfl (Nat.le_of_ble_eq_true rfl) (g9_ (i := 30) rfl rfl) rfl rfl rfl (tyX4_ok 4 (Nat.le_of_ble_eq_true rfl)) rfl rfl (Nat.le_of_ble_eq_true rfl) (by decide +kernel) ?_
  refine jw_ws (ws' := (h0, .inr (4, [.ref q1, .ref q2, .ref q3, .ref q4, .ref q5, .int (zI 0), .int (zI 0), .int (zI 0), .int (zI 0), .int (zI 0)])) :: (((([(q1, cA cI 12 zr)] ++ [(q2, cA cI 8 zr)]) ++ [(q3, cA cI 8 zr)]) ++ [(q4, cA cI 8 zr)]) ++ [(q5, cA cI 8 zr)])) rfl ?_
  refine jw_aload (i := 0) 0 (by decide +kernel) rfl ?_
  refine jw_icn (n := 0) (v := zI 0) (by decide +kernel) rfl ?_
  refine jw_put (idx := 27) (q0 := 0) (sl := 5) (N := 10) (C := RX4) (T := TX4) (ty := tyX4 5) rfl rfl (Nat.le_of_ble_eq_true rfl) (g9_ (i := 31) rfl rfl) rfl rfl (tyX4_ok 5 (Nat.le_of_ble_eq_true rfl)) rfl rfl (Nat.le_of_ble_eq_true rfl) (by decide +kernel) ?_
  refine jw_ws (ws' := (h0, .inr (4, [.ref q1, .ref q2, .ref q3, .ref q4, .ref q5, .int (zI 0), .int (zI 0), .int (zI 0), .int (zI 0), .int (zI 0)])) :: (((([(q1, cA cI 12 zr)] ++ [(q2, cA cI 8 zr)]) ++ [(q3, cA cI 8 zr)]) ++ [(q4, cA cI 8 zr)]) ++ [(q5, cA cI 8 zr)])) rfl ?_
  refine jw_aload (i := 0) 0 (by decide +kernel) rfl ?_
  refine jw_icn (n := 0) (v := zI 0) (by decide +kernel) rfl ?_
  refine jw_put (idx := 31) (q0 := 0) (sl := 6) (N := 10) (C := RX4) (T := TX4) (ty := tyX4 6) rfl rfl (Nat.le_of_ble_eq_true rfl) (g9_ (i := 33) rfl rfl) rfl rfl (tyX4_ok 6 (Nat.le_of_ble_eq_true rfl)) rfl rfl (Nat.le_of_ble_eq_true rfl) (by decide +kernel) ?_
  refine jw_ws (ws' := (h0, .inr (4, [.ref q1, .ref q2, .ref q3, .ref q4, .ref q5, .int (zI 0), .int (zI 0), .int (zI 0), .int (zI 0), .int (zI 0)])) :: (((([(q1, cA cI 12 zr)] ++ [(q2, cA cI 8 zr)]) ++ [(q3, cA cI 8 zr)]) ++ [(q4, cA cI 8 zr)]) ++ [(q5, cA cI 8 zr)])) rfl ?_
  refine jw_aload (i := 0) 0 (by decide +kernel) rfl ?_
  refine jw_bip (n := 12) (v := zI 12) (by decide +kernel) rfl ?_
  refine jw_put (idx := 34) (q0 := 0) (sl := 7) (N := 10) (C := RX4) (T := TX4) (ty := tyX4 7) rfl rfl (Nat.le_of_ble_eq_true rfl) (g9_ (i := 37) rfl rfl) rfl rfl (tyX4_ok 7 (Nat.le_of_ble_eq_true rfl)) rfl rfl (Nat.le_of_ble_eq_true rfl) (by decide +kernel) ?_
  refine jw_ws (ws' := (h0, .inr (4, [.ref q1, .ref q2, .ref q3, .ref q4, .ref q5, .int (zI 0), .int (zI 0), .int (zI 12), .int (zI 0), .int (zI 0)])) :: (((([(q1, cA cI 12 zr)] ++ [(q2, cA cI 8 zr)]) ++ [(q3, cA cI 8 zr)]) ++ [(q4, cA cI 8 zr)]) ++ [(q5, cA cI 8 zr)])) rfl ?_
  refine jw_aload (i := 0) 0 (by decide +kernel) rfl ?_
  refine jw_icn (n := 0) (v := zI 0) (by decide +kernel) rfl ?_
  refine jw_put (idx := 37) (q0 := 0) (sl := 8) (N := 10) (C := RX4) (T := TX4) (ty := tyX4 8) rfl rfl (Nat.le_of_ble_eq_true rfl) (g9_ (i := 40) rfl rfl) rfl rfl (tyX4_ok 8 (Nat.le_of_ble_eq_true rfl)) rfl rfl (Nat.le_of_ble_eq_true rfl) (by decide +kernel) ?_
  refine jw_ws (ws' := (h0, .inr (4, [.ref q1, .ref q2, .ref q3, .ref q4, .ref q5, .int (zI 0), .int (zI 0), .int (zI 12), .int (zI 0), .int (zI 0)])) :: (((([(q1, cA cI 12 zr)] ++ [(q2, cA cI 8 zr)]) ++ [(q3, cA cI 8 zr)]) ++ [(q4, cA cI 8 zr)]) ++ [(q5, cA cI 8 zr)])) rfl ?_
  refine jw_aload (i := 0) 0 (by decide +kernel) rfl ?_
  refine jw_icn (n := 0) (v := zI 0) (by decide +kernel) rfl ?_
  refine jw_put (idx := 40) (q0 := 0) (sl := 9) (N := 10) (C := RX4) (T := TX4) (ty := tyX4 9) rfl rfl (Nat.le_of_ble_eq_true rfl) (g9_ (i := 43) rfl rfl) rfl rfl (tyX4_ok 9 (Nat.le_of_ble_eq_true rfl)) rfl rfl (Nat.le_of_ble_eq_true rfl) (by decide +kernel) ?_
  refine jw_ws (ws' := (h0, .inr (4, [.ref q1, .ref q2, .ref q3, .ref q4, .ref q5, .int (zI 0), .int (zI 0), .int (zI 12), .int (zI 0), .int (zI 0)])) :: (((([(q1, cA cI 12 zr)] ++ [(q2, cA cI 8 zr)]) ++ [(q3, cA cI 8 zr)]) ++ [(q4, cA cI 8 zr)]) ++ [(q5, cA cI 8 zr)])) rfl ?_
  refine jw_icn (n := 0) (v := zI 0) (by decide +kernel) rfl ?_
  refine jw_istore (i := 1) (lv' := [(1, .int (zI 0)), (0, .ref h0)]) (by decide +kernel) (Nat.le_of_ble_eq_true rfl) rfl ?_
  have loop : ∀ n i : Nat, i + n = 12 → JW cI cR M_Re_init (rmC 1 5 44) (Sh4 h0 cI cR) 72 [(1, .int (zI (i : Int))), (0, .ref h0)] [] ((h0, .inr (4, [.ref q1, .ref q2, .ref q3, .ref q4, .ref q5, .int (zI 0), .int (zI 0), .int (zI 12), .int (zI 0), .int (zI 0)])) :: (((([(q1, cA cI 12 (onesF i))] ++ [(q2, cA cI 8 zr)]) ++ [(q3, cA cI 8 zr)]) ++ [(q4, cA cI 8 zr)]) ++ [(q5, cA cI 8 zr)])) 5 44 := by
    intro n
    induction n with
    | zero =>
      intro i hi
      have e : i = 12 := by omega
      subst e
      refine jw_iload (i := 1) 0 (by decide +kernel) rfl ?_
      refine jw_bip (n := 12) (v := 12) (by decide +kernel) rfl ?_
      refine jw_ge (off := 16) (tgt := 91) (by decide +kernel) rfl (fun _ => ?_) (fun q => absurd ((le_zI (z := 12) rfl (by omega)).mpr (Nat.le_refl 12)) q)
      exact jw_ret rfl (⟨(fun k => match k with | 0 => h0 | 1 => q1 | 2 => q2 | 3 => q3 | 4 => q4 | _ => q5), rfl, rfl⟩) (Nat.le_of_ble_eq_true rfl) (Nat.le_of_ble_eq_true rfl) (by decide +kernel)
    | succ n ih =>
      intro i hi
      have step := ih (i + 1) (by omega)
      rw [← ones_up] at step
      refine jw_iload (i := 1) 0 (by decide +kernel) rfl ?_
      refine jw_bip (n := 12) (v := 12) (by decide +kernel) rfl ?_
      refine jw_ge (off := 16) (tgt := 91) (by decide +kernel) rfl (fun q => absurd ((le_zI (z := 12) rfl (by omega)).mp q) (by omega)) (fun _ => ?_)
      refine jw_aload (i := 0) 1 (by decide +kernel) rfl ?_
      refine jw_get (idx := 9) (q0 := 0) (sl := 0) (N := 10) (C := RX4) (T := TX4) rfl rfl (Nat.le_of_ble_eq_true rfl) (g9_ (i := 26) rfl rfl) rfl rfl (by decide +kernel) ?_
      refine jw_iload (i := 1) 0 (by decide +kernel) rfl ?_
      refine jw_icn (n := 1) (v := zI 1) (by decide +kernel) rfl ?_
      refine jw_iast (q0 := 1) (n := 12) (f := onesF i) rfl (vp_inC (by omega) (by omega)) (by decide +kernel) ?_
      rw [tnc (by omega)]
      refine jw_iinc (i := 1) (n := 1) (k := 0) (v := zI ((i + 1 : Nat) : Int)) (lv' := [(1, .int (zI ((i + 1 : Nat) : Int))), (0, .ref h0)]) (by decide +kernel) rfl (cf_ _ _) (Nat.le_of_ble_eq_true rfl) rfl ?_
      refine jw_goto (off := -16) (tgt := 72) (by decide +kernel) rfl ?_
      exact step
  have l0 := loop 12 0 rfl
  rw [ones_0] at l0
  exact l0
theorem ctr_2 : Ctr M_Le_init 1 1 96 2 fs2 Sh2 := by
  refine ctr_of ok_Le_init rfl (Nat.le_of_ble_eq_true rfl) (fun cI cR h0 => ?_)
  refine jw_aload (i := 0) 0 (by decide +kernel) rfl ?_
  refine jw_obj (idx := 3) (g9_ (i := 89) rfl rfl) (g9_ (i := 18) rfl rfl) (g9_ (i := 19) rfl rfl) (by decide +kernel) (Nat.le_of_ble_eq_true rfl) (Nat.le_of_ble_eq_true rfl) ?_
  refine jw_aload (i := 0) 0 (by decide +kernel) rfl ?_
  refine jw_bip (n := 96) (v := zI 96) (by decide +kernel) rfl ?_
  refine jw_newa (N := 96) (g9_ (i := 66) rfl rfl) (by decide +kernel) (by decide +kernel) (Nat.le_of_ble_eq_true rfl) (by decide +kernel) (Nat.le_of_ble_eq_true rfl) (Nat.le_of_ble_eq_true rfl) (fun q1 => ?_)
  refine jw_putF (idx := 9) (q0 := 0) (sl := 0) (N := 2) (C := RX2) (T := TX2) (ty := tyX2 0) rfl rfl (Nat.le_of_ble_eq_true rfl) (g9_ (i := 90) rfl rfl) rfl rfl rfl (tyX2_ok 0 (Nat.le_of_ble_eq_true rfl)) rfl rfl (Nat.le_of_ble_eq_true rfl) (by decide +kernel) ?_
  refine jw_ws (ws' := (h0, .inr (2, [.ref q1, .int (zI 0)])) :: [(q1, cA cI 96 zr)]) rfl ?_
  refine jw_aload (i := 0) 0 (by decide +kernel) rfl ?_
  refine jw_icn (n := 0) (v := zI 0) (by decide +kernel) rfl ?_
  refine jw_put (idx := 15) (q0 := 0) (sl := 1) (N := 2) (C := RX2) (T := TX2) (ty := tyX2 1) rfl rfl (Nat.le_of_ble_eq_true rfl) (g9_ (i := 91) rfl rfl) rfl rfl (tyX2_ok 1 (Nat.le_of_ble_eq_true rfl)) rfl rfl (Nat.le_of_ble_eq_true rfl) (by decide +kernel) ?_
  refine jw_ws (ws' := (h0, .inr (2, [.ref q1, .int (zI 0)])) :: [(q1, cA cI 96 zr)]) rfl ?_
  refine jw_ret rfl ?_ (Nat.le_of_ble_eq_true rfl) (Nat.le_of_ble_eq_true rfl) (by decide +kernel)
  exact ⟨q1, rfl⟩
theorem ctr_5 : Ctr M_Ro_init 1 1 12 5 fs5 Sh5 := by
  refine ctr_of ok_Ro_init rfl (Nat.le_of_ble_eq_true rfl) (fun cI cR h0 => ?_)
  refine jw_aload (i := 0) 0 (by decide +kernel) rfl ?_
  refine jw_obj (idx := 3) (g9_ (i := 103) rfl rfl) (g9_ (i := 18) rfl rfl) (g9_ (i := 19) rfl rfl) (by decide +kernel) (Nat.le_of_ble_eq_true rfl) (Nat.le_of_ble_eq_true rfl) ?_
  refine jw_aload (i := 0) 0 (by decide +kernel) rfl ?_
  refine jw_bip (n := 12) (v := zI 12) (by decide +kernel) rfl ?_
  refine jw_newa (N := 12) (g9_ (i := 66) rfl rfl) (by decide +kernel) (by decide +kernel) (Nat.le_of_ble_eq_true rfl) (by decide +kernel) (Nat.le_of_ble_eq_true rfl) (Nat.le_of_ble_eq_true rfl) (fun q1 => ?_)
  refine jw_putF (idx := 9) (q0 := 0) (sl := 0) (N := 2) (C := RX5) (T := TX5) (ty := tyX5 0) rfl rfl (Nat.le_of_ble_eq_true rfl) (g9_ (i := 104) rfl rfl) rfl rfl rfl (tyX5_ok 0 (Nat.le_of_ble_eq_true rfl)) rfl rfl (Nat.le_of_ble_eq_true rfl) (by decide +kernel) ?_
  refine jw_ws (ws' := (h0, .inr (5, [.ref q1, .int (zI 0)])) :: [(q1, cA cI 12 zr)]) rfl ?_
  refine jw_aload (i := 0) 0 (by decide +kernel) rfl ?_
  refine jw_icn (n := 0) (v := zI 0) (by decide +kernel) rfl ?_
  refine jw_put (idx := 15) (q0 := 0) (sl := 1) (N := 2) (C := RX5) (T := TX5) (ty := tyX5 1) rfl rfl (Nat.le_of_ble_eq_true rfl) (g9_ (i := 105) rfl rfl) rfl rfl (tyX5_ok 1 (Nat.le_of_ble_eq_true rfl)) rfl rfl (Nat.le_of_ble_eq_true rfl) (by decide +kernel) ?_
  refine jw_ws (ws' := (h0, .inr (5, [.ref q1, .int (zI 0)])) :: [(q1, cA cI 12 zr)]) rfl ?_
  refine jw_ret rfl ?_ (Nat.le_of_ble_eq_true rfl) (Nat.le_of_ble_eq_true rfl) (by decide +kernel)
  exact ⟨q1, rfl⟩
theorem ctr_1 : Ctr M_Co_init 2 8 62 1 fs1 Sh1 := by
  refine ctr_of ok_Co_init rfl (Nat.le_of_ble_eq_true rfl) (fun cI cR h0 => ?_)
  refine jw_aload (i := 0) 0 (by decide +kernel) rfl ?_
  refine jw_obj (idx := 3) (g9_ (i := 118) rfl rfl) (g9_ (i := 18) rfl rfl) (g9_ (i := 19) rfl rfl) (by decide +kernel) (Nat.le_of_ble_eq_true rfl) (Nat.le_of_ble_eq_true rfl) ?_
  refine jw_aload (i := 0) 0 (by decide +kernel) rfl ?_
  refine jw_new (idx := 9) (fs := fs4) (C := RX4) (T := TX4) (N := 10) (ci := 4) rfl (g9_ (i := 119) rfl rfl) (g9_ (i := 21) rfl rfl) (g9_ (i := 2) rfl rfl) tyX4 tyX4_ok df4 (by decide +kernel) (Nat.le_of_ble_eq_true rfl) (Nat.le_of_ble_eq_true rfl) (fun q1 => ?_)
  refine jw_dup (by decide +kernel) ?_
  refine jw_ctor (idx := 11) ctr_4 ok_Re_init rfl rfl rfl (Or.inl (g9_ (i := 120) rfl rfl)) (g9_ (i := 23) rfl rfl) (Nat.le_of_ble_eq_true rfl) (Nat.le_of_ble_eq_true rfl) (Nat.le_of_ble_eq_true rfl) (by decide +kernel) (Nat.le_of_ble_eq_true rfl) (Nat.le_of_ble_eq_true rfl) (fun w1 hw1 => ?_)
  obtain ⟨r1, rfl, rfl⟩ := hw1
  refine jw_putF (idx := 12) (q0 := 0) (sl := 0) (N := 3) (C := RX1) (T := TX1) (ty := tyX1 0) rfl rfl (Nat.le_of_ble_eq_true rfl) (g9_ (i := 121) rfl rfl) rfl rfl rfl (tyX1_ok 0 (Nat.le_of_ble_eq_true rfl)) rfl rfl (Nat.le_of_ble_eq_true rfl) (by decide +kernel) ?_
  refine jw_ws (ws' := (h0, .inr (1, [.ref (r1 0), .null, .null])) :: RW cI r1) rfl ?_
  refine jw_aload (i := 0) 0 (by decide +kernel) rfl ?_
  refine jw_icn (n := 4) (v := zI 4) (by decide +kernel) rfl ?_
  refine jw_newa (N := 4) (g9_ (i := 66) rfl rfl) (by decide +kernel) (by decide +kernel) (Nat.le_of_ble_eq_true rfl) (by decide +kernel) (Nat.le_of_ble_eq_true rfl) (Nat.le_of_ble_eq_true rfl) (fun q2 => ?_)
  refine jw_putF (idx := 18) (q0 := 0) (sl := 1) (N := 3) (C := RX1) (T := TX1) (ty := tyX1 1) rfl rfl (Nat.le_of_ble_eq_true rfl) (g9_ (i := 122) rfl rfl) rfl rfl rfl (tyX1_ok 1 (Nat.le_of_ble_eq_true rfl)) rfl rfl (Nat.le_of_ble_eq_true rfl) (by decide +kernel) ?_
  refine jw_ws (ws' := (h0, .inr (1, [.ref (r1 0), .ref q2, .null])) :: (RW cI r1 ++ [(q2, cA cI 4 zr)])) rfl ?_
  refine jw_aload (i := 0) 0 (by decide +kernel) rfl ?_
  refine jw_icn (n := 4) (v := zI 4) (by decide +kernel) rfl ?_
  refine jw_newa (N := 4) (g9_ (i := 66) rfl rfl) (by decide +kernel) (by decide +kernel) (Nat.le_of_ble_eq_true rfl) (by decide +kernel) (Nat.le_of_ble_eq_true rfl) (Nat.le_of_ble_eq_true rfl) (fun q3 => ?_)
  refine jw_putF (idx := 22) (q0 := 0) (sl := 2) (N := 3) (C := RX1) (T := TX1) (ty := tyX1 2) rfl rfl (Nat.le_of_ble_eq_true rfl) (g9_ (i := 123) rfl rfl) rfl rfl rfl (tyX1_ok 2 (Nat.le_of_ble_eq_true rfl)) rfl rfl (Nat.le_of_ble_eq_true rfl) (by decide +kernel) ?_
  refine jw_ws (ws' := (h0, .inr (1, [.ref (r1 0), .ref q2, .ref q3])) :: ((RW cI r1 ++ [(q2, cA cI 4 zr)]) ++ [(q3, cA cI 4 zr)])) rfl ?_
  refine jw_ret rfl ?_ (Nat.le_of_ble_eq_true rfl) (Nat.le_of_ble_eq_true rfl) (by decide +kernel)
  exact ⟨r1, q2, q3, rfl⟩
theorem ctr_0 : Ctr M_Ch_init 2 6 54 0 fs0 Sh0 := by
  refine ctr_of ok_Ch_init rfl (Nat.le_of_ble_eq_true rfl) (fun cI cR h0 => ?_)
  refine jw_aload (i := 0) 0 (by decide +kernel) rfl ?_
  refine jw_obj (idx := 3) (g9_ (i := 136) rfl rfl) (g9_ (i := 18) rfl rfl) (g9_ (i := 19) rfl rfl) (by decide +kernel) (Nat.le_of_ble_eq_true rfl) (Nat.le_of_ble_eq_true rfl) ?_
  refine jw_aload (i := 0) 0 (by decide +kernel) rfl ?_
  refine jw_new (idx := 9) (fs := fs4) (C := RX4) (T := TX4) (N := 10) (ci := 4) rfl (g9_ (i := 137) rfl rfl) (g9_ (i := 21) rfl rfl) (g9_ (i := 2) rfl rfl) tyX4 tyX4_ok df4 (by decide +kernel) (Nat.le_of_ble_eq_true rfl) (Nat.le_of_ble_eq_true rfl) (fun q1 => ?_)
  refine jw_dup (by decide +kernel) ?_
  refine jw_ctor (idx := 11) ctr_4 ok_Re_init rfl rfl rfl (Or.inl (g9_ (i := 138) rfl rfl)) (g9_ (i := 23) rfl rfl) (Nat.le_of_ble_eq_true rfl) (Nat.le_of_ble_eq_true rfl) (Nat.le_of_ble_eq_true rfl) (by decide +kernel) (Nat.le_of_ble_eq_true rfl) (Nat.le_of_ble_eq_true rfl) (fun w1 hw1 => ?_)
  obtain ⟨r1, rfl, rfl⟩ := hw1
  refine jw_putF (idx := 12) (q0 := 0) (sl := 0) (N := 2) (C := RX0) (T := TX0) (ty := tyX0 0) rfl rfl (Nat.le_of_ble_eq_true rfl) (g9_ (i := 139) rfl rfl) rfl rfl rfl (tyX0_ok 0 (Nat.le_of_ble_eq_true rfl)) rfl rfl (Nat.le_of_ble_eq_true rfl) (by decide +kernel) ?_
  refine jw_ws (ws' := (h0, .inr (0, [.ref (r1 0), .int (zI 0)])) :: RW cI r1) rfl ?_
  refine jw_aload (i := 0) 0 (by decide +kernel) rfl ?_
  refine jw_icn (n := 0) (v := zI 0) (by decide +kernel) rfl ?_
  refine jw_put (idx := 18) (q0 := 0) (sl := 1) (N := 2) (C := RX0) (T := TX0) (ty := tyX0 1) rfl rfl (Nat.le_of_ble_eq_true rfl) (g9_ (i := 140) rfl rfl) rfl rfl (tyX0_ok 1 (Nat.le_of_ble_eq_true rfl)) rfl rfl (Nat.le_of_ble_eq_true rfl) (by decide +kernel) ?_
  refine jw_ws (ws' := (h0, .inr (0, [.ref (r1 0), .int (zI 0)])) :: RW cI r1) rfl ?_
  refine jw_ret rfl ?_ (Nat.le_of_ble_eq_true rfl) (Nat.le_of_ble_eq_true rfl) (by decide +kernel)
  exact ⟨r1, rfl⟩
theorem PB_eq {cI : ClassId} {b b' : Nat → Nat → Nat} {i : Nat} (h : ∀ j, j < i → b j = b' j) : PB cI b i = PB cI b' i := by
  induction i with
  | zero => rfl
  | succ i ih => simp only [PB]; rw [ih (fun j hj => h j (by omega)), h i (by omega)]
theorem PB_len (cI : ClassId) (b : Nat → Nat → Nat) (i : Nat) : (PB cI b i).length = 6 * i := by
  induction i with
  | zero => rfl
  | succ i ih =>
    simp only [PB, List.length_append, ih]
    show 6 * i + 6 = _
    omega
theorem ctr_3 : Ctr M_Pa_init 2 49 440 3 fs3 Sh3 := by
  refine ctr_of ok_Pa_init rfl (Nat.le_of_ble_eq_true rfl) (fun cI cR h0 => ?_)
  refine jw_aload (i := 0) 0 (by decide +kernel) rfl ?_
  refine jw_obj (idx := 3) (g9_ (i := 72) rfl rfl) (g9_ (i := 18) rfl rfl) (g9_ (i := 19) rfl rfl) (by decide +kernel) (Nat.le_of_ble_eq_true rfl) (Nat.le_of_ble_eq_true rfl) ?_
  refine jw_aload (i := 0) 0 (by decide +kernel) rfl ?_
  refine jw_bip (n := 8) (v := zI 8) (by decide +kernel) rfl ?_
  refine jw_newq (idx := 9) (N := 8) (g9_ (i := 73) rfl rfl) (by decide +kernel) (by decide +kernel) (Nat.le_of_ble_eq_true rfl) (by decide +kernel) (Nat.le_of_ble_eq_true rfl) (Nat.le_of_ble_eq_true rfl) (fun q1 => ?_)
  refine jw_putF (idx := 11) (q0 := 0) (sl := 0) (N := 2) (C := RX3) (T := TX3) (ty := tyX3 0) rfl rfl (Nat.le_of_ble_eq_true rfl) (g9_ (i := 76) rfl rfl) rfl rfl rfl (tyX3_ok 0 (Nat.le_of_ble_eq_true rfl)) rfl rfl (Nat.le_of_ble_eq_true rfl) (by decide +kernel) ?_
  refine jw_ws (ws' := (h0, .inr (3, [.ref q1, .int (zI 0)])) :: [(q1, cQ cR 8 (fun _ => none))]) rfl ?_
  refine jw_aload (i := 0) 0 (by decide +kernel) rfl ?_
  refine jw_icn (n := 0) (v := zI 0) (by decide +kernel) rfl ?_
  refine jw_put (idx := 17) (q0 := 0) (sl := 1) (N := 2) (C := RX3) (T := TX3) (ty := tyX3 1) rfl rfl (Nat.le_of_ble_eq_true rfl) (g9_ (i := 77) rfl rfl) rfl rfl (tyX3_ok 1 (Nat.le_of_ble_eq_true rfl)) rfl rfl (Nat.le_of_ble_eq_true rfl) (by decide +kernel) ?_
  refine jw_ws (ws' := (h0, .inr (3, [.ref q1, .int (zI 0)])) :: [(q1, cQ cR 8 (fun _ => none))]) rfl ?_
  refine jw_icn (n := 0) (v := zI 0) (by decide +kernel) rfl ?_
  refine jw_istore (i := 1) (lv' := [(1, .int (zI 0)), (0, .ref h0)]) (by decide +kernel) (Nat.le_of_ble_eq_true rfl) rfl ?_
  have loop : ∀ n i : Nat, i + n = 8 → ∀ b : Nat → Nat → Nat, JW cI cR M_Pa_init (rmC 2 49 440) (Sh3 h0 cI cR) 20 [(1, .int (zI (i : Int))), (0, .ref h0)] [] ((h0, .inr (3, [.ref q1, .int (zI 0)])) :: (q1, cQ cR 8 (fun j => if j < i then some (b j 0) else none)) :: PB cI b i) (1 + 6 * i) (8 + 54 * i) := by
    intro n
    induction n with
    | zero =>
      intro i hi b
      have e : i = 8 := by omega
      subst e
      refine jw_iload (i := 1) 0 (by decide +kernel) rfl ?_
      refine jw_bip (n := 8) (v := 8) (by decide +kernel) rfl ?_
      refine jw_ge (off := 22) (tgt := 45) (by decide +kernel) rfl (fun _ => ?_) (fun q => absurd ((le_zI (z := 8) rfl (by omega)).mpr (Nat.le_refl 8)) q)
      exact jw_ret rfl ⟨q1, b, rfl⟩ (Nat.le_of_ble_eq_true rfl) (Nat.le_of_ble_eq_true rfl) (by decide +kernel)
    | succ n ih =>
      intro i hi b
      refine jw_iload (i := 1) 0 (by decide +kernel) rfl ?_
      refine jw_bip (n := 8) (v := 8) (by decide +kernel) rfl ?_
      refine jw_ge (off := 22) (tgt := 45) (by decide +kernel) rfl (fun q => absurd ((le_zI (z := 8) rfl (by omega)).mp q) (by omega)) (fun _ => ?_)
      refine jw_aload (i := 0) 1 (by decide +kernel) rfl ?_
      refine jw_get (idx := 11) (q0 := 0) (sl := 0) (N := 2) (C := RX3) (T := TX3) rfl rfl (Nat.le_of_ble_eq_true rfl) (g9_ (i := 76) rfl rfl) rfl rfl (by decide +kernel) ?_
      refine jw_iload (i := 1) 0 (by decide +kernel) rfl ?_
      refine jw_new (idx := 9) (fs := fs4) (C := RX4) (T := TX4) (N := 10) (ci := 4) rfl (g9_ (i := 73) rfl rfl) (g9_ (i := 21) rfl rfl) (g9_ (i := 2) rfl rfl) tyX4 tyX4_ok df4 (by decide +kernel) (show 1 + 6 * i + 1 ≤ 49 by omega) (show 8 + 54 * i + 10 ≤ 440 by omega) (fun q => ?_)
      refine jw_dup (by decide +kernel) ?_
      refine jw_ctor (idx := 21) ctr_4 ok_Re_init rfl rfl rfl (Or.inl (g9_ (i := 75) rfl rfl)) (g9_ (i := 23) rfl rfl) (Nat.le_of_ble_eq_true rfl) (Nat.le_of_ble_eq_true rfl) (Nat.le_of_ble_eq_true rfl) (by decide +kernel) (show 1 + 6 * i + 1 + 5 ≤ 49 by omega) (show 8 + 54 * i + 10 + 44 ≤ 440 by omega) (fun w hw => ?_)
      obtain ⟨r, rfl, rfl⟩ := hw
      have step := ih (i + 1) (by omega) (fun j => if j = i then r else b j)
      have e1 : PB cI (fun j => if j = i then r else b j) (i + 1) = PB cI b i ++ RW cI r := by
        simp only [PB]
        rw [PB_eq (b' := b) (fun j hj => if_neg (by omega))]
        first | rw [if_pos rfl] | rw [if_pos trivial]
      have e2 : (fun j => if j < i + 1 then some ((if j = i then r else b j) 0) else none) = va_up (fun j => if j < i then some (b j 0) else none) i (some (r 0)) := by
        funext j
        simp only [va_up]
        by_cases h : j = i
        · subst h
          rw [if_pos (by omega), if_pos rfl, if_pos rfl]
        · by_cases h2 : j < i
          · rw [if_pos (by omega), if_neg h, if_neg h, if_pos h2]
          · rw [if_neg (by omega), if_neg h, if_neg h2]
      rw [e1, e2] at step
      have hq : (((h0, (.inr (3, [.ref q1, .int (zI 0)]) : va_E)) :: (q1, cQ cR 8 (fun j => if j < i then some (b j 0) else none)) :: PB cI b i) ++ RW cI r)[2 + 6 * i]? = some (r 0, .inr (4, [.ref (r 1), .ref (r 2), .ref (r 3), .ref (r 4), .ref (r 5), .int (zI 0), .int (zI 0), .int (zI 12), .int (zI 0), .int (zI 0)])) := by
        rw [List.getElem?_append_right (by simp only [List.length_cons, PB_len]; omega)]
        simp only [List.length_cons, PB_len]
        rw [show 2 + 6 * i - (6 * i + 1 + 1) = 0 by omega]
        rfl
      refine jw_aast (q0 := 1) (qk := 2 + 6 * i) (n := 8) (f := fun j => if j < i then some (b j 0) else none) rfl hq (vp_inC (by omega) (by omega)) (by decide +kernel) ?_
      rw [tnc (by omega)]
      refine jw_iinc (i := 1) (n := 1) (k := 0) (v := zI ((i + 1 : Nat) : Int)) (lv' := [(1, .int (zI ((i + 1 : Nat) : Int))), (0, .ref h0)]) (by decide +kernel) rfl (cf_ _ _) (Nat.le_of_ble_eq_true rfl) rfl ?_
      refine jw_goto (off := -22) (tgt := 20) (by decide +kernel) rfl ?_
      refine jw_n (cc' := 1 + 6 * (i + 1)) (ss' := 8 + 54 * (i + 1)) (by omega) (by omega) ?_
      exact step
  exact loop 8 0 rfl (fun _ _ => 0)
def Sh6 : SHP := fun h0 cI cR w => ∃ (r1 r2 r3 : Nat → Nat) (q4 q5 q6 q7 q8 q9 : Nat) (w4 w5 w6 w7 w8 : va_W), Sh3 q4 cI cR w4 ∧ Sh2 q5 cI cR w5 ∧ Sh5 q6 cI cR w6 ∧ Sh1 q7 cI cR w7 ∧ Sh0 q8 cI cR w8 ∧ w = (h0, .inr (6, [.ref (r1 0), .ref (r2 0), .ref (r3 0), .ref q4, .ref q5, .ref q6, .ref q7, .ref q8, .ref q9, .int (zI 0)])) :: ((((((((RW cI r1 ++ RW cI r2) ++ RW cI r3) ++ w4) ++ w5) ++ w6) ++ w7) ++ w8) ++ [(q9, cA cI 7 zr)])
theorem ctr_6 : Ctr M_X_init 3 89 844 6 fs6 Sh6 := by
  refine ctr_of ok_X_init rfl (Nat.le_of_ble_eq_true rfl) (fun cI cR h0 => ?_)
  refine jw_aload (i := 0) 0 (by decide +kernel) rfl ?_
  refine jw_obj (idx := 1) (g9_ (i := 17) rfl rfl) (g9_ (i := 18) rfl rfl) (g9_ (i := 19) rfl rfl) (by decide +kernel) (Nat.le_of_ble_eq_true rfl) (Nat.le_of_ble_eq_true rfl) ?_
  refine jw_aload (i := 0) 0 (by decide +kernel) rfl ?_
  refine jw_new (idx := 7) (fs := fs4) (C := RX4) (T := TX4) (N := 10) (ci := 4) rfl (g9_ (i := 20) rfl rfl) (g9_ (i := 21) rfl rfl) (g9_ (i := 2) rfl rfl) tyX4 tyX4_ok df4 (by decide +kernel) (Nat.le_of_ble_eq_true rfl) (Nat.le_of_ble_eq_true rfl) (fun q1 => ?_)
  refine jw_dup (by decide +kernel) ?_
  refine jw_ctor (idx := 9) ctr_4 ok_Re_init rfl rfl rfl (Or.inl (g9_ (i := 22) rfl rfl)) (g9_ (i := 23) rfl rfl) (Nat.le_of_ble_eq_true rfl) (Nat.le_of_ble_eq_true rfl) (Nat.le_of_ble_eq_true rfl) (by decide +kernel) (Nat.le_of_ble_eq_true rfl) (Nat.le_of_ble_eq_true rfl) (fun w1 hw1 => ?_)
  obtain ⟨r1, rfl, rfl⟩ := hw1
  refine jw_putF (idx := 10) (q0 := 0) (sl := 0) (N := 10) (C := RX6) (T := TX6) (ty := tyX6 0) rfl rfl (Nat.le_of_ble_eq_true rfl) (g9_ (i := 146) rfl rfl) rfl rfl rfl (tyX6_ok 0 (Nat.le_of_ble_eq_true rfl)) rfl rfl (Nat.le_of_ble_eq_true rfl) (by decide +kernel) ?_
  refine jw_ws (ws' := (h0, .inr (6, [.ref (r1 0), .null, .null, .null, .null, .null, .null, .null, .null, .int (zI 0)])) :: RW cI r1) rfl ?_
  refine jw_aload (i := 0) 0 (by decide +kernel) rfl ?_
  refine jw_new (idx := 7) (fs := fs4) (C := RX4) (T := TX4) (N := 10) (ci := 4) rfl (g9_ (i := 20) rfl rfl) (g9_ (i := 21) rfl rfl) (g9_ (i := 2) rfl rfl) tyX4 tyX4_ok df4 (by decide +kernel) (Nat.le_of_ble_eq_true rfl) (Nat.le_of_ble_eq_true rfl) (fun q2 => ?_)
  refine jw_dup (by decide +kernel) ?_
  refine jw_ctor (idx := 9) ctr_4 ok_Re_init rfl rfl rfl (Or.inl (g9_ (i := 22) rfl rfl)) (g9_ (i := 23) rfl rfl) (Nat.le_of_ble_eq_true rfl) (Nat.le_of_ble_eq_true rfl) (Nat.le_of_ble_eq_true rfl) (by decide +kernel) (Nat.le_of_ble_eq_true rfl) (Nat.le_of_ble_eq_true rfl) (fun w2 hw2 => ?_)
  obtain ⟨r2, rfl, rfl⟩ := hw2
  refine jw_putF (idx := 16) (q0 := 0) (sl := 1) (N := 10) (C := RX6) (T := TX6) (ty := tyX6 1) rfl rfl (Nat.le_of_ble_eq_true rfl) (g9_ (i := 147) rfl rfl) rfl rfl rfl (tyX6_ok 1 (Nat.le_of_ble_eq_true rfl)) rfl rfl (Nat.le_of_ble_eq_true rfl) (by decide +kernel) ?_
  refine jw_ws (ws' := (h0, .inr (6, [.ref (r1 0), .ref (r2 0), .null, .null, .null, .null, .null, .null, .null, .int (zI 0)])) :: (RW cI r1 ++ RW cI r2)) rfl ?_
  refine jw_aload (i := 0) 0 (by decide +kernel) rfl ?_
  refine jw_new (idx := 7) (fs := fs4) (C := RX4) (T := TX4) (N := 10) (ci := 4) rfl (g9_ (i := 20) rfl rfl) (g9_ (i := 21) rfl rfl) (g9_ (i := 2) rfl rfl) tyX4 tyX4_ok df4 (by decide +kernel) (Nat.le_of_ble_eq_true rfl) (Nat.le_of_ble_eq_true rfl) (fun q3 => ?_)
  refine jw_dup (by decide +kernel) ?_
  refine jw_ctor (idx := 9) ctr_4 ok_Re_init rfl rfl rfl (Or.inl (g9_ (i := 22) rfl rfl)) (g9_ (i := 23) rfl rfl) (Nat.le_of_ble_eq_true rfl) (Nat.le_of_ble_eq_true rfl) (Nat.le_of_ble_eq_true rfl) (by decide +kernel) (Nat.le_of_ble_eq_true rfl) (Nat.le_of_ble_eq_true rfl) (fun w3 hw3 => ?_)
  obtain ⟨r3, rfl, rfl⟩ := hw3
  refine jw_putF (idx := 19) (q0 := 0) (sl := 2) (N := 10) (C := RX6) (T := TX6) (ty := tyX6 2) rfl rfl (Nat.le_of_ble_eq_true rfl) (g9_ (i := 148) rfl rfl) rfl rfl rfl (tyX6_ok 2 (Nat.le_of_ble_eq_true rfl)) rfl rfl (Nat.le_of_ble_eq_true rfl) (by decide +kernel) ?_
  refine jw_ws (ws' := (h0, .inr (6, [.ref (r1 0), .ref (r2 0), .ref (r3 0), .null, .null, .null, .null, .null, .null, .int (zI 0)])) :: ((RW cI r1 ++ RW cI r2) ++ RW cI r3)) rfl ?_
  refine jw_aload (i := 0) 0 (by decide +kernel) rfl ?_
  refine jw_new (idx := 22) (fs := fs3) (C := RX3) (T := TX3) (N := 2) (ci := 3) rfl (g9_ (i := 67) rfl rfl) (g9_ (i := 68) rfl rfl) (g9_ (i := 3) rfl rfl) tyX3 tyX3_ok df3 (by decide +kernel) (Nat.le_of_ble_eq_true rfl) (Nat.le_of_ble_eq_true rfl) (fun q4 => ?_)
  refine jw_dup (by decide +kernel) ?_
  refine jw_ctor (idx := 24) ctr_3 ok_Pa_init rfl rfl rfl (Or.inl (g9_ (i := 69) rfl rfl)) (g9_ (i := 70) rfl rfl) (Nat.le_of_ble_eq_true rfl) (Nat.le_of_ble_eq_true rfl) (Nat.le_of_ble_eq_true rfl) (by decide +kernel) (Nat.le_of_ble_eq_true rfl) (Nat.le_of_ble_eq_true rfl) (fun w4 hw4 => ?_)
  refine jw_putF (idx := 25) (q0 := 0) (sl := 3) (N := 10) (C := RX6) (T := TX6) (ty := tyX6 3) rfl rfl (Nat.le_of_ble_eq_true rfl) (g9_ (i := 149) rfl rfl) rfl rfl rfl (tyX6_ok 3 (Nat.le_of_ble_eq_true rfl)) rfl rfl (Nat.le_of_ble_eq_true rfl) (by decide +kernel) ?_
  refine jw_ws (ws' := (h0, .inr (6, [.ref (r1 0), .ref (r2 0), .ref (r3 0), .ref q4, .null, .null, .null, .null, .null, .int (zI 0)])) :: (((RW cI r1 ++ RW cI r2) ++ RW cI r3) ++ w4)) rfl ?_
  refine jw_aload (i := 0) 0 (by decide +kernel) rfl ?_
  refine jw_new (idx := 29) (fs := fs2) (C := RX2) (T := TX2) (N := 2) (ci := 2) rfl (g9_ (i := 84) rfl rfl) (g9_ (i := 85) rfl rfl) (g9_ (i := 4) rfl rfl) tyX2 tyX2_ok df2 (by decide +kernel) (Nat.le_of_ble_eq_true rfl) (Nat.le_of_ble_eq_true rfl) (fun q5 => ?_)
  refine jw_dup (by decide +kernel) ?_
  refine jw_ctor (idx := 31) ctr_2 ok_Le_init rfl rfl rfl (Or.inr (inN0 (i := 86) rfl rfl)) (g9_ (i := 87) rfl rfl) (Nat.le_of_ble_eq_true rfl) (Nat.le_of_ble_eq_true rfl) (Nat.le_of_ble_eq_true rfl) (by decide +kernel) (Nat.le_of_ble_eq_true rfl) (Nat.le_of_ble_eq_true rfl) (fun w5 hw5 => ?_)
  refine jw_putF (idx := 32) (q0 := 0) (sl := 4) (N := 10) (C := RX6) (T := TX6) (ty := tyX6 4) rfl rfl (Nat.le_of_ble_eq_true rfl) (g9_ (i := 150) rfl rfl) rfl rfl rfl (tyX6_ok 4 (Nat.le_of_ble_eq_true rfl)) rfl rfl (Nat.le_of_ble_eq_true rfl) (by decide +kernel) ?_
  refine jw_ws (ws' := (h0, .inr (6, [.ref (r1 0), .ref (r2 0), .ref (r3 0), .ref q4, .ref q5, .null, .null, .null, .null, .int (zI 0)])) :: ((((RW cI r1 ++ RW cI r2) ++ RW cI r3) ++ w4) ++ w5)) rfl ?_
  refine jw_aload (i := 0) 0 (by decide +kernel) rfl ?_
  refine jw_new (idx := 36) (fs := fs5) (C := RX5) (T := TX5) (N := 2) (ci := 5) rfl (g9_ (i := 98) rfl rfl) (g9_ (i := 99) rfl rfl) (g9_ (i := 5) rfl rfl) tyX5 tyX5_ok df5 (by decide +kernel) (Nat.le_of_ble_eq_true rfl) (Nat.le_of_ble_eq_true rfl) (fun q6 => ?_)
  refine jw_dup (by decide +kernel) ?_
  refine jw_ctor (idx := 38) ctr_5 ok_Ro_init rfl rfl rfl (Or.inr (inN0 (i := 100) rfl rfl)) (g9_ (i := 101) rfl rfl) (Nat.le_of_ble_eq_true rfl) (Nat.le_of_ble_eq_true rfl) (Nat.le_of_ble_eq_true rfl) (by decide +kernel) (Nat.le_of_ble_eq_true rfl) (Nat.le_of_ble_eq_true rfl) (fun w6 hw6 => ?_)
  refine jw_putF (idx := 39) (q0 := 0) (sl := 5) (N := 10) (C := RX6) (T := TX6) (ty := tyX6 5) rfl rfl (Nat.le_of_ble_eq_true rfl) (g9_ (i := 151) rfl rfl) rfl rfl rfl (tyX6_ok 5 (Nat.le_of_ble_eq_true rfl)) rfl rfl (Nat.le_of_ble_eq_true rfl) (by decide +kernel) ?_
  refine jw_ws (ws' := (h0, .inr (6, [.ref (r1 0), .ref (r2 0), .ref (r3 0), .ref q4, .ref q5, .ref q6, .null, .null, .null, .int (zI 0)])) :: (((((RW cI r1 ++ RW cI r2) ++ RW cI r3) ++ w4) ++ w5) ++ w6)) rfl ?_
  refine jw_aload (i := 0) 0 (by decide +kernel) rfl ?_
  refine jw_new (idx := 43) (fs := fs1) (C := RX1) (T := TX1) (N := 3) (ci := 1) rfl (g9_ (i := 113) rfl rfl) (g9_ (i := 114) rfl rfl) (g9_ (i := 6) rfl rfl) tyX1 tyX1_ok df1 (by decide +kernel) (Nat.le_of_ble_eq_true rfl) (Nat.le_of_ble_eq_true rfl) (fun q7 => ?_)
  refine jw_dup (by decide +kernel) ?_
  refine jw_ctor (idx := 45) ctr_1 ok_Co_init rfl rfl rfl (Or.inr (inN0 (i := 115) rfl rfl)) (g9_ (i := 116) rfl rfl) (Nat.le_of_ble_eq_true rfl) (Nat.le_of_ble_eq_true rfl) (Nat.le_of_ble_eq_true rfl) (by decide +kernel) (Nat.le_of_ble_eq_true rfl) (Nat.le_of_ble_eq_true rfl) (fun w7 hw7 => ?_)
  refine jw_putF (idx := 46) (q0 := 0) (sl := 6) (N := 10) (C := RX6) (T := TX6) (ty := tyX6 6) rfl rfl (Nat.le_of_ble_eq_true rfl) (g9_ (i := 152) rfl rfl) rfl rfl rfl (tyX6_ok 6 (Nat.le_of_ble_eq_true rfl)) rfl rfl (Nat.le_of_ble_eq_true rfl) (by decide +kernel) ?_
  refine jw_ws (ws' := (h0, .inr (6, [.ref (r1 0), .ref (r2 0), .ref (r3 0), .ref q4, .ref q5, .ref q6, .ref q7, .null, .null, .int (zI 0)])) :: ((((((RW cI r1 ++ RW cI r2) ++ RW cI r3) ++ w4) ++ w5) ++ w6) ++ w7)) rfl ?_
  refine jw_aload (i := 0) 0 (by decide +kernel) rfl ?_
  refine jw_new (idx := 50) (fs := fs0) (C := RX0) (T := TX0) (N := 2) (ci := 0) rfl (g9_ (i := 131) rfl rfl) (g9_ (i := 132) rfl rfl) (g9_ (i := 7) rfl rfl) tyX0 tyX0_ok df0 (by decide +kernel) (Nat.le_of_ble_eq_true rfl) (Nat.le_of_ble_eq_true rfl) (fun q8 => ?_)
  refine jw_dup (by decide +kernel) ?_
  refine jw_ctor (idx := 52) ctr_0 ok_Ch_init rfl rfl rfl (Or.inr (inN0 (i := 133) rfl rfl)) (g9_ (i := 134) rfl rfl) (Nat.le_of_ble_eq_true rfl) (Nat.le_of_ble_eq_true rfl) (Nat.le_of_ble_eq_true rfl) (by decide +kernel) (Nat.le_of_ble_eq_true rfl) (Nat.le_of_ble_eq_true rfl) (fun w8 hw8 => ?_)
  refine jw_putF (idx := 53) (q0 := 0) (sl := 7) (N := 10) (C := RX6) (T := TX6) (ty := tyX6 7) rfl rfl (Nat.le_of_ble_eq_true rfl) (g9_ (i := 153) rfl rfl) rfl rfl rfl (tyX6_ok 7 (Nat.le_of_ble_eq_true rfl)) rfl rfl (Nat.le_of_ble_eq_true rfl) (by decide +kernel) ?_
  refine jw_ws (ws' := (h0, .inr (6, [.ref (r1 0), .ref (r2 0), .ref (r3 0), .ref q4, .ref q5, .ref q6, .ref q7, .ref q8, .null, .int (zI 0)])) :: (((((((RW cI r1 ++ RW cI r2) ++ RW cI r3) ++ w4) ++ w5) ++ w6) ++ w7) ++ w8)) rfl ?_
  refine jw_aload (i := 0) 0 (by decide +kernel) rfl ?_
  refine jw_bip (n := 7) (v := zI 7) (by decide +kernel) rfl ?_
  refine jw_newa (N := 7) (g9_ (i := 66) rfl rfl) (by decide +kernel) (by decide +kernel) (Nat.le_of_ble_eq_true rfl) (by decide +kernel) (Nat.le_of_ble_eq_true rfl) (Nat.le_of_ble_eq_true rfl) (fun q9 => ?_)
  refine jw_putF (idx := 57) (q0 := 0) (sl := 8) (N := 10) (C := RX6) (T := TX6) (ty := tyX6 8) rfl rfl (Nat.le_of_ble_eq_true rfl) (g9_ (i := 154) rfl rfl) rfl rfl rfl (tyX6_ok 8 (Nat.le_of_ble_eq_true rfl)) rfl rfl (Nat.le_of_ble_eq_true rfl) (by decide +kernel) ?_
  refine jw_ws (ws' := (h0, .inr (6, [.ref (r1 0), .ref (r2 0), .ref (r3 0), .ref q4, .ref q5, .ref q6, .ref q7, .ref q8, .ref q9, .int (zI 0)])) :: ((((((((RW cI r1 ++ RW cI r2) ++ RW cI r3) ++ w4) ++ w5) ++ w6) ++ w7) ++ w8) ++ [(q9, cA cI 7 zr)])) rfl ?_
  refine jw_aload (i := 0) 0 (by decide +kernel) rfl ?_
  refine jw_icn (n := 0) (v := zI 0) (by decide +kernel) rfl ?_
  refine jw_put (idx := 61) (q0 := 0) (sl := 9) (N := 10) (C := RX6) (T := TX6) (ty := tyX6 9) rfl rfl (Nat.le_of_ble_eq_true rfl) (g9_ (i := 155) rfl rfl) rfl rfl (tyX6_ok 9 (Nat.le_of_ble_eq_true rfl)) rfl rfl (Nat.le_of_ble_eq_true rfl) (by decide +kernel) ?_
  refine jw_ws (ws' := (h0, .inr (6, [.ref (r1 0), .ref (r2 0), .ref (r3 0), .ref q4, .ref q5, .ref q6, .ref q7, .ref q8, .ref q9, .int (zI 0)])) :: ((((((((RW cI r1 ++ RW cI r2) ++ RW cI r3) ++ w4) ++ w5) ++ w6) ++ w7) ++ w8) ++ [(q9, cA cI 7 zr)])) rfl ?_
  refine jw_ret rfl ?_ (Nat.le_of_ble_eq_true rfl) (Nat.le_of_ble_eq_true rfl) (by decide +kernel)
  exact ⟨r1, r2, r3, q4, q5, q6, q7, q8, q9, w4, w5, w6, w7, w8, hw4, hw5, hw6, hw7, hw8, rfl⟩
def Sh7 : SHP := fun h0 cI cR w => ∃ (q1 q2 q3 q4 q5 q6 q7 q8 q9 q10 q11 q12 q13 q14 q15 q16 : Nat), w = (h0, .inr (7, [.ref q1, .int (zI 0), .int (zI 12), .int (zI 0), .ref q2, .ref q3, .ref q4, .ref q5, .int (zI 0), .int (zI 0), .int (zI 0), .ref q6, .ref q7, .int (zI 0), .int (zI 0), .int (zI 0), .int (zI 0), .ref q8, .ref q9, .ref q10, .ref q11, .ref q12, .int (zI 0), .int (zI 0), .int (zI 0), .null, .ref q13, .ref q14, .int (zI 0), .ref q15, .int (zI 0), .ref q16, .int (zI 0)])) :: ((((((((((((((([(q1, cA cI 12 (onesF 12))] ++ [(q2, cA cI 8 zr)]) ++ [(q3, cA cI 8 zr)]) ++ [(q4, cA cI 8 zr)]) ++ [(q5, cA cI 8 zr)]) ++ [(q6, cA cI 7 zr)]) ++ [(q7, cA cI 96 zr)]) ++ [(q8, cA cI 49 zr)]) ++ [(q9, cA cI 49 zr)]) ++ [(q10, cA cI 98 zr)]) ++ [(q11, cA cI 49 zr)]) ++ [(q12, cA cI 49 zr)]) ++ [(q13, cA cI 392 zr)]) ++ [(q14, cA cI 49 zr)]) ++ [(q15, cA cI 12 zr)]) ++ [(q16, cA cI 8 zr)])
theorem ctr_7 : Ctr M_M_init 1 16 902 7 fs7 Sh7 := by
  refine ctr_of ok_M_init rfl (Nat.le_of_ble_eq_true rfl) (fun cI cR h0 => ?_)
  refine jw_aload (i := 0) 0 (by decide +kernel) rfl ?_
  refine jw_obj (idx := 1) (hc_ (i := 239) rfl rfl) (g9_ (i := 18) rfl rfl) (g9_ (i := 19) rfl rfl) (by decide +kernel) (Nat.le_of_ble_eq_true rfl) (Nat.le_of_ble_eq_true rfl) ?_
  refine jw_aload (i := 0) 0 (by decide +kernel) rfl ?_
  refine jw_bip (n := 12) (v := zI 12) (by decide +kernel) rfl ?_
  refine jw_newa (N := 12) (g9_ (i := 66) rfl rfl) (by decide +kernel) (by decide +kernel) (Nat.le_of_ble_eq_true rfl) (by decide +kernel) (Nat.le_of_ble_eq_true rfl) (Nat.le_of_ble_eq_true rfl) (fun q1 => ?_)
  refine jw_putF (idx := 7) (q0 := 0) (sl := 0) (N := 33) (C := RX7) (T := TX7) (ty := tyX7 0) rfl rfl (Nat.le_of_ble_eq_true rfl) (hg_ (i := 0) rfl rfl) rfl rfl rfl (tyX7_ok 0 (Nat.le_of_ble_eq_true rfl)) rfl rfl (Nat.le_of_ble_eq_true rfl) (by decide +kernel) ?_
  refine jw_ws (ws' := (h0, .inr (7, [.ref q1, .int (zI 0), .int (zI 0), .int (zI 0), .null, .null, .null, .null, .int (zI 0), .int (zI 0), .int (zI 0), .null, .null, .int (zI 0), .int (zI 0), .int (zI 0), .int (zI 0), .null, .null, .null, .null, .null, .int (zI 0), .int (zI 0), .int (zI 0), .null, .null, .null, .int (zI 0), .null, .int (zI 0), .null, .int (zI 0)])) :: [(q1, cA cI 12 zr)]) rfl ?_
  refine jw_aload (i := 0) 0 (by decide +kernel) rfl ?_
  refine jw_bip (n := 8) (v := zI 8) (by decide +kernel) rfl ?_
  refine jw_newa (N := 8) (g9_ (i := 66) rfl rfl) (by decide +kernel) (by decide +kernel) (Nat.le_of_ble_eq_true rfl) (by decide +kernel) (Nat.le_of_ble_eq_true rfl) (Nat.le_of_ble_eq_true rfl) (fun q2 => ?_)
  refine jw_putF (idx := 13) (q0 := 0) (sl := 4) (N := 33) (C := RX7) (T := TX7) (ty := tyX7 4) rfl rfl (Nat.le_of_ble_eq_true rfl) (hg_ (i := 4) rfl rfl) rfl rfl rfl (tyX7_ok 4 (Nat.le_of_ble_eq_true rfl)) rfl rfl (Nat.le_of_ble_eq_true rfl) (by decide +kernel) ?_
  refine jw_ws (ws' := (h0, .inr (7, [.ref q1, .int (zI 0), .int (zI 0), .int (zI 0), .ref q2, .null, .null, .null, .int (zI 0), .int (zI 0), .int (zI 0), .null, .null, .int (zI 0), .int (zI 0), .int (zI 0), .int (zI 0), .null, .null, .null, .null, .null, .int (zI 0), .int (zI 0), .int (zI 0), .null, .null, .null, .int (zI 0), .null, .int (zI 0), .null, .int (zI 0)])) :: ([(q1, cA cI 12 zr)] ++ [(q2, cA cI 8 zr)])) rfl ?_
  refine jw_aload (i := 0) 0 (by decide +kernel) rfl ?_
  refine jw_bip (n := 8) (v := zI 8) (by decide +kernel) rfl ?_
  refine jw_newa (N := 8) (g9_ (i := 66) rfl rfl) (by decide +kernel) (by decide +kernel) (Nat.le_of_ble_eq_true rfl) (by decide +kernel) (Nat.le_of_ble_eq_true rfl) (Nat.le_of_ble_eq_true rfl) (fun q3 => ?_)
  refine jw_putF (idx := 16) (q0 := 0) (sl := 5) (N := 33) (C := RX7) (T := TX7) (ty := tyX7 5) rfl rfl (Nat.le_of_ble_eq_true rfl) (hg_ (i := 5) rfl rfl) rfl rfl rfl (tyX7_ok 5 (Nat.le_of_ble_eq_true rfl)) rfl rfl (Nat.le_of_ble_eq_true rfl) (by decide +kernel) ?_
  refine jw_ws (ws' := (h0, .inr (7, [.ref q1, .int (zI 0), .int (zI 0), .int (zI 0), .ref q2, .ref q3, .null, .null, .int (zI 0), .int (zI 0), .int (zI 0), .null, .null, .int (zI 0), .int (zI 0), .int (zI 0), .int (zI 0), .null, .null, .null, .null, .null, .int (zI 0), .int (zI 0), .int (zI 0), .null, .null, .null, .int (zI 0), .null, .int (zI 0), .null, .int (zI 0)])) :: (([(q1, cA cI 12 zr)] ++ [(q2, cA cI 8 zr)]) ++ [(q3, cA cI 8 zr)])) rfl ?_
  refine jw_aload (i := 0) 0 (by decide +kernel) rfl ?_
  refine jw_bip (n := 8) (v := zI 8) (by decide +kernel) rfl ?_
  refine jw_newa (N := 8) (g9_ (i := 66) rfl rfl) (by decide +kernel) (by decide +kernel) (Nat.le_of_ble_eq_true rfl) (by decide +kernel) (Nat.le_of_ble_eq_true rfl) (Nat.le_of_ble_eq_true rfl) (fun q4 => ?_)
  refine jw_putF (idx := 19) (q0 := 0) (sl := 6) (N := 33) (C := RX7) (T := TX7) (ty := tyX7 6) rfl rfl (Nat.le_of_ble_eq_true rfl) (hg_ (i := 6) rfl rfl) rfl rfl rfl (tyX7_ok 6 (Nat.le_of_ble_eq_true rfl)) rfl rfl (Nat.le_of_ble_eq_true rfl) (by decide +kernel) ?_
  refine jw_ws (ws' := (h0, .inr (7, [.ref q1, .int (zI 0), .int (zI 0), .int (zI 0), .ref q2, .ref q3, .ref q4, .null, .int (zI 0), .int (zI 0), .int (zI 0), .null, .null, .int (zI 0), .int (zI 0), .int (zI 0), .int (zI 0), .null, .null, .null, .null, .null, .int (zI 0), .int (zI 0), .int (zI 0), .null, .null, .null, .int (zI 0), .null, .int (zI 0), .null, .int (zI 0)])) :: ((([(q1, cA cI 12 zr)] ++ [(q2, cA cI 8 zr)]) ++ [(q3, cA cI 8 zr)]) ++ [(q4, cA cI 8 zr)])) rfl ?_
  refine jw_aload (i := 0) 0 (by decide +kernel) rfl ?_
  refine jw_bip (n := 8) (v := zI 8) (by decide +kernel) rfl ?_
  refine jw_newa (N := 8) (g9_ (i := 66) rfl rfl) (by decide +kernel) (by decide +kernel) (Nat.le_of_ble_eq_true rfl) (by decide +kernel) (Nat.le_of_ble_eq_true rfl) (Nat.le_of_ble_eq_true rfl) (fun q5 => ?_)
  refine jw_putF (idx := 22) (q0 := 0) (sl := 7) (N := 33) (C := RX7) (T := TX7) (ty := tyX7 7) rfl rfl (Nat.le_of_ble_eq_true rfl) (hg_ (i := 7) rfl rfl) rfl rfl rfl (tyX7_ok 7 (Nat.le_of_ble_eq_true rfl)) rfl rfl (Nat.le_of_ble_eq_true rfl) (by decide +kernel) ?_
  refine jw_ws (ws' := (h0, .inr (7, [.ref q1, .int (zI 0), .int (zI 0), .int (zI 0), .ref q2, .ref q3, .ref q4, .ref q5, .int (zI 0), .int (zI 0), .int (zI 0), .null, .null, .int (zI 0), .int (zI 0), .int (zI 0), .int (zI 0), .null, .null, .null, .null, .null, .int (zI 0), .int (zI 0), .int (zI 0), .null, .null, .null, .int (zI 0), .null, .int (zI 0), .null, .int (zI 0)])) :: (((([(q1, cA cI 12 zr)] ++ [(q2, cA cI 8 zr)]) ++ [(q3, cA cI 8 zr)]) ++ [(q4, cA cI 8 zr)]) ++ [(q5, cA cI 8 zr)])) rfl ?_
  refine jw_aload (i := 0) 0 (by decide +kernel) rfl ?_
  refine jw_bip (n := 7) (v := zI 7) (by decide +kernel) rfl ?_
  refine jw_newa (N := 7) (g9_ (i := 66) rfl rfl) (by decide +kernel) (by decide +kernel) (Nat.le_of_ble_eq_true rfl) (by decide +kernel) (Nat.le_of_ble_eq_true rfl) (Nat.le_of_ble_eq_true rfl) (fun q6 => ?_)
  refine jw_putF (idx := 25) (q0 := 0) (sl := 11) (N := 33) (C := RX7) (T := TX7) (ty := tyX7 11) rfl rfl (Nat.le_of_ble_eq_true rfl) (hg_ (i := 11) rfl rfl) rfl rfl rfl (tyX7_ok 11 (Nat.le_of_ble_eq_true rfl)) rfl rfl (Nat.le_of_ble_eq_true rfl) (by decide +kernel) ?_
  refine jw_ws (ws' := (h0, .inr (7, [.ref q1, .int (zI 0), .int (zI 0), .int (zI 0), .ref q2, .ref q3, .ref q4, .ref q5, .int (zI 0), .int (zI 0), .int (zI 0), .ref q6, .null, .int (zI 0), .int (zI 0), .int (zI 0), .int (zI 0), .null, .null, .null, .null, .null, .int (zI 0), .int (zI 0), .int (zI 0), .null, .null, .null, .int (zI 0), .null, .int (zI 0), .null, .int (zI 0)])) :: ((((([(q1, cA cI 12 zr)] ++ [(q2, cA cI 8 zr)]) ++ [(q3, cA cI 8 zr)]) ++ [(q4, cA cI 8 zr)]) ++ [(q5, cA cI 8 zr)]) ++ [(q6, cA cI 7 zr)])) rfl ?_
  refine jw_aload (i := 0) 0 (by decide +kernel) rfl ?_
  refine jw_bip (n := 96) (v := zI 96) (by decide +kernel) rfl ?_
  refine jw_newa (N := 96) (g9_ (i := 66) rfl rfl) (by decide +kernel) (by decide +kernel) (Nat.le_of_ble_eq_true rfl) (by decide +kernel) (Nat.le_of_ble_eq_true rfl) (Nat.le_of_ble_eq_true rfl) (fun q7 => ?_)
  refine jw_putF (idx := 28) (q0 := 0) (sl := 12) (N := 33) (C := RX7) (T := TX7) (ty := tyX7 12) rfl rfl (Nat.le_of_ble_eq_true rfl) (hg_ (i := 12) rfl rfl) rfl rfl rfl (tyX7_ok 12 (Nat.le_of_ble_eq_true rfl)) rfl rfl (Nat.le_of_ble_eq_true rfl) (by decide +kernel) ?_
  refine jw_ws (ws' := (h0, .inr (7, [.ref q1, .int (zI 0), .int (zI 0), .int (zI 0), .ref q2, .ref q3, .ref q4, .ref q5, .int (zI 0), .int (zI 0), .int (zI 0), .ref q6, .ref q7, .int (zI 0), .int (zI 0), .int (zI 0), .int (zI 0), .null, .null, .null, .null, .null, .int (zI 0), .int (zI 0), .int (zI 0), .null, .null, .null, .int (zI 0), .null, .int (zI 0), .null, .int (zI 0)])) :: (((((([(q1, cA cI 12 zr)] ++ [(q2, cA cI 8 zr)]) ++ [(q3, cA cI 8 zr)]) ++ [(q4, cA cI 8 zr)]) ++ [(q5, cA cI 8 zr)]) ++ [(q6, cA cI 7 zr)]) ++ [(q7, cA cI 96 zr)])) rfl ?_
  refine jw_aload (i := 0) 0 (by decide +kernel) rfl ?_
  refine jw_bip (n := 49) (v := zI 49) (by decide +kernel) rfl ?_
  refine jw_newa (N := 49) (g9_ (i := 66) rfl rfl) (by decide +kernel) (by decide +kernel) (Nat.le_of_ble_eq_true rfl) (by decide +kernel) (Nat.le_of_ble_eq_true rfl) (Nat.le_of_ble_eq_true rfl) (fun q8 => ?_)
  refine jw_putF (idx := 31) (q0 := 0) (sl := 17) (N := 33) (C := RX7) (T := TX7) (ty := tyX7 17) rfl rfl (Nat.le_of_ble_eq_true rfl) (hg_ (i := 17) rfl rfl) rfl rfl rfl (tyX7_ok 17 (Nat.le_of_ble_eq_true rfl)) rfl rfl (Nat.le_of_ble_eq_true rfl) (by decide +kernel) ?_
  refine jw_ws (ws' := (h0, .inr (7, [.ref q1, .int (zI 0), .int (zI 0), .int (zI 0), .ref q2, .ref q3, .ref q4, .ref q5, .int (zI 0), .int (zI 0), .int (zI 0), .ref q6, .ref q7, .int (zI 0), .int (zI 0), .int (zI 0), .int (zI 0), .ref q8, .null, .null, .null, .null, .int (zI 0), .int (zI 0), .int (zI 0), .null, .null, .null, .int (zI 0), .null, .int (zI 0), .null, .int (zI 0)])) :: ((((((([(q1, cA cI 12 zr)] ++ [(q2, cA cI 8 zr)]) ++ [(q3, cA cI 8 zr)]) ++ [(q4, cA cI 8 zr)]) ++ [(q5, cA cI 8 zr)]) ++ [(q6, cA cI 7 zr)]) ++ [(q7, cA cI 96 zr)]) ++ [(q8, cA cI 49 zr)])) rfl ?_
  refine jw_aload (i := 0) 0 (by decide +kernel) rfl ?_
  refine jw_bip (n := 49) (v := zI 49) (by decide +kernel) rfl ?_
  refine jw_newa (N := 49) (g9_ (i := 66) rfl rfl) (by decide +kernel) (by decide +kernel) (Nat.le_of_ble_eq_true rfl) (by decide +kernel) (Nat.le_of_ble_eq_true rfl) (Nat.le_of_ble_eq_true rfl) (fun q9 => ?_)
  refine jw_putF (idx := 34) (q0 := 0) (sl := 18) (N := 33) (C := RX7) (T := TX7) (ty := tyX7 18) rfl rfl (Nat.le_of_ble_eq_true rfl) (hg_ (i := 18) rfl rfl) rfl rfl rfl (tyX7_ok 18 (Nat.le_of_ble_eq_true rfl)) rfl rfl (Nat.le_of_ble_eq_true rfl) (by decide +kernel) ?_
  refine jw_ws (ws' := (h0, .inr (7, [.ref q1, .int (zI 0), .int (zI 0), .int (zI 0), .ref q2, .ref q3, .ref q4, .ref q5, .int (zI 0), .int (zI 0), .int (zI 0), .ref q6, .ref q7, .int (zI 0), .int (zI 0), .int (zI 0), .int (zI 0), .ref q8, .ref q9, .null, .null, .null, .int (zI 0), .int (zI 0), .int (zI 0), .null, .null, .null, .int (zI 0), .null, .int (zI 0), .null, .int (zI 0)])) :: (((((((([(q1, cA cI 12 zr)] ++ [(q2, cA cI 8 zr)]) ++ [(q3, cA cI 8 zr)]) ++ [(q4, cA cI 8 zr)]) ++ [(q5, cA cI 8 zr)]) ++ [(q6, cA cI 7 zr)]) ++ [(q7, cA cI 96 zr)]) ++ [(q8, cA cI 49 zr)]) ++ [(q9, cA cI 49 zr)])) rfl ?_
  refine jw_aload (i := 0) 0 (by decide +kernel) rfl ?_
  refine jw_bip (n := 98) (v := zI 98) (by decide +kernel) rfl ?_
  refine jw_newa (N := 98) (g9_ (i := 66) rfl rfl) (by decide +kernel) (by decide +kernel) (Nat.le_of_ble_eq_true rfl) (by decide +kernel) (Nat.le_of_ble_eq_true rfl) (Nat.le_of_ble_eq_true rfl) (fun q10 => ?_)
  refine jw_putF (idx := 37) (q0 := 0) (sl := 19) (N := 33) (C := RX7) (T := TX7) (ty := tyX7 19) rfl rfl (Nat.le_of_ble_eq_true rfl) (hg_ (i := 19) rfl rfl) rfl rfl rfl (tyX7_ok 19 (Nat.le_of_ble_eq_true rfl)) rfl rfl (Nat.le_of_ble_eq_true rfl) (by decide +kernel) ?_
  refine jw_ws (ws' := (h0, .inr (7, [.ref q1, .int (zI 0), .int (zI 0), .int (zI 0), .ref q2, .ref q3, .ref q4, .ref q5, .int (zI 0), .int (zI 0), .int (zI 0), .ref q6, .ref q7, .int (zI 0), .int (zI 0), .int (zI 0), .int (zI 0), .ref q8, .ref q9, .ref q10, .null, .null, .int (zI 0), .int (zI 0), .int (zI 0), .null, .null, .null, .int (zI 0), .null, .int (zI 0), .null, .int (zI 0)])) :: ((((((((([(q1, cA cI 12 zr)] ++ [(q2, cA cI 8 zr)]) ++ [(q3, cA cI 8 zr)]) ++ [(q4, cA cI 8 zr)]) ++ [(q5, cA cI 8 zr)]) ++ [(q6, cA cI 7 zr)]) ++ [(q7, cA cI 96 zr)]) ++ [(q8, cA cI 49 zr)]) ++ [(q9, cA cI 49 zr)]) ++ [(q10, cA cI 98 zr)])) rfl ?_
  refine jw_aload (i := 0) 0 (by decide +kernel) rfl ?_
  refine jw_bip (n := 49) (v := zI 49) (by decide +kernel) rfl ?_
  refine jw_newa (N := 49) (g9_ (i := 66) rfl rfl) (by decide +kernel) (by decide +kernel) (Nat.le_of_ble_eq_true rfl) (by decide +kernel) (Nat.le_of_ble_eq_true rfl) (Nat.le_of_ble_eq_true rfl) (fun q11 => ?_)
  refine jw_putF (idx := 40) (q0 := 0) (sl := 20) (N := 33) (C := RX7) (T := TX7) (ty := tyX7 20) rfl rfl (Nat.le_of_ble_eq_true rfl) (hg_ (i := 20) rfl rfl) rfl rfl rfl (tyX7_ok 20 (Nat.le_of_ble_eq_true rfl)) rfl rfl (Nat.le_of_ble_eq_true rfl) (by decide +kernel) ?_
  refine jw_ws (ws' := (h0, .inr (7, [.ref q1, .int (zI 0), .int (zI 0), .int (zI 0), .ref q2, .ref q3, .ref q4, .ref q5, .int (zI 0), .int (zI 0), .int (zI 0), .ref q6, .ref q7, .int (zI 0), .int (zI 0), .int (zI 0), .int (zI 0), .ref q8, .ref q9, .ref q10, .ref q11, .null, .int (zI 0), .int (zI 0), .int (zI 0), .null, .null, .null, .int (zI 0), .null, .int (zI 0), .null, .int (zI 0)])) :: (((((((((([(q1, cA cI 12 zr)] ++ [(q2, cA cI 8 zr)]) ++ [(q3, cA cI 8 zr)]) ++ [(q4, cA cI 8 zr)]) ++ [(q5, cA cI 8 zr)]) ++ [(q6, cA cI 7 zr)]) ++ [(q7, cA cI 96 zr)]) ++ [(q8, cA cI 49 zr)]) ++ [(q9, cA cI 49 zr)]) ++ [(q10, cA cI 98 zr)]) ++ [(q11, cA cI 49 zr)])) rfl ?_
  refine jw_aload (i := 0) 0 (by decide +kernel) rfl ?_
  refine jw_bip (n := 49) (v := zI 49) (by decide +kernel) rfl ?_
  refine jw_newa (N := 49) (g9_ (i := 66) rfl rfl) (by decide +kernel) (by decide +kernel) (Nat.le_of_ble_eq_true rfl) (by decide +kernel) (Nat.le_of_ble_eq_true rfl) (Nat.le_of_ble_eq_true rfl) (fun q12 => ?_)
  refine jw_putF (idx := 43) (q0 := 0) (sl := 21) (N := 33) (C := RX7) (T := TX7) (ty := tyX7 21) rfl rfl (Nat.le_of_ble_eq_true rfl) (hg_ (i := 21) rfl rfl) rfl rfl rfl (tyX7_ok 21 (Nat.le_of_ble_eq_true rfl)) rfl rfl (Nat.le_of_ble_eq_true rfl) (by decide +kernel) ?_
  refine jw_ws (ws' := (h0, .inr (7, [.ref q1, .int (zI 0), .int (zI 0), .int (zI 0), .ref q2, .ref q3, .ref q4, .ref q5, .int (zI 0), .int (zI 0), .int (zI 0), .ref q6, .ref q7, .int (zI 0), .int (zI 0), .int (zI 0), .int (zI 0), .ref q8, .ref q9, .ref q10, .ref q11, .ref q12, .int (zI 0), .int (zI 0), .int (zI 0), .null, .null, .null, .int (zI 0), .null, .int (zI 0), .null, .int (zI 0)])) :: ((((((((((([(q1, cA cI 12 zr)] ++ [(q2, cA cI 8 zr)]) ++ [(q3, cA cI 8 zr)]) ++ [(q4, cA cI 8 zr)]) ++ [(q5, cA cI 8 zr)]) ++ [(q6, cA cI 7 zr)]) ++ [(q7, cA cI 96 zr)]) ++ [(q8, cA cI 49 zr)]) ++ [(q9, cA cI 49 zr)]) ++ [(q10, cA cI 98 zr)]) ++ [(q11, cA cI 49 zr)]) ++ [(q12, cA cI 49 zr)])) rfl ?_
  refine jw_aload (i := 0) 0 (by decide +kernel) rfl ?_
  refine jw_sip (n := 392) (v := zI 392) (by decide +kernel) rfl ?_
  refine jw_newa (N := 392) (g9_ (i := 66) rfl rfl) (by decide +kernel) (by decide +kernel) (Nat.le_of_ble_eq_true rfl) (by decide +kernel) (Nat.le_of_ble_eq_true rfl) (Nat.le_of_ble_eq_true rfl) (fun q13 => ?_)
  refine jw_putF (idx := 46) (q0 := 0) (sl := 26) (N := 33) (C := RX7) (T := TX7) (ty := tyX7 26) rfl rfl (Nat.le_of_ble_eq_true rfl) (hg_ (i := 26) rfl rfl) rfl rfl rfl (tyX7_ok 26 (Nat.le_of_ble_eq_true rfl)) rfl rfl (Nat.le_of_ble_eq_true rfl) (by decide +kernel) ?_
  refine jw_ws (ws' := (h0, .inr (7, [.ref q1, .int (zI 0), .int (zI 0), .int (zI 0), .ref q2, .ref q3, .ref q4, .ref q5, .int (zI 0), .int (zI 0), .int (zI 0), .ref q6, .ref q7, .int (zI 0), .int (zI 0), .int (zI 0), .int (zI 0), .ref q8, .ref q9, .ref q10, .ref q11, .ref q12, .int (zI 0), .int (zI 0), .int (zI 0), .null, .ref q13, .null, .int (zI 0), .null, .int (zI 0), .null, .int (zI 0)])) :: (((((((((((([(q1, cA cI 12 zr)] ++ [(q2, cA cI 8 zr)]) ++ [(q3, cA cI 8 zr)]) ++ [(q4, cA cI 8 zr)]) ++ [(q5, cA cI 8 zr)]) ++ [(q6, cA cI 7 zr)]) ++ [(q7, cA cI 96 zr)]) ++ [(q8, cA cI 49 zr)]) ++ [(q9, cA cI 49 zr)]) ++ [(q10, cA cI 98 zr)]) ++ [(q11, cA cI 49 zr)]) ++ [(q12, cA cI 49 zr)]) ++ [(q13, cA cI 392 zr)])) rfl ?_
  refine jw_aload (i := 0) 0 (by decide +kernel) rfl ?_
  refine jw_bip (n := 49) (v := zI 49) (by decide +kernel) rfl ?_
  refine jw_newa (N := 49) (g9_ (i := 66) rfl rfl) (by decide +kernel) (by decide +kernel) (Nat.le_of_ble_eq_true rfl) (by decide +kernel) (Nat.le_of_ble_eq_true rfl) (Nat.le_of_ble_eq_true rfl) (fun q14 => ?_)
  refine jw_putF (idx := 49) (q0 := 0) (sl := 27) (N := 33) (C := RX7) (T := TX7) (ty := tyX7 27) rfl rfl (Nat.le_of_ble_eq_true rfl) (hg_ (i := 27) rfl rfl) rfl rfl rfl (tyX7_ok 27 (Nat.le_of_ble_eq_true rfl)) rfl rfl (Nat.le_of_ble_eq_true rfl) (by decide +kernel) ?_
  refine jw_ws (ws' := (h0, .inr (7, [.ref q1, .int (zI 0), .int (zI 0), .int (zI 0), .ref q2, .ref q3, .ref q4, .ref q5, .int (zI 0), .int (zI 0), .int (zI 0), .ref q6, .ref q7, .int (zI 0), .int (zI 0), .int (zI 0), .int (zI 0), .ref q8, .ref q9, .ref q10, .ref q11, .ref q12, .int (zI 0), .int (zI 0), .int (zI 0), .null, .ref q13, .ref q14, .int (zI 0), .null, .int (zI 0), .null, .int (zI 0)])) :: ((((((((((((([(q1, cA cI 12 zr)] ++ [(q2, cA cI 8 zr)]) ++ [(q3, cA cI 8 zr)]) ++ [(q4, cA cI 8 zr)]) ++ [(q5, cA cI 8 zr)]) ++ [(q6, cA cI 7 zr)]) ++ [(q7, cA cI 96 zr)]) ++ [(q8, cA cI 49 zr)]) ++ [(q9, cA cI 49 zr)]) ++ [(q10, cA cI 98 zr)]) ++ [(q11, cA cI 49 zr)]) ++ [(q12, cA cI 49 zr)]) ++ [(q13, cA cI 392 zr)]) ++ [(q14, cA cI 49 zr)])) rfl ?_
  refine jw_aload (i := 0) 0 (by decide +kernel) rfl ?_
  refine jw_bip (n := 12) (v := zI 12) (by decide +kernel) rfl ?_
  refine jw_newa (N := 12) (g9_ (i := 66) rfl rfl) (by decide +kernel) (by decide +kernel) (Nat.le_of_ble_eq_true rfl) (by decide +kernel) (Nat.le_of_ble_eq_true rfl) (Nat.le_of_ble_eq_true rfl) (fun q15 => ?_)
  refine jw_putF (idx := 52) (q0 := 0) (sl := 29) (N := 33) (C := RX7) (T := TX7) (ty := tyX7 29) rfl rfl (Nat.le_of_ble_eq_true rfl) (hg_ (i := 29) rfl rfl) rfl rfl rfl (tyX7_ok 29 (Nat.le_of_ble_eq_true rfl)) rfl rfl (Nat.le_of_ble_eq_true rfl) (by decide +kernel) ?_
  refine jw_ws (ws' := (h0, .inr (7, [.ref q1, .int (zI 0), .int (zI 0), .int (zI 0), .ref q2, .ref q3, .ref q4, .ref q5, .int (zI 0), .int (zI 0), .int (zI 0), .ref q6, .ref q7, .int (zI 0), .int (zI 0), .int (zI 0), .int (zI 0), .ref q8, .ref q9, .ref q10, .ref q11, .ref q12, .int (zI 0), .int (zI 0), .int (zI 0), .null, .ref q13, .ref q14, .int (zI 0), .ref q15, .int (zI 0), .null, .int (zI 0)])) :: (((((((((((((([(q1, cA cI 12 zr)] ++ [(q2, cA cI 8 zr)]) ++ [(q3, cA cI 8 zr)]) ++ [(q4, cA cI 8 zr)]) ++ [(q5, cA cI 8 zr)]) ++ [(q6, cA cI 7 zr)]) ++ [(q7, cA cI 96 zr)]) ++ [(q8, cA cI 49 zr)]) ++ [(q9, cA cI 49 zr)]) ++ [(q10, cA cI 98 zr)]) ++ [(q11, cA cI 49 zr)]) ++ [(q12, cA cI 49 zr)]) ++ [(q13, cA cI 392 zr)]) ++ [(q14, cA cI 49 zr)]) ++ [(q15, cA cI 12 zr)])) rfl ?_
  refine jw_aload (i := 0) 0 (by decide +kernel) rfl ?_
  refine jw_bip (n := 8) (v := zI 8) (by decide +kernel) rfl ?_
  refine jw_newa (N := 8) (g9_ (i := 66) rfl rfl) (by decide +kernel) (by decide +kernel) (Nat.le_of_ble_eq_true rfl) (by decide +kernel) (Nat.le_of_ble_eq_true rfl) (Nat.le_of_ble_eq_true rfl) (fun q16 => ?_)
  refine jw_putF (idx := 55) (q0 := 0) (sl := 31) (N := 33) (C := RX7) (T := TX7) (ty := tyX7 31) rfl rfl (Nat.le_of_ble_eq_true rfl) (hg_ (i := 31) rfl rfl) rfl rfl rfl (tyX7_ok 31 (Nat.le_of_ble_eq_true rfl)) rfl rfl (Nat.le_of_ble_eq_true rfl) (by decide +kernel) ?_
  refine jw_ws (ws' := (h0, .inr (7, [.ref q1, .int (zI 0), .int (zI 0), .int (zI 0), .ref q2, .ref q3, .ref q4, .ref q5, .int (zI 0), .int (zI 0), .int (zI 0), .ref q6, .ref q7, .int (zI 0), .int (zI 0), .int (zI 0), .int (zI 0), .ref q8, .ref q9, .ref q10, .ref q11, .ref q12, .int (zI 0), .int (zI 0), .int (zI 0), .null, .ref q13, .ref q14, .int (zI 0), .ref q15, .int (zI 0), .ref q16, .int (zI 0)])) :: ((((((((((((((([(q1, cA cI 12 zr)] ++ [(q2, cA cI 8 zr)]) ++ [(q3, cA cI 8 zr)]) ++ [(q4, cA cI 8 zr)]) ++ [(q5, cA cI 8 zr)]) ++ [(q6, cA cI 7 zr)]) ++ [(q7, cA cI 96 zr)]) ++ [(q8, cA cI 49 zr)]) ++ [(q9, cA cI 49 zr)]) ++ [(q10, cA cI 98 zr)]) ++ [(q11, cA cI 49 zr)]) ++ [(q12, cA cI 49 zr)]) ++ [(q13, cA cI 392 zr)]) ++ [(q14, cA cI 49 zr)]) ++ [(q15, cA cI 12 zr)]) ++ [(q16, cA cI 8 zr)])) rfl ?_
  refine jw_aload (i := 0) 0 (by decide +kernel) rfl ?_
  refine jw_icn (n := 0) (v := zI 0) (by decide +kernel) rfl ?_
  refine jw_put (idx := 58) (q0 := 0) (sl := 10) (N := 33) (C := RX7) (T := TX7) (ty := tyX7 10) rfl rfl (Nat.le_of_ble_eq_true rfl) (hg_ (i := 10) rfl rfl) rfl rfl (tyX7_ok 10 (Nat.le_of_ble_eq_true rfl)) rfl rfl (Nat.le_of_ble_eq_true rfl) (by decide +kernel) ?_
  refine jw_ws (ws' := (h0, .inr (7, [.ref q1, .int (zI 0), .int (zI 0), .int (zI 0), .ref q2, .ref q3, .ref q4, .ref q5, .int (zI 0), .int (zI 0), .int (zI 0), .ref q6, .ref q7, .int (zI 0), .int (zI 0), .int (zI 0), .int (zI 0), .ref q8, .ref q9, .ref q10, .ref q11, .ref q12, .int (zI 0), .int (zI 0), .int (zI 0), .null, .ref q13, .ref q14, .int (zI 0), .ref q15, .int (zI 0), .ref q16, .int (zI 0)])) :: ((((((((((((((([(q1, cA cI 12 zr)] ++ [(q2, cA cI 8 zr)]) ++ [(q3, cA cI 8 zr)]) ++ [(q4, cA cI 8 zr)]) ++ [(q5, cA cI 8 zr)]) ++ [(q6, cA cI 7 zr)]) ++ [(q7, cA cI 96 zr)]) ++ [(q8, cA cI 49 zr)]) ++ [(q9, cA cI 49 zr)]) ++ [(q10, cA cI 98 zr)]) ++ [(q11, cA cI 49 zr)]) ++ [(q12, cA cI 49 zr)]) ++ [(q13, cA cI 392 zr)]) ++ [(q14, cA cI 49 zr)]) ++ [(q15, cA cI 12 zr)]) ++ [(q16, cA cI 8 zr)])) rfl ?_
  refine jw_aload (i := 0) 0 (by decide +kernel) rfl ?_
  refine jw_bip (n := 12) (v := zI 12) (by decide +kernel) rfl ?_
  refine jw_put (idx := 62) (q0 := 0) (sl := 2) (N := 33) (C := RX7) (T := TX7) (ty := tyX7 2) rfl rfl (Nat.le_of_ble_eq_true rfl) (hg_ (i := 2) rfl rfl) rfl rfl (tyX7_ok 2 (Nat.le_of_ble_eq_true rfl)) rfl rfl (Nat.le_of_ble_eq_true rfl) (by decide +kernel) ?_
  refine jw_ws (ws' := (h0, .inr (7, [.ref q1, .int (zI 0), .int (zI 12), .int (zI 0), .ref q2, .ref q3, .ref q4, .ref q5, .int (zI 0), .int (zI 0), .int (zI 0), .ref q6, .ref q7, .int (zI 0), .int (zI 0), .int (zI 0), .int (zI 0), .ref q8, .ref q9, .ref q10, .ref q11, .ref q12, .int (zI 0), .int (zI 0), .int (zI 0), .null, .ref q13, .ref q14, .int (zI 0), .ref q15, .int (zI 0), .ref q16, .int (zI 0)])) :: ((((((((((((((([(q1, cA cI 12 zr)] ++ [(q2, cA cI 8 zr)]) ++ [(q3, cA cI 8 zr)]) ++ [(q4, cA cI 8 zr)]) ++ [(q5, cA cI 8 zr)]) ++ [(q6, cA cI 7 zr)]) ++ [(q7, cA cI 96 zr)]) ++ [(q8, cA cI 49 zr)]) ++ [(q9, cA cI 49 zr)]) ++ [(q10, cA cI 98 zr)]) ++ [(q11, cA cI 49 zr)]) ++ [(q12, cA cI 49 zr)]) ++ [(q13, cA cI 392 zr)]) ++ [(q14, cA cI 49 zr)]) ++ [(q15, cA cI 12 zr)]) ++ [(q16, cA cI 8 zr)])) rfl ?_
  refine jw_icn (n := 0) (v := zI 0) (by decide +kernel) rfl ?_
  refine jw_istore (i := 1) (lv' := [(1, .int (zI 0)), (0, .ref h0)]) (by decide +kernel) (Nat.le_of_ble_eq_true rfl) rfl ?_
  have loop : ∀ n i : Nat, i + n = 12 → JW cI cR M_M_init (rmC 1 16 902) (Sh7 h0 cI cR) 146 [(1, .int (zI (i : Int))), (0, .ref h0)] [] ((h0, .inr (7, [.ref q1, .int (zI 0), .int (zI 12), .int (zI 0), .ref q2, .ref q3, .ref q4, .ref q5, .int (zI 0), .int (zI 0), .int (zI 0), .ref q6, .ref q7, .int (zI 0), .int (zI 0), .int (zI 0), .int (zI 0), .ref q8, .ref q9, .ref q10, .ref q11, .ref q12, .int (zI 0), .int (zI 0), .int (zI 0), .null, .ref q13, .ref q14, .int (zI 0), .ref q15, .int (zI 0), .ref q16, .int (zI 0)])) :: ((((((((((((((([(q1, cA cI 12 (onesF i))] ++ [(q2, cA cI 8 zr)]) ++ [(q3, cA cI 8 zr)]) ++ [(q4, cA cI 8 zr)]) ++ [(q5, cA cI 8 zr)]) ++ [(q6, cA cI 7 zr)]) ++ [(q7, cA cI 96 zr)]) ++ [(q8, cA cI 49 zr)]) ++ [(q9, cA cI 49 zr)]) ++ [(q10, cA cI 98 zr)]) ++ [(q11, cA cI 49 zr)]) ++ [(q12, cA cI 49 zr)]) ++ [(q13, cA cI 392 zr)]) ++ [(q14, cA cI 49 zr)]) ++ [(q15, cA cI 12 zr)]) ++ [(q16, cA cI 8 zr)])) 16 902 := by
    intro n
    induction n with
    | zero =>
      intro i hi
      have e : i = 12 := by omega
      subst e
      refine jw_iload (i := 1) 0 (by decide +kernel) rfl ?_
      refine jw_bip (n := 12) (v := 12) (by decide +kernel) rfl ?_
      refine jw_ge (off := 16) (tgt := 165) (by decide +kernel) rfl (fun _ => ?_) (fun q => absurd ((le_zI (z := 12) rfl (by omega)).mpr (Nat.le_refl 12)) q)
      exact jw_ret rfl (⟨q1, q2, q3, q4, q5, q6, q7, q8, q9, q10, q11, q12, q13, q14, q15, q16, rfl⟩) (Nat.le_of_ble_eq_true rfl) (Nat.le_of_ble_eq_true rfl) (by decide +kernel)
    | succ n ih =>
      intro i hi
      have step := ih (i + 1) (by omega)
      rw [← ones_up] at step
      refine jw_iload (i := 1) 0 (by decide +kernel) rfl ?_
      refine jw_bip (n := 12) (v := 12) (by decide +kernel) rfl ?_
      refine jw_ge (off := 16) (tgt := 165) (by decide +kernel) rfl (fun q => absurd ((le_zI (z := 12) rfl (by omega)).mp q) (by omega)) (fun _ => ?_)
      refine jw_aload (i := 0) 1 (by decide +kernel) rfl ?_
      refine jw_get (idx := 7) (q0 := 0) (sl := 0) (N := 33) (C := RX7) (T := TX7) rfl rfl (Nat.le_of_ble_eq_true rfl) (hg_ (i := 0) rfl rfl) rfl rfl (by decide +kernel) ?_
      refine jw_iload (i := 1) 0 (by decide +kernel) rfl ?_
      refine jw_icn (n := 1) (v := zI 1) (by decide +kernel) rfl ?_
      refine jw_iast (q0 := 1) (n := 12) (f := onesF i) rfl (vp_inC (by omega) (by omega)) (by decide +kernel) ?_
      rw [tnc (by omega)]
      refine jw_iinc (i := 1) (n := 1) (k := 0) (v := zI ((i + 1 : Nat) : Int)) (lv' := [(1, .int (zI ((i + 1 : Nat) : Int))), (0, .ref h0)]) (by decide +kernel) rfl (cf_ _ _) (Nat.le_of_ble_eq_true rfl) rfl ?_
      refine jw_goto (off := -16) (tgt := 146) (by decide +kernel) rfl ?_
      exact step
  have l0 := loop 12 0 rfl
  rw [ones_0] at l0
  exact l0
end
/-! world -/
section
/-! ===== the world at the law's start, by its numbers ===== -/
theorem cQ_eq {cR : ClassId} {n : Nat} {f g : Nat → Option Nat} (h : ∀ j, j < n → f j = g j) : vp_cell cR (n, .inr (.inr (.inr (.inr f)))) = vp_cell cR (n, .inr (.inr (.inr (.inr g)))) := by
  rw [vp_cell_q, vp_cell_q]
  simp only [arrV]
  congr 1
  apply Array.ext
  · simp
  · intro i h1 h2
    simp only [Array.getElem_ofFn]
    rw [h i (by simpa using h1)]
theorem va_P_swap {G : va_G} {cl : List vw_C} {cR : ClassId} {ws : va_W} {H : Heap} {k a n : Nat} {f g : Nat → Option Nat} (hk : ws[k]? = some (a, cQ cR n f)) (h : ∀ j, j < n → f j = g j) (hP : va_P G cl ws H) : va_P G cl (ws.set k (a, cQ cR n g)) H := by
  intro j q hq
  by_cases e : j = k
  · subst e
    have hl := (List.getElem?_eq_some_iff.mp hk).1
    rw [List.getElem?_set_self hl] at hq
    cases hq
    have h1 : H[a]? = some (vp_cell cR (n, .inr (.inr (.inr (.inr f))))) := hP j _ hk
    show H[a]? = some (vp_cell cR (n, .inr (.inr (.inr (.inr g)))))
    rw [h1, cQ_eq h]
  · rw [List.getElem?_set_ne (fun q => e q.symm)] at hq
    exact hP j q hq
def nul : Nat → Int := fun _ => 0
def R0 : RR := mkR (fun j => if j < 12 then 1 else 0) nul nul nul nul 0 0 12 0 0
def hM0 (bb : AH) : AH := HM R0 nul nul 0 0 0 0 nul nul nul nul nul 0 0 0 .null nul 0 nul nul 0 nul 0 bb
def hX0 (hM : AH) : AH := HX (fun _ => R0) id 0 nul 0 nul 0 nul nul 0 nul 0 hM
def hI0 : AH := hX0 (hM0 (fun _ => none))
def sg (r1 r2 r3 : Nat → Nat) (b : Nat → Nat → Nat) (rc rh v : Nat → Nat) : Nat → Nat := fun k =>
  if k < 6 then r1 k else if k < 12 then r2 (k - 6) else if k < 18 then r3 (k - 12) else if k < 66 then b ((k - 18) / 6) ((k - 18) % 6) else if k < 72 then rc (k - 66) else if k < 78 then rh (k - 72) else v (k - 78)
def pls : List Nat := [1, 2, 3, 4, 5, 6, 7, 8, 9, 10, 11, 12, 13, 14, 15, 16, 17, 18, 21, 22, 23, 24, 25, 26, 27, 28, 29, 30, 31, 32, 33, 34, 35, 36, 37, 38, 39, 40, 41, 42, 43, 44, 45, 46, 47, 48, 49, 50, 51, 52, 53, 54, 55, 56, 57, 58, 59, 60, 61, 62, 63, 64, 65, 66, 67, 68, 74, 75, 76, 77, 78, 79, 83, 84, 85, 86, 87, 88, 0, 19, 20, 69, 70, 71, 72, 73, 80, 81, 82, 89, 90, 91, 92, 93, 94, 95, 96, 97, 98, 99, 100, 101, 102, 103, 104, 105, 106]
theorem pls_nd : va_nd pls = true := by decide +kernel
theorem hI0_hi {k : Nat} (h : ¬ k < 90) : hI0 k = hM0 (fun _ => none) k := by
  show (if k < 90 then _ else hM0 (fun _ => none) k) = _
  rw [if_neg h]
theorem wd_at {cI cR : ClassId} {σ : Nat → Nat} {N k : Nat} {h : AH} {q : Nat × va_E} (hk : (wd cI cR σ N h)[k]? = some q) : k < N ∧ q = (σ k, ce cI cR σ ((h k).getD (.inl (0, fun _ => 0)))) := by
  by_cases hl : k < N
  · simp [wd, hl] at hk
    exact ⟨hl, hk.symm⟩
  · simp [wd, Nat.not_lt.mp hl] at hk
theorem R0_men : rMen R0 = 0 := id rfl
theorem R0_king : hd_ R0 = 0 := id rfl
theorem R0_load : rLoad R0 = 12 := id rfl
theorem R0_snow : rSnow R0 = 0 := id rfl
theorem R0_day : hh_ R0 = 0 := id rfl
theorem R0_sl : (fun j => zI (rSl R0 j)) = onesF 12 := id rfl
theorem R0_ki : (fun j => zI (rKi R0 j)) = zr := id rfl
theorem R0_fi : (fun j => zI (rFi R0 j)) = zr := id rfl
theorem R0_fa : (fun j => zI (rFa R0 j)) = zr := id rfl
theorem R0_wo : (fun j => zI (rWo R0 j)) = zr := id rfl
theorem nul_z : (fun j => zI (nul j)) = zr := id rfl
theorem hI0_R {i j : Nat} (hi : i < 13) (hj : j < 6) : hI0 (6 * i + j) = he_ (fun _ => none) (6 * i) R0 (6 * i + j) := by
  unfold hI0 hX0
  exact hX_R hi hj
theorem hI0_lo {k : Nat} (h : k < 90) : hI0 k = cellX (fun _ => R0) id 0 nul 0 nul 0 nul nul 0 nul 0 k := by
  unfold hI0 hX0 HX
  rw [if_pos h]
theorem ci_0 : hI0 0 = some (.inr (.inr (4, [.ref 1, .ref 2, .ref 3, .ref 4, .ref 5, .int (zI 0), .int (zI 0), .int (zI 12), .int (zI 0), .int (zI 0)]))) := by
  rw [show 0 = 6 * 0 + 0 from rfl, hI0_R (by omega) (by omega), Nat.add_zero, fb_]
  simp only [R0_men, R0_king, R0_load, R0_snow, R0_day, R0_sl, R0_ki, R0_fi, R0_fa, R0_wo, Nat.reduceMul, Nat.reduceAdd]
theorem ci_1 : hI0 1 = some (.inl (12, onesF 12)) := by
  rw [show 1 = 6 * 0 + 1 from rfl, hI0_R (by omega) (by omega), fe_]
  simp only [R0_men, R0_king, R0_load, R0_snow, R0_day, R0_sl, R0_ki, R0_fi, R0_fa, R0_wo, Nat.reduceMul, Nat.reduceAdd]
theorem ci_2 : hI0 2 = some (.inl (8, zr)) := by
  rw [show 2 = 6 * 0 + 2 from rfl, hI0_R (by omega) (by omega), ff_]
  simp only [R0_men, R0_king, R0_load, R0_snow, R0_day, R0_sl, R0_ki, R0_fi, R0_fa, R0_wo, Nat.reduceMul, Nat.reduceAdd]
theorem ci_3 : hI0 3 = some (.inl (8, zr)) := by
  rw [show 3 = 6 * 0 + 3 from rfl, hI0_R (by omega) (by omega), fg_]
  simp only [R0_men, R0_king, R0_load, R0_snow, R0_day, R0_sl, R0_ki, R0_fi, R0_fa, R0_wo, Nat.reduceMul, Nat.reduceAdd]
theorem ci_4 : hI0 4 = some (.inl (8, zr)) := by
  rw [show 4 = 6 * 0 + 4 from rfl, hI0_R (by omega) (by omega), fc_]
  simp only [R0_men, R0_king, R0_load, R0_snow, R0_day, R0_sl, R0_ki, R0_fi, R0_fa, R0_wo, Nat.reduceMul, Nat.reduceAdd]
theorem ci_5 : hI0 5 = some (.inl (8, zr)) := by
  rw [show 5 = 6 * 0 + 5 from rfl, hI0_R (by omega) (by omega), fd_]
  simp only [R0_men, R0_king, R0_load, R0_snow, R0_day, R0_sl, R0_ki, R0_fi, R0_fa, R0_wo, Nat.reduceMul, Nat.reduceAdd]
theorem ci_6 : hI0 6 = some (.inr (.inr (4, [.ref 7, .ref 8, .ref 9, .ref 10, .ref 11, .int (zI 0), .int (zI 0), .int (zI 12), .int (zI 0), .int (zI 0)]))) := by
  rw [show 6 = 6 * 1 + 0 from rfl, hI0_R (by omega) (by omega), Nat.add_zero, fb_]
  simp only [R0_men, R0_king, R0_load, R0_snow, R0_day, R0_sl, R0_ki, R0_fi, R0_fa, R0_wo, Nat.reduceMul, Nat.reduceAdd]
theorem ci_7 : hI0 7 = some (.inl (12, onesF 12)) := by
  rw [show 7 = 6 * 1 + 1 from rfl, hI0_R (by omega) (by omega), fe_]
  simp only [R0_men, R0_king, R0_load, R0_snow, R0_day, R0_sl, R0_ki, R0_fi, R0_fa, R0_wo, Nat.reduceMul, Nat.reduceAdd]
theorem ci_8 : hI0 8 = some (.inl (8, zr)) := by
  rw [show 8 = 6 * 1 + 2 from rfl, hI0_R (by omega) (by omega), ff_]
  simp only [R0_men, R0_king, R0_load, R0_snow, R0_day, R0_sl, R0_ki, R0_fi, R0_fa, R0_wo, Nat.reduceMul, Nat.reduceAdd]
theorem ci_9 : hI0 9 = some (.inl (8, zr)) := by
  rw [show 9 = 6 * 1 + 3 from rfl, hI0_R (by omega) (by omega), fg_]
  simp only [R0_men, R0_king, R0_load, R0_snow, R0_day, R0_sl, R0_ki, R0_fi, R0_fa, R0_wo, Nat.reduceMul, Nat.reduceAdd]
theorem ci_10 : hI0 10 = some (.inl (8, zr)) := by
  rw [show 10 = 6 * 1 + 4 from rfl, hI0_R (by omega) (by omega), fc_]
  simp only [R0_men, R0_king, R0_load, R0_snow, R0_day, R0_sl, R0_ki, R0_fi, R0_fa, R0_wo, Nat.reduceMul, Nat.reduceAdd]
theorem ci_11 : hI0 11 = some (.inl (8, zr)) := by
  rw [show 11 = 6 * 1 + 5 from rfl, hI0_R (by omega) (by omega), fd_]
  simp only [R0_men, R0_king, R0_load, R0_snow, R0_day, R0_sl, R0_ki, R0_fi, R0_fa, R0_wo, Nat.reduceMul, Nat.reduceAdd]
theorem ci_12 : hI0 12 = some (.inr (.inr (4, [.ref 13, .ref 14, .ref 15, .ref 16, .ref 17, .int (zI 0), .int (zI 0), .int (zI 12), .int (zI 0), .int (zI 0)]))) := by
  rw [show 12 = 6 * 2 + 0 from rfl, hI0_R (by omega) (by omega), Nat.add_zero, fb_]
  simp only [R0_men, R0_king, R0_load, R0_snow, R0_day, R0_sl, R0_ki, R0_fi, R0_fa, R0_wo, Nat.reduceMul, Nat.reduceAdd]
theorem ci_13 : hI0 13 = some (.inl (12, onesF 12)) := by
  rw [show 13 = 6 * 2 + 1 from rfl, hI0_R (by omega) (by omega), fe_]
  simp only [R0_men, R0_king, R0_load, R0_snow, R0_day, R0_sl, R0_ki, R0_fi, R0_fa, R0_wo, Nat.reduceMul, Nat.reduceAdd]
theorem ci_14 : hI0 14 = some (.inl (8, zr)) := by
  rw [show 14 = 6 * 2 + 2 from rfl, hI0_R (by omega) (by omega), ff_]
  simp only [R0_men, R0_king, R0_load, R0_snow, R0_day, R0_sl, R0_ki, R0_fi, R0_fa, R0_wo, Nat.reduceMul, Nat.reduceAdd]
theorem ci_15 : hI0 15 = some (.inl (8, zr)) := by
  rw [show 15 = 6 * 2 + 3 from rfl, hI0_R (by omega) (by omega), fg_]
  simp only [R0_men, R0_king, R0_load, R0_snow, R0_day, R0_sl, R0_ki, R0_fi, R0_fa, R0_wo, Nat.reduceMul, Nat.reduceAdd]
theorem ci_16 : hI0 16 = some (.inl (8, zr)) := by
  rw [show 16 = 6 * 2 + 4 from rfl, hI0_R (by omega) (by omega), fc_]
  simp only [R0_men, R0_king, R0_load, R0_snow, R0_day, R0_sl, R0_ki, R0_fi, R0_fa, R0_wo, Nat.reduceMul, Nat.reduceAdd]
theorem ci_17 : hI0 17 = some (.inl (8, zr)) := by
  rw [show 17 = 6 * 2 + 5 from rfl, hI0_R (by omega) (by omega), fd_]
  simp only [R0_men, R0_king, R0_load, R0_snow, R0_day, R0_sl, R0_ki, R0_fi, R0_fa, R0_wo, Nat.reduceMul, Nat.reduceAdd]
theorem ci_18 : hI0 18 = some (.inr (.inr (4, [.ref 19, .ref 20, .ref 21, .ref 22, .ref 23, .int (zI 0), .int (zI 0), .int (zI 12), .int (zI 0), .int (zI 0)]))) := by
  rw [show 18 = 6 * 3 + 0 from rfl, hI0_R (by omega) (by omega), Nat.add_zero, fb_]
  simp only [R0_men, R0_king, R0_load, R0_snow, R0_day, R0_sl, R0_ki, R0_fi, R0_fa, R0_wo, Nat.reduceMul, Nat.reduceAdd]
theorem ci_19 : hI0 19 = some (.inl (12, onesF 12)) := by
  rw [show 19 = 6 * 3 + 1 from rfl, hI0_R (by omega) (by omega), fe_]
  simp only [R0_men, R0_king, R0_load, R0_snow, R0_day, R0_sl, R0_ki, R0_fi, R0_fa, R0_wo, Nat.reduceMul, Nat.reduceAdd]
theorem ci_20 : hI0 20 = some (.inl (8, zr)) := by
  rw [show 20 = 6 * 3 + 2 from rfl, hI0_R (by omega) (by omega), ff_]
  simp only [R0_men, R0_king, R0_load, R0_snow, R0_day, R0_sl, R0_ki, R0_fi, R0_fa, R0_wo, Nat.reduceMul, Nat.reduceAdd]
theorem ci_21 : hI0 21 = some (.inl (8, zr)) := by
  rw [show 21 = 6 * 3 + 3 from rfl, hI0_R (by omega) (by omega), fg_]
  simp only [R0_men, R0_king, R0_load, R0_snow, R0_day, R0_sl, R0_ki, R0_fi, R0_fa, R0_wo, Nat.reduceMul, Nat.reduceAdd]
theorem ci_22 : hI0 22 = some (.inl (8, zr)) := by
  rw [show 22 = 6 * 3 + 4 from rfl, hI0_R (by omega) (by omega), fc_]
  simp only [R0_men, R0_king, R0_load, R0_snow, R0_day, R0_sl, R0_ki, R0_fi, R0_fa, R0_wo, Nat.reduceMul, Nat.reduceAdd]
theorem ci_23 : hI0 23 = some (.inl (8, zr)) := by
  rw [show 23 = 6 * 3 + 5 from rfl, hI0_R (by omega) (by omega), fd_]
  simp only [R0_men, R0_king, R0_load, R0_snow, R0_day, R0_sl, R0_ki, R0_fi, R0_fa, R0_wo, Nat.reduceMul, Nat.reduceAdd]
theorem ci_24 : hI0 24 = some (.inr (.inr (4, [.ref 25, .ref 26, .ref 27, .ref 28, .ref 29, .int (zI 0), .int (zI 0), .int (zI 12), .int (zI 0), .int (zI 0)]))) := by
  rw [show 24 = 6 * 4 + 0 from rfl, hI0_R (by omega) (by omega), Nat.add_zero, fb_]
  simp only [R0_men, R0_king, R0_load, R0_snow, R0_day, R0_sl, R0_ki, R0_fi, R0_fa, R0_wo, Nat.reduceMul, Nat.reduceAdd]
theorem ci_25 : hI0 25 = some (.inl (12, onesF 12)) := by
  rw [show 25 = 6 * 4 + 1 from rfl, hI0_R (by omega) (by omega), fe_]
  simp only [R0_men, R0_king, R0_load, R0_snow, R0_day, R0_sl, R0_ki, R0_fi, R0_fa, R0_wo, Nat.reduceMul, Nat.reduceAdd]
theorem ci_26 : hI0 26 = some (.inl (8, zr)) := by
  rw [show 26 = 6 * 4 + 2 from rfl, hI0_R (by omega) (by omega), ff_]
  simp only [R0_men, R0_king, R0_load, R0_snow, R0_day, R0_sl, R0_ki, R0_fi, R0_fa, R0_wo, Nat.reduceMul, Nat.reduceAdd]
theorem ci_27 : hI0 27 = some (.inl (8, zr)) := by
  rw [show 27 = 6 * 4 + 3 from rfl, hI0_R (by omega) (by omega), fg_]
  simp only [R0_men, R0_king, R0_load, R0_snow, R0_day, R0_sl, R0_ki, R0_fi, R0_fa, R0_wo, Nat.reduceMul, Nat.reduceAdd]
theorem ci_28 : hI0 28 = some (.inl (8, zr)) := by
  rw [show 28 = 6 * 4 + 4 from rfl, hI0_R (by omega) (by omega), fc_]
  simp only [R0_men, R0_king, R0_load, R0_snow, R0_day, R0_sl, R0_ki, R0_fi, R0_fa, R0_wo, Nat.reduceMul, Nat.reduceAdd]
theorem ci_29 : hI0 29 = some (.inl (8, zr)) := by
  rw [show 29 = 6 * 4 + 5 from rfl, hI0_R (by omega) (by omega), fd_]
  simp only [R0_men, R0_king, R0_load, R0_snow, R0_day, R0_sl, R0_ki, R0_fi, R0_fa, R0_wo, Nat.reduceMul, Nat.reduceAdd]
theorem ci_30 : hI0 30 = some (.inr (.inr (4, [.ref 31, .ref 32, .ref 33, .ref 34, .ref 35, .int (zI 0), .int (zI 0), .int (zI 12), .int (zI 0), .int (zI 0)]))) := by
  rw [show 30 = 6 * 5 + 0 from rfl, hI0_R (by omega) (by omega), Nat.add_zero, fb_]
  simp only [R0_men, R0_king, R0_load, R0_snow, R0_day, R0_sl, R0_ki, R0_fi, R0_fa, R0_wo, Nat.reduceMul, Nat.reduceAdd]
theorem ci_31 : hI0 31 = some (.inl (12, onesF 12)) := by
  rw [show 31 = 6 * 5 + 1 from rfl, hI0_R (by omega) (by omega), fe_]
  simp only [R0_men, R0_king, R0_load, R0_snow, R0_day, R0_sl, R0_ki, R0_fi, R0_fa, R0_wo, Nat.reduceMul, Nat.reduceAdd]
theorem ci_32 : hI0 32 = some (.inl (8, zr)) := by
  rw [show 32 = 6 * 5 + 2 from rfl, hI0_R (by omega) (by omega), ff_]
  simp only [R0_men, R0_king, R0_load, R0_snow, R0_day, R0_sl, R0_ki, R0_fi, R0_fa, R0_wo, Nat.reduceMul, Nat.reduceAdd]
theorem ci_33 : hI0 33 = some (.inl (8, zr)) := by
  rw [show 33 = 6 * 5 + 3 from rfl, hI0_R (by omega) (by omega), fg_]
  simp only [R0_men, R0_king, R0_load, R0_snow, R0_day, R0_sl, R0_ki, R0_fi, R0_fa, R0_wo, Nat.reduceMul, Nat.reduceAdd]
theorem ci_34 : hI0 34 = some (.inl (8, zr)) := by
  rw [show 34 = 6 * 5 + 4 from rfl, hI0_R (by omega) (by omega), fc_]
  simp only [R0_men, R0_king, R0_load, R0_snow, R0_day, R0_sl, R0_ki, R0_fi, R0_fa, R0_wo, Nat.reduceMul, Nat.reduceAdd]
theorem ci_35 : hI0 35 = some (.inl (8, zr)) := by
  rw [show 35 = 6 * 5 + 5 from rfl, hI0_R (by omega) (by omega), fd_]
  simp only [R0_men, R0_king, R0_load, R0_snow, R0_day, R0_sl, R0_ki, R0_fi, R0_fa, R0_wo, Nat.reduceMul, Nat.reduceAdd]
theorem ci_36 : hI0 36 = some (.inr (.inr (4, [.ref 37, .ref 38, .ref 39, .ref 40, .ref 41, .int (zI 0), .int (zI 0), .int (zI 12), .int (zI 0), .int (zI 0)]))) := by
  rw [show 36 = 6 * 6 + 0 from rfl, hI0_R (by omega) (by omega), Nat.add_zero, fb_]
  simp only [R0_men, R0_king, R0_load, R0_snow, R0_day, R0_sl, R0_ki, R0_fi, R0_fa, R0_wo, Nat.reduceMul, Nat.reduceAdd]
theorem ci_37 : hI0 37 = some (.inl (12, onesF 12)) := by
  rw [show 37 = 6 * 6 + 1 from rfl, hI0_R (by omega) (by omega), fe_]
  simp only [R0_men, R0_king, R0_load, R0_snow, R0_day, R0_sl, R0_ki, R0_fi, R0_fa, R0_wo, Nat.reduceMul, Nat.reduceAdd]
theorem ci_38 : hI0 38 = some (.inl (8, zr)) := by
  rw [show 38 = 6 * 6 + 2 from rfl, hI0_R (by omega) (by omega), ff_]
  simp only [R0_men, R0_king, R0_load, R0_snow, R0_day, R0_sl, R0_ki, R0_fi, R0_fa, R0_wo, Nat.reduceMul, Nat.reduceAdd]
theorem ci_39 : hI0 39 = some (.inl (8, zr)) := by
  rw [show 39 = 6 * 6 + 3 from rfl, hI0_R (by omega) (by omega), fg_]
  simp only [R0_men, R0_king, R0_load, R0_snow, R0_day, R0_sl, R0_ki, R0_fi, R0_fa, R0_wo, Nat.reduceMul, Nat.reduceAdd]
theorem ci_40 : hI0 40 = some (.inl (8, zr)) := by
  rw [show 40 = 6 * 6 + 4 from rfl, hI0_R (by omega) (by omega), fc_]
  simp only [R0_men, R0_king, R0_load, R0_snow, R0_day, R0_sl, R0_ki, R0_fi, R0_fa, R0_wo, Nat.reduceMul, Nat.reduceAdd]
theorem ci_41 : hI0 41 = some (.inl (8, zr)) := by
  rw [show 41 = 6 * 6 + 5 from rfl, hI0_R (by omega) (by omega), fd_]
  simp only [R0_men, R0_king, R0_load, R0_snow, R0_day, R0_sl, R0_ki, R0_fi, R0_fa, R0_wo, Nat.reduceMul, Nat.reduceAdd]
theorem ci_42 : hI0 42 = some (.inr (.inr (4, [.ref 43, .ref 44, .ref 45, .ref 46, .ref 47, .int (zI 0), .int (zI 0), .int (zI 12), .int (zI 0), .int (zI 0)]))) := by
  rw [show 42 = 6 * 7 + 0 from rfl, hI0_R (by omega) (by omega), Nat.add_zero, fb_]
  simp only [R0_men, R0_king, R0_load, R0_snow, R0_day, R0_sl, R0_ki, R0_fi, R0_fa, R0_wo, Nat.reduceMul, Nat.reduceAdd]
theorem ci_43 : hI0 43 = some (.inl (12, onesF 12)) := by
  rw [show 43 = 6 * 7 + 1 from rfl, hI0_R (by omega) (by omega), fe_]
  simp only [R0_men, R0_king, R0_load, R0_snow, R0_day, R0_sl, R0_ki, R0_fi, R0_fa, R0_wo, Nat.reduceMul, Nat.reduceAdd]
theorem ci_44 : hI0 44 = some (.inl (8, zr)) := by
  rw [show 44 = 6 * 7 + 2 from rfl, hI0_R (by omega) (by omega), ff_]
  simp only [R0_men, R0_king, R0_load, R0_snow, R0_day, R0_sl, R0_ki, R0_fi, R0_fa, R0_wo, Nat.reduceMul, Nat.reduceAdd]
theorem ci_45 : hI0 45 = some (.inl (8, zr)) := by
  rw [show 45 = 6 * 7 + 3 from rfl, hI0_R (by omega) (by omega), fg_]
  simp only [R0_men, R0_king, R0_load, R0_snow, R0_day, R0_sl, R0_ki, R0_fi, R0_fa, R0_wo, Nat.reduceMul, Nat.reduceAdd]
theorem ci_46 : hI0 46 = some (.inl (8, zr)) := by
  rw [show 46 = 6 * 7 + 4 from rfl, hI0_R (by omega) (by omega), fc_]
  simp only [R0_men, R0_king, R0_load, R0_snow, R0_day, R0_sl, R0_ki, R0_fi, R0_fa, R0_wo, Nat.reduceMul, Nat.reduceAdd]
theorem ci_47 : hI0 47 = some (.inl (8, zr)) := by
  rw [show 47 = 6 * 7 + 5 from rfl, hI0_R (by omega) (by omega), fd_]
  simp only [R0_men, R0_king, R0_load, R0_snow, R0_day, R0_sl, R0_ki, R0_fi, R0_fa, R0_wo, Nat.reduceMul, Nat.reduceAdd]
theorem ci_48 : hI0 48 = some (.inr (.inr (4, [.ref 49, .ref 50, .ref 51, .ref 52, .ref 53, .int (zI 0), .int (zI 0), .int (zI 12), .int (zI 0), .int (zI 0)]))) := by
  rw [show 48 = 6 * 8 + 0 from rfl, hI0_R (by omega) (by omega), Nat.add_zero, fb_]
  simp only [R0_men, R0_king, R0_load, R0_snow, R0_day, R0_sl, R0_ki, R0_fi, R0_fa, R0_wo, Nat.reduceMul, Nat.reduceAdd]
theorem ci_49 : hI0 49 = some (.inl (12, onesF 12)) := by
  rw [show 49 = 6 * 8 + 1 from rfl, hI0_R (by omega) (by omega), fe_]
  simp only [R0_men, R0_king, R0_load, R0_snow, R0_day, R0_sl, R0_ki, R0_fi, R0_fa, R0_wo, Nat.reduceMul, Nat.reduceAdd]
theorem ci_50 : hI0 50 = some (.inl (8, zr)) := by
  rw [show 50 = 6 * 8 + 2 from rfl, hI0_R (by omega) (by omega), ff_]
  simp only [R0_men, R0_king, R0_load, R0_snow, R0_day, R0_sl, R0_ki, R0_fi, R0_fa, R0_wo, Nat.reduceMul, Nat.reduceAdd]
theorem ci_51 : hI0 51 = some (.inl (8, zr)) := by
  rw [show 51 = 6 * 8 + 3 from rfl, hI0_R (by omega) (by omega), fg_]
  simp only [R0_men, R0_king, R0_load, R0_snow, R0_day, R0_sl, R0_ki, R0_fi, R0_fa, R0_wo, Nat.reduceMul, Nat.reduceAdd]
theorem ci_52 : hI0 52 = some (.inl (8, zr)) := by
  rw [show 52 = 6 * 8 + 4 from rfl, hI0_R (by omega) (by omega), fc_]
  simp only [R0_men, R0_king, R0_load, R0_snow, R0_day, R0_sl, R0_ki, R0_fi, R0_fa, R0_wo, Nat.reduceMul, Nat.reduceAdd]
theorem ci_53 : hI0 53 = some (.inl (8, zr)) := by
  rw [show 53 = 6 * 8 + 5 from rfl, hI0_R (by omega) (by omega), fd_]
  simp only [R0_men, R0_king, R0_load, R0_snow, R0_day, R0_sl, R0_ki, R0_fi, R0_fa, R0_wo, Nat.reduceMul, Nat.reduceAdd]
theorem ci_54 : hI0 54 = some (.inr (.inr (4, [.ref 55, .ref 56, .ref 57, .ref 58, .ref 59, .int (zI 0), .int (zI 0), .int (zI 12), .int (zI 0), .int (zI 0)]))) := by
  rw [show 54 = 6 * 9 + 0 from rfl, hI0_R (by omega) (by omega), Nat.add_zero, fb_]
  simp only [R0_men, R0_king, R0_load, R0_snow, R0_day, R0_sl, R0_ki, R0_fi, R0_fa, R0_wo, Nat.reduceMul, Nat.reduceAdd]
theorem ci_55 : hI0 55 = some (.inl (12, onesF 12)) := by
  rw [show 55 = 6 * 9 + 1 from rfl, hI0_R (by omega) (by omega), fe_]
  simp only [R0_men, R0_king, R0_load, R0_snow, R0_day, R0_sl, R0_ki, R0_fi, R0_fa, R0_wo, Nat.reduceMul, Nat.reduceAdd]
theorem ci_56 : hI0 56 = some (.inl (8, zr)) := by
  rw [show 56 = 6 * 9 + 2 from rfl, hI0_R (by omega) (by omega), ff_]
  simp only [R0_men, R0_king, R0_load, R0_snow, R0_day, R0_sl, R0_ki, R0_fi, R0_fa, R0_wo, Nat.reduceMul, Nat.reduceAdd]
theorem ci_57 : hI0 57 = some (.inl (8, zr)) := by
  rw [show 57 = 6 * 9 + 3 from rfl, hI0_R (by omega) (by omega), fg_]
  simp only [R0_men, R0_king, R0_load, R0_snow, R0_day, R0_sl, R0_ki, R0_fi, R0_fa, R0_wo, Nat.reduceMul, Nat.reduceAdd]
theorem ci_58 : hI0 58 = some (.inl (8, zr)) := by
  rw [show 58 = 6 * 9 + 4 from rfl, hI0_R (by omega) (by omega), fc_]
  simp only [R0_men, R0_king, R0_load, R0_snow, R0_day, R0_sl, R0_ki, R0_fi, R0_fa, R0_wo, Nat.reduceMul, Nat.reduceAdd]
theorem ci_59 : hI0 59 = some (.inl (8, zr)) := by
  rw [show 59 = 6 * 9 + 5 from rfl, hI0_R (by omega) (by omega), fd_]
  simp only [R0_men, R0_king, R0_load, R0_snow, R0_day, R0_sl, R0_ki, R0_fi, R0_fa, R0_wo, Nat.reduceMul, Nat.reduceAdd]
theorem ci_60 : hI0 60 = some (.inr (.inr (4, [.ref 61, .ref 62, .ref 63, .ref 64, .ref 65, .int (zI 0), .int (zI 0), .int (zI 12), .int (zI 0), .int (zI 0)]))) := by
  rw [show 60 = 6 * 10 + 0 from rfl, hI0_R (by omega) (by omega), Nat.add_zero, fb_]
  simp only [R0_men, R0_king, R0_load, R0_snow, R0_day, R0_sl, R0_ki, R0_fi, R0_fa, R0_wo, Nat.reduceMul, Nat.reduceAdd]
theorem ci_61 : hI0 61 = some (.inl (12, onesF 12)) := by
  rw [show 61 = 6 * 10 + 1 from rfl, hI0_R (by omega) (by omega), fe_]
  simp only [R0_men, R0_king, R0_load, R0_snow, R0_day, R0_sl, R0_ki, R0_fi, R0_fa, R0_wo, Nat.reduceMul, Nat.reduceAdd]
theorem ci_62 : hI0 62 = some (.inl (8, zr)) := by
  rw [show 62 = 6 * 10 + 2 from rfl, hI0_R (by omega) (by omega), ff_]
  simp only [R0_men, R0_king, R0_load, R0_snow, R0_day, R0_sl, R0_ki, R0_fi, R0_fa, R0_wo, Nat.reduceMul, Nat.reduceAdd]
theorem ci_63 : hI0 63 = some (.inl (8, zr)) := by
  rw [show 63 = 6 * 10 + 3 from rfl, hI0_R (by omega) (by omega), fg_]
  simp only [R0_men, R0_king, R0_load, R0_snow, R0_day, R0_sl, R0_ki, R0_fi, R0_fa, R0_wo, Nat.reduceMul, Nat.reduceAdd]
theorem ci_64 : hI0 64 = some (.inl (8, zr)) := by
  rw [show 64 = 6 * 10 + 4 from rfl, hI0_R (by omega) (by omega), fc_]
  simp only [R0_men, R0_king, R0_load, R0_snow, R0_day, R0_sl, R0_ki, R0_fi, R0_fa, R0_wo, Nat.reduceMul, Nat.reduceAdd]
theorem ci_65 : hI0 65 = some (.inl (8, zr)) := by
  rw [show 65 = 6 * 10 + 5 from rfl, hI0_R (by omega) (by omega), fd_]
  simp only [R0_men, R0_king, R0_load, R0_snow, R0_day, R0_sl, R0_ki, R0_fi, R0_fa, R0_wo, Nat.reduceMul, Nat.reduceAdd]
theorem ci_66 : hI0 66 = some (.inr (.inr (4, [.ref 67, .ref 68, .ref 69, .ref 70, .ref 71, .int (zI 0), .int (zI 0), .int (zI 12), .int (zI 0), .int (zI 0)]))) := by
  rw [show 66 = 6 * 11 + 0 from rfl, hI0_R (by omega) (by omega), Nat.add_zero, fb_]
  simp only [R0_men, R0_king, R0_load, R0_snow, R0_day, R0_sl, R0_ki, R0_fi, R0_fa, R0_wo, Nat.reduceMul, Nat.reduceAdd]
theorem ci_67 : hI0 67 = some (.inl (12, onesF 12)) := by
  rw [show 67 = 6 * 11 + 1 from rfl, hI0_R (by omega) (by omega), fe_]
  simp only [R0_men, R0_king, R0_load, R0_snow, R0_day, R0_sl, R0_ki, R0_fi, R0_fa, R0_wo, Nat.reduceMul, Nat.reduceAdd]
theorem ci_68 : hI0 68 = some (.inl (8, zr)) := by
  rw [show 68 = 6 * 11 + 2 from rfl, hI0_R (by omega) (by omega), ff_]
  simp only [R0_men, R0_king, R0_load, R0_snow, R0_day, R0_sl, R0_ki, R0_fi, R0_fa, R0_wo, Nat.reduceMul, Nat.reduceAdd]
theorem ci_69 : hI0 69 = some (.inl (8, zr)) := by
  rw [show 69 = 6 * 11 + 3 from rfl, hI0_R (by omega) (by omega), fg_]
  simp only [R0_men, R0_king, R0_load, R0_snow, R0_day, R0_sl, R0_ki, R0_fi, R0_fa, R0_wo, Nat.reduceMul, Nat.reduceAdd]
theorem ci_70 : hI0 70 = some (.inl (8, zr)) := by
  rw [show 70 = 6 * 11 + 4 from rfl, hI0_R (by omega) (by omega), fc_]
  simp only [R0_men, R0_king, R0_load, R0_snow, R0_day, R0_sl, R0_ki, R0_fi, R0_fa, R0_wo, Nat.reduceMul, Nat.reduceAdd]
theorem ci_71 : hI0 71 = some (.inl (8, zr)) := by
  rw [show 71 = 6 * 11 + 5 from rfl, hI0_R (by omega) (by omega), fd_]
  simp only [R0_men, R0_king, R0_load, R0_snow, R0_day, R0_sl, R0_ki, R0_fi, R0_fa, R0_wo, Nat.reduceMul, Nat.reduceAdd]
theorem ci_72 : hI0 72 = some (.inr (.inr (4, [.ref 73, .ref 74, .ref 75, .ref 76, .ref 77, .int (zI 0), .int (zI 0), .int (zI 12), .int (zI 0), .int (zI 0)]))) := by
  rw [show 72 = 6 * 12 + 0 from rfl, hI0_R (by omega) (by omega), Nat.add_zero, fb_]
  simp only [R0_men, R0_king, R0_load, R0_snow, R0_day, R0_sl, R0_ki, R0_fi, R0_fa, R0_wo, Nat.reduceMul, Nat.reduceAdd]
theorem ci_73 : hI0 73 = some (.inl (12, onesF 12)) := by
  rw [show 73 = 6 * 12 + 1 from rfl, hI0_R (by omega) (by omega), fe_]
  simp only [R0_men, R0_king, R0_load, R0_snow, R0_day, R0_sl, R0_ki, R0_fi, R0_fa, R0_wo, Nat.reduceMul, Nat.reduceAdd]
theorem ci_74 : hI0 74 = some (.inl (8, zr)) := by
  rw [show 74 = 6 * 12 + 2 from rfl, hI0_R (by omega) (by omega), ff_]
  simp only [R0_men, R0_king, R0_load, R0_snow, R0_day, R0_sl, R0_ki, R0_fi, R0_fa, R0_wo, Nat.reduceMul, Nat.reduceAdd]
theorem ci_75 : hI0 75 = some (.inl (8, zr)) := by
  rw [show 75 = 6 * 12 + 3 from rfl, hI0_R (by omega) (by omega), fg_]
  simp only [R0_men, R0_king, R0_load, R0_snow, R0_day, R0_sl, R0_ki, R0_fi, R0_fa, R0_wo, Nat.reduceMul, Nat.reduceAdd]
theorem ci_76 : hI0 76 = some (.inl (8, zr)) := by
  rw [show 76 = 6 * 12 + 4 from rfl, hI0_R (by omega) (by omega), fc_]
  simp only [R0_men, R0_king, R0_load, R0_snow, R0_day, R0_sl, R0_ki, R0_fi, R0_fa, R0_wo, Nat.reduceMul, Nat.reduceAdd]
theorem ci_77 : hI0 77 = some (.inl (8, zr)) := by
  rw [show 77 = 6 * 12 + 5 from rfl, hI0_R (by omega) (by omega), fd_]
  simp only [R0_men, R0_king, R0_load, R0_snow, R0_day, R0_sl, R0_ki, R0_fi, R0_fa, R0_wo, Nat.reduceMul, Nat.reduceAdd]
theorem ci_78 : hI0 78 = some (.inr (.inr (6, [.ref 0, .ref 6, .ref 12, .ref 79, .ref 81, .ref 83, .ref 85, .ref 88, .ref 89, .int (zI 0)]))) := by
  rw [hI0_lo (by omega)]
  simp [cellX, nul_z]
theorem ci_79 : hI0 79 = some (.inr (.inr (3, [.ref 80, .int (zI 0)]))) := by
  rw [hI0_lo (by omega)]
  simp [cellX, nul_z]
theorem ci_80 : hI0 80 = some (.inr (.inl (8, fun j => some (6 * (3 + j))))) := by
  rw [hI0_lo (by omega)]
  simp [cellX, nul_z]
theorem ci_81 : hI0 81 = some (.inr (.inr (2, [.ref 82, .int (zI 0)]))) := by
  rw [hI0_lo (by omega)]
  simp [cellX, nul_z]
theorem ci_82 : hI0 82 = some (.inl (96, zr)) := by
  rw [hI0_lo (by omega)]
  simp [cellX, nul_z]
theorem ci_83 : hI0 83 = some (.inr (.inr (5, [.ref 84, .int (zI 0)]))) := by
  rw [hI0_lo (by omega)]
  simp [cellX, nul_z]
theorem ci_84 : hI0 84 = some (.inl (12, zr)) := by
  rw [hI0_lo (by omega)]
  simp [cellX, nul_z]
theorem ci_85 : hI0 85 = some (.inr (.inr (1, [.ref 66, .ref 86, .ref 87]))) := by
  rw [hI0_lo (by omega)]
  simp [cellX, nul_z]
theorem ci_86 : hI0 86 = some (.inl (4, zr)) := by
  rw [hI0_lo (by omega)]
  simp [cellX, nul_z]
theorem ci_87 : hI0 87 = some (.inl (4, zr)) := by
  rw [hI0_lo (by omega)]
  simp [cellX, nul_z]
theorem ci_88 : hI0 88 = some (.inr (.inr (0, [.ref 72, .int (zI 0)]))) := by
  rw [hI0_lo (by omega)]
  simp [cellX, nul_z]
theorem ci_89 : hI0 89 = some (.inl (7, zr)) := by
  rw [hI0_lo (by omega)]
  simp [cellX, nul_z]
theorem ci_90 : hI0 90 = some (.inr (.inr (7, [.ref 91, .int (zI 0), .int (zI 12), .int (zI 0), .ref 92, .ref 93, .ref 94, .ref 95, .int (zI 0), .int (zI 0), .int (zI 0), .ref 96, .ref 97, .int (zI 0), .int (zI 0), .int (zI 0), .int (zI 0), .ref 98, .ref 99, .ref 100, .ref 101, .ref 102, .int (zI 0), .int (zI 0), .int (zI 0), .null, .ref 103, .ref 104, .int (zI 0), .ref 105, .int (zI 0), .ref 106, .int (zI 0)]))) := by
  rw [hI0_hi (by omega)]
  unfold hM0
  rw [gv_]
  simp only [R0_men, R0_king, R0_load, R0_snow, R0_day, R0_sl, R0_ki, R0_fi, R0_fa, R0_wo, nul_z]
theorem ci_91 : hI0 91 = some (.inl (12, onesF 12)) := by
  rw [hI0_hi (by omega)]
  unfold hM0
  rw [g1_]
  simp only [R0_men, R0_king, R0_load, R0_snow, R0_day, R0_sl, R0_ki, R0_fi, R0_fa, R0_wo, nul_z]
theorem ci_92 : hI0 92 = some (.inl (8, zr)) := by
  rw [hI0_hi (by omega)]
  unfold hM0
  rw [g0_]
  simp only [R0_men, R0_king, R0_load, R0_snow, R0_day, R0_sl, R0_ki, R0_fi, R0_fa, R0_wo, nul_z]
theorem ci_93 : hI0 93 = some (.inl (8, zr)) := by
  rw [hI0_hi (by omega)]
  unfold hM0
  rw [gz_]
  simp only [R0_men, R0_king, R0_load, R0_snow, R0_day, R0_sl, R0_ki, R0_fi, R0_fa, R0_wo, nul_z]
theorem ci_94 : hI0 94 = some (.inl (8, zr)) := by
  rw [hI0_hi (by omega)]
  unfold hM0
  rw [g4_]
  simp only [R0_men, R0_king, R0_load, R0_snow, R0_day, R0_sl, R0_ki, R0_fi, R0_fa, R0_wo, nul_z]
theorem ci_95 : hI0 95 = some (.inl (8, zr)) := by
  rw [hI0_hi (by omega)]
  unfold hM0
  rw [gx_]
  simp only [R0_men, R0_king, R0_load, R0_snow, R0_day, R0_sl, R0_ki, R0_fi, R0_fa, R0_wo, nul_z]
theorem ci_96 : hI0 96 = some (.inl (7, zr)) := by
  rw [hI0_hi (by omega)]
  unfold hM0
  rw [g3_]
  simp only [R0_men, R0_king, R0_load, R0_snow, R0_day, R0_sl, R0_ki, R0_fi, R0_fa, R0_wo, nul_z]
theorem ci_97 : hI0 97 = some (.inl (96, zr)) := by
  rw [hI0_hi (by omega)]
  unfold hM0
  rw [gy_]
  simp only [R0_men, R0_king, R0_load, R0_snow, R0_day, R0_sl, R0_ki, R0_fi, R0_fa, R0_wo, nul_z]
theorem ci_98 : hI0 98 = some (.inl (49, zr)) := by
  rw [hI0_hi (by omega)]
  unfold hM0
  rw [g2_]
  simp only [R0_men, R0_king, R0_load, R0_snow, R0_day, R0_sl, R0_ki, R0_fi, R0_fa, R0_wo, nul_z]
theorem ci_99 : hI0 99 = some (.inl (49, zr)) := by
  rw [hI0_hi (by omega)]
  unfold hM0
  rw [gw_]
  simp only [R0_men, R0_king, R0_load, R0_snow, R0_day, R0_sl, R0_ki, R0_fi, R0_fa, R0_wo, nul_z]
theorem ci_100 : hI0 100 = some (.inl (98, zr)) := by
  rw [hI0_hi (by omega)]
  unfold hM0
  rw [gg_]
  simp only [R0_men, R0_king, R0_load, R0_snow, R0_day, R0_sl, R0_ki, R0_fi, R0_fa, R0_wo, nul_z]
theorem ci_101 : hI0 101 = some (.inl (49, zr)) := by
  rw [hI0_hi (by omega)]
  unfold hM0
  rw [gk_]
  simp only [R0_men, R0_king, R0_load, R0_snow, R0_day, R0_sl, R0_ki, R0_fi, R0_fa, R0_wo, nul_z]
theorem ci_102 : hI0 102 = some (.inl (49, zr)) := by
  rw [hI0_hi (by omega)]
  unfold hM0
  rw [gi_]
  simp only [R0_men, R0_king, R0_load, R0_snow, R0_day, R0_sl, R0_ki, R0_fi, R0_fa, R0_wo, nul_z]
theorem ci_103 : hI0 103 = some (.inl (392, zr)) := by
  rw [hI0_hi (by omega)]
  unfold hM0
  rw [gh_]
  simp only [R0_men, R0_king, R0_load, R0_snow, R0_day, R0_sl, R0_ki, R0_fi, R0_fa, R0_wo, nul_z]
theorem ci_104 : hI0 104 = some (.inl (49, zr)) := by
  rw [hI0_hi (by omega)]
  unfold hM0
  rw [gj_]
  simp only [R0_men, R0_king, R0_load, R0_snow, R0_day, R0_sl, R0_ki, R0_fi, R0_fa, R0_wo, nul_z]
theorem ci_105 : hI0 105 = some (.inl (12, zr)) := by
  rw [hI0_hi (by omega)]
  unfold hM0
  rw [ge_]
  simp only [R0_men, R0_king, R0_load, R0_snow, R0_day, R0_sl, R0_ki, R0_fi, R0_fa, R0_wo, nul_z]
theorem ci_106 : hI0 106 = some (.inl (8, zr)) := by
  rw [hI0_hi (by omega)]
  unfold hM0
  rw [gf_]
  simp only [R0_men, R0_king, R0_load, R0_snow, R0_day, R0_sl, R0_ki, R0_fi, R0_fa, R0_wo, nul_z]
def ordW : List Nat := [78, 0, 1, 2, 3, 4, 5, 6, 7, 8, 9, 10, 11, 12, 13, 14, 15, 16, 17, 79, 80, 18, 19, 20, 21, 22, 23, 24, 25, 26, 27, 28, 29, 30, 31, 32, 33, 34, 35, 36, 37, 38, 39, 40, 41, 42, 43, 44, 45, 46, 47, 48, 49, 50, 51, 52, 53, 54, 55, 56, 57, 58, 59, 60, 61, 62, 63, 64, 65, 81, 82, 83, 84, 85, 66, 67, 68, 69, 70, 71, 86, 87, 88, 72, 73, 74, 75, 76, 77, 89, 90, 91, 92, 93, 94, 95, 96, 97, 98, 99, 100, 101, 102, 103, 104, 105, 106]
theorem ordW_at : (List.range 107).all (fun k => decide (ordW[pls.getD k 0]? = some k)) = true := by decide +kernel
theorem cons2 {a b : Nat × va_E} {l l' : va_W} (h : a = b) (h' : l = l') : a :: l = b :: l' := by rw [h, h']
theorem wf0 {cI cR : ClassId} {σ : Nat → Nat} {k a : Nat} {c : AC} {x : va_E} (h : hI0 k = some c) (ha : a = σ k) (hx : x = ce cI cR σ c) : (a, x) = (σ k, ce cI cR σ ((hI0 k).getD (.inl (0, fun _ => 0)))) := by
  rw [h, ha, hx]
  rfl
theorem world1 {G : va_G} {cI cR : ClassId} {A : Nat → Prop} {H : Heap} {h0 h1 : Nat} {ws2 : va_W} {σ : Nat → Nat} (e1 : σ 78 = h0) (e2 : σ 90 = h1) (hP1 : va_P G vwCl ws2 H) (hD1 : va_D A ws2) (hE : ws2 = ordW.map (fun k => (σ k, ce cI cR σ ((hI0 k).getD (.inl (0, fun _ => 0)))))) : ∃ σ : Nat → Nat, σ 78 = h0 ∧ σ 90 = h1 ∧ va_P G vwCl (wd cI cR σ 107 hI0) H ∧ va_D A (wd cI cR σ 107 hI0) := by
  have hP2 : va_P G vwCl (ordW.map (fun k => (σ k, ce cI cR σ ((hI0 k).getD (.inl (0, fun _ => 0)))))) H := hE ▸ hP1
  have hD2 : va_D A (ordW.map (fun k => (σ k, ce cI cR σ ((hI0 k).getD (.inl (0, fun _ => 0)))))) := hE ▸ hD1
  clear hP1 hD1 hE
  have hall : ∀ k, k < 107 → (ordW.map (fun k => (σ k, ce cI cR (σ) ((hI0 k).getD (.inl (0, fun _ => 0))))))[pls.getD k 0]? = some (σ k, ce cI cR (σ) ((hI0 k).getD (.inl (0, fun _ => 0)))) := by
    intro k hk
    have h1 := List.all_eq_true.mp ordW_at k (List.mem_range.mpr hk)
    rw [decide_eq_true_eq] at h1
    rw [List.getElem?_map, h1]
    rfl
  have at' : ∀ (k : Nat) (q : Nat × va_E), (wd cI cR (σ) 107 hI0)[k]? = some q → k < 107 ∧ (ordW.map (fun k => (σ k, ce cI cR (σ) ((hI0 k).getD (.inl (0, fun _ => 0))))))[pls.getD k 0]? = some q := by
    intro k q hq
    obtain ⟨h1, h2⟩ := wd_at hq
    rw [h2]
    exact ⟨h1, hall k h1⟩
  have hlen : pls.length = 107 := rfl
  refine ⟨σ, e1, e2, fun k q hq => hP2 _ q (at' k q hq).2, fun i j p q hi hj hpq => ?_, fun k q hq => hD2.2 _ q (at' k q hq).2⟩
  have hi := at' i p hi
  have hj := at' j q hj
  have h3 := hD2.1 _ _ p q hi.2 hj.2 hpq
  refine va_nd_inj pls pls_nd i j (pls.getD i 0) ?_ ?_
  · rw [List.getD_eq_getElem?_getD, List.getElem?_eq_getElem (by omega)]
    rfl
  · rw [h3, List.getD_eq_getElem?_getD, List.getElem?_eq_getElem (by omega)]
    rfl
theorem world0 {G : va_G} {cI cR : ClassId} {A : Nat → Prop} {H : Heap} {h0 h1 : Nat} {wx wm : va_W} (hx : Sh6 h0 cI cR wx) (hm : Sh7 h1 cI cR wm) (hP : va_P G vwCl (wx ++ wm) H) (hD : va_D A (wx ++ wm)) : ∃ σ : Nat → Nat, σ 78 = h0 ∧ σ 90 = h1 ∧ va_P G vwCl (wd cI cR σ 107 hI0) H ∧ va_D A (wd cI cR σ 107 hI0) := by
  obtain ⟨r1, r2, r3, q4, q5, q6, q7, q8, q9, w4, w5, w6, w7, w8, ⟨a3, b, rfl⟩, ⟨a2, rfl⟩, ⟨a5, rfl⟩, ⟨rc, a1, b1, rfl⟩, ⟨rh, rfl⟩, rfl⟩ := hx
  obtain ⟨m1, m2, m3, m4, m5, m6, m7, m8, m9, m10, m11, m12, m13, m14, m15, m16, rfl⟩ := hm
  obtain ⟨v, hv⟩ : ∃ v : Nat → Nat, v = fun k => match k with | 0 => h0 | 1 => q4 | 2 => a3 | 3 => q5 | 4 => a2 | 5 => q6 | 6 => a5 | 7 => q7 | 8 => a1 | 9 => b1 | 10 => q8 | 11 => q9 | 12 => h1 | 13 => m1 | 14 => m2 | 15 => m3 | 16 => m4 | 17 => m5 | 18 => m6 | 19 => m7 | 20 => m8 | 21 => m9 | 22 => m10 | 23 => m11 | 24 => m12 | 25 => m13 | 26 => m14 | 27 => m15 | _ => m16 := ⟨_, rfl⟩
  have hb8 : ∀ j, j < 8 → (if j < 8 then some (b j 0) else none) = some (sg r1 r2 r3 b rc rh v (6 * (3 + j))) := by
    intro j hj
    rw [if_pos hj]
    simp only [sg]
    rw [if_neg (by omega), if_neg (by omega), if_neg (by omega), if_pos (by omega), show (6 * (3 + j) - 18) / 6 = j by omega, show (6 * (3 + j) - 18) % 6 = 0 by omega]
  have hP2 := va_P_swap (k := 20) (g := fun j => some (sg r1 r2 r3 b rc rh v (6 * (3 + j)))) rfl hb8 hP
  have hD2 := va_D.set (e := cQ cR 8 (fun j => some (sg r1 r2 r3 b rc rh v (6 * (3 + j))))) (p := 20) hD rfl
  refine world1 (σ := sg r1 r2 r3 b rc rh v) (by rw [hv]; rfl) (by rw [hv]; rfl) hP2 hD2 ?_
  clear hP2 hD2 hb8 hP hD
  subst hv
  exact cons2 (wf0 ci_78 rfl rfl) (cons2 (wf0 ci_0 rfl rfl) (cons2 (wf0 ci_1 rfl rfl) (cons2 (wf0 ci_2 rfl rfl) (cons2 (wf0 ci_3 rfl rfl) (cons2 (wf0 ci_4 rfl rfl) (cons2 (wf0 ci_5 rfl rfl) (cons2 (wf0 ci_6 rfl rfl) (cons2 (wf0 ci_7 rfl rfl) (cons2 (wf0 ci_8 rfl rfl) (cons2 (wf0 ci_9 rfl rfl) (cons2 (wf0 ci_10 rfl rfl) (cons2 (wf0 ci_11 rfl rfl) (cons2 (wf0 ci_12 rfl rfl) (cons2 (wf0 ci_13 rfl rfl) (cons2 (wf0 ci_14 rfl rfl) (cons2 (wf0 ci_15 rfl rfl) (cons2 (wf0 ci_16 rfl rfl) (cons2 (wf0 ci_17 rfl rfl) (cons2 (wf0 ci_79 rfl rfl) (cons2 (wf0 ci_80 rfl rfl) (cons2 (wf0 ci_18 rfl rfl) (cons2 (wf0 ci_19 rfl rfl) (cons2 (wf0 ci_20 rfl rfl) (cons2 (wf0 ci_21 rfl rfl) (cons2 (wf0 ci_22 rfl rfl) (cons2 (wf0 ci_23 rfl rfl) (cons2 (wf0 ci_24 rfl rfl) (cons2 (wf0 ci_25 rfl rfl) (cons2 (wf0 ci_26 rfl rfl) (cons2 (wf0 ci_27 rfl rfl) (cons2 (wf0 ci_28 rfl rfl) (cons2 (wf0 ci_29 rfl rfl) (cons2 (wf0 ci_30 rfl rfl) (cons2 (wf0 ci_31 rfl rfl) (cons2 (wf0 ci_32 rfl rfl) (cons2 (wf0 ci_33 rfl rfl) (cons2 (wf0 ci_34 rfl rfl) (cons2 (wf0 ci_35 rfl rfl) (cons2 (wf0 ci_36 rfl rfl) (cons2 (wf0 ci_37 rfl rfl) (cons2 (wf0 ci_38 rfl rfl) (cons2 (wf0 ci_39 rfl rfl) (cons2 (wf0 ci_40 rfl rfl) (cons2 (wf0 ci_41 rfl rfl) (cons2 (wf0 ci_42 rfl rfl) (cons2 (wf0 ci_43 rfl rfl) (cons2 (wf0 ci_44 rfl rfl) (cons2 (wf0 ci_45 rfl rfl) (cons2 (wf0 ci_46 rfl rfl) (cons2 (wf0 ci_47 rfl rfl) (cons2 (wf0 ci_48 rfl rfl) (cons2 (wf0 ci_49 rfl rfl) (cons2 (wf0 ci_50 rfl rfl) (cons2 (wf0 ci_51 rfl rfl) (cons2 (wf0 ci_52 rfl rfl) (cons2 (wf0 ci_53 rfl rfl) (cons2 (wf0 ci_54 rfl rfl) (cons2 (wf0 ci_55 rfl rfl) (cons2 (wf0 ci_56 rfl rfl) (cons2 (wf0 ci_57 rfl rfl) (cons2 (wf0 ci_58 rfl rfl) (cons2 (wf0 ci_59 rfl rfl) (cons2 (wf0 ci_60 rfl rfl) (cons2 (wf0 ci_61 rfl rfl) (cons2 (wf0 ci_62 rfl rfl) (cons2 (wf0 ci_63 rfl rfl) (cons2 (wf0 ci_64 rfl rfl) (cons2 (wf0 ci_65 rfl rfl) (cons2 (wf0 ci_81 rfl rfl) (cons2 (wf0 ci_82 rfl rfl) (cons2 (wf0 ci_83 rfl rfl) (cons2 (wf0 ci_84 rfl rfl) (cons2 (wf0 ci_85 rfl rfl) (cons2 (wf0 ci_66 rfl rfl) (cons2 (wf0 ci_67 rfl rfl) (cons2 (wf0 ci_68 rfl rfl) (cons2 (wf0 ci_69 rfl rfl) (cons2 (wf0 ci_70 rfl rfl) (cons2 (wf0 ci_71 rfl rfl) (cons2 (wf0 ci_86 rfl rfl) (cons2 (wf0 ci_87 rfl rfl) (cons2 (wf0 ci_88 rfl rfl) (cons2 (wf0 ci_72 rfl rfl) (cons2 (wf0 ci_73 rfl rfl) (cons2 (wf0 ci_74 rfl rfl) (cons2 (wf0 ci_75 rfl rfl) (cons2 (wf0 ci_76 rfl rfl) (cons2 (wf0 ci_77 rfl rfl) (cons2 (wf0 ci_89 rfl rfl) (cons2 (wf0 ci_90 rfl rfl) (cons2 (wf0 ci_91 rfl rfl) (cons2 (wf0 ci_92 rfl rfl) (cons2 (wf0 ci_93 rfl rfl) (cons2 (wf0 ci_94 rfl rfl) (cons2 (wf0 ci_95 rfl rfl) (cons2 (wf0 ci_96 rfl rfl) (cons2 (wf0 ci_97 rfl rfl) (cons2 (wf0 ci_98 rfl rfl) (cons2 (wf0 ci_99 rfl rfl) (cons2 (wf0 ci_100 rfl rfl) (cons2 (wf0 ci_101 rfl rfl) (cons2 (wf0 ci_102 rfl rfl) (cons2 (wf0 ci_103 rfl rfl) (cons2 (wf0 ci_104 rfl rfl) (cons2 (wf0 ci_105 rfl rfl) (cons2 (wf0 ci_106 rfl rfl) (rfl)))))))))))))))))))))))))))))))))))))))))))))))))))))))))))))))))))))))))))))))))))))))))))))))))))))))))))
end
/-! pairs -/
section
/-! ===== class and reference, one behind the other, from states that stand for the same ===== -/
theorem XW.hi {R I : RR} {im : Int} {P : Nat → RR} {pz : Int} {lt : Nat → Int} {lsz : Int} {tn : Nat → Int} {tsz : Int} {rf : Nat → Int} {hM h : AH} (W : (XW R I im P pz lt lsz tn tsz rf hM h)) {k : Nat} (hk : 90 ≤ k) : h k = hM k := by
  obtain ⟨rs, pi, g1, g2, sd, rfl, hA, e0, e2, eP, hP⟩ := W
  show (if k < 90 then _ else hM k) = _
  rw [if_neg (by omega)]
theorem XW.gp {R I : RR} {im : Int} {P : Nat → RR} {pz : Int} {lt : Nat → Int} {lsz : Int} {tn : Nat → Int} {tsz : Int} {rf : Nat → Int} {hM h : AH} (W : (XW R I im P pz lt lsz tn tsz rf hM h)) : 0 ≤ pz ∧ pz ≤ 8 := by
  obtain ⟨rs, pi, g1, g2, sd, rfl, hA, e0, e2, eP, hP⟩ := W
  exact hP.1
theorem XW.re {R I : RR} {im : Int} {P : Nat → RR} {pz : Int} {lt : Nat → Int} {lsz : Int} {tn : Nat → Int} {tsz : Int} {rf : Nat → Int} {hM h : AH} {g : AH} (W : (XW R I im P pz lt lsz tn tsz rf hM h)) (e : ∀ k, 90 ≤ k → h k = g k) : (XW R I im P pz lt lsz tn tsz rf (g) h) := by
  have e2 := fun k hk => (W.hi (k := k) hk).symm.trans (e k hk)
  obtain ⟨rs, pi, g1, g2, sd, rfl, hA, q0, q2, eP, hP⟩ := W
  refine ⟨rs, pi, g1, g2, sd, ?_, hA, q0, q2, eP, hP⟩
  funext k
  show (if k < 90 then _ else hM k) = (if k < 90 then _ else g k)
  by_cases c : k < 90
  · rw [if_pos c, if_pos c]
  · rw [if_neg c, if_neg c]
    exact e2 k (by omega)
theorem XW.mv {R I : RR} {im : Int} {P : Nat → RR} {pz : Int} {lt : Nat → Int} {lsz : Int} {tn : Nat → Int} {tsz : Int} {rf : Nat → Int} {hM h : AH} {g : AH} (W : (XW R I im P pz lt lsz tn tsz rf hM h)) (e : ∀ k, k < 90 → g k = h k) : (XW R I im P pz lt lsz tn tsz rf (g) g) := by
  obtain ⟨rs, pi, g1, g2, sd, rfl, hA, q0, q2, eP, hP⟩ := W
  refine ⟨rs, pi, g1, g2, sd, ?_, hA, q0, q2, eP, hP⟩
  funext k
  show g k = (if k < 90 then _ else g k)
  by_cases c : k < 90
  · rw [if_pos c, e k c]
    show (if k < 90 then _ else hM k) = _
    rw [if_pos c]
  · rw [if_neg c]
theorem MW.lo {R I : RR} {im : Int} {P : Nat → RR} {pz : Int} {lt : Nat → Int} {lsz : Int} {tn : Nat → Int} {tsz : Int} {rf : Nat → Int} {bb h : AH} (W : (MW R I im P pz lt lsz tn tsz rf bb h)) {k : Nat} (hk : k < 90) : h k = bb k := by
  obtain ⟨a0, ib, sm, pl, lo, nu, kp, ig, p0, tk, ki, tu, tf, ga, sd, rfl, hIg, hTu, hPz⟩ := W
  exact hM_low hk
theorem MW.mv {R I : RR} {im : Int} {P : Nat → RR} {pz : Int} {lt : Nat → Int} {lsz : Int} {tn : Nat → Int} {tsz : Int} {rf : Nat → Int} {bb h : AH} {g : AH} (W : (MW R I im P pz lt lsz tn tsz rf bb h)) (e : ∀ k, 90 ≤ k → g k = h k) : (MW R I im P pz lt lsz tn tsz rf (g) g) := by
  obtain ⟨a0, ib, sm, pl, lo, nu, kp, ig, p0, tk, ki, tu, tf, ga, sd, rfl, hIg, hTu, hPz⟩ := W
  refine ⟨a0, ib, sm, pl, lo, nu, kp, ig, p0, tk, ki, tu, tf, ga, sd, ?_, hIg, hTu, hPz⟩
  funext k
  by_cases c : k < 90
  · rw [hM_low c]
  · rw [e k (by omega)]
    simp only [HM]
    rw [if_neg c, if_neg c]
def GD (R : RR) : Prop := GI R ∧ 0 ≤ hh_ R ∧ hh_ R ≤ 999
def PS (f : Prop) (h : AH) : Prop := ∃ (R I : RR) (im : Int) (P : Nat → RR) (pz : Int) (lt : Nat → Int) (lsz : Int) (tn : Nat → Int) (tsz : Int) (rf : Nat → Int), (∃ hM, (XW R I im P pz lt lsz tn tsz rf hM h)) ∧ (∃ bb, (MW R I im P pz lt lsz tn tsz rf bb h)) ∧ GD R ∧ GD I ∧ (∀ i : Nat, (i : Int) < pz → GD (P i)) ∧ (im = 0 ∨ im = 1) ∧ GL lt lsz ∧ GT tn tsz ∧ (f → rMen R = 0)
/-- behind the class's call: what it answered, and what the reference's call then does -/
def PI (Y : MD) (as : List Value) (e : Prop) : Option Value → AH → Prop := fun v h1 => ∃ z : Int32, v = some (.int z) ∧ (∃ fs, h1 90 = some (.inr (.inr (7, fs)))) ∧ Con Y as h1 (fun v' h2 => ∃ z' : Int32, v' = some (.int z') ∧ (e → z = z') ∧ PS False h2)
def PJ (Y : MD) (as : List Value) (e : Prop) : Option Value → AH → Prop := fun v h1 => ∃ z : Int64, v = some (.long z) ∧ (∃ fs, h1 90 = some (.inr (.inr (7, fs)))) ∧ Con Y as h1 (fun v' h2 => ∃ z' : Int64, v' = some (.long z') ∧ (e → z = z') ∧ PS False h2)
theorem MW.c90 {R I : RR} {im : Int} {P : Nat → RR} {pz : Int} {lt : Nat → Int} {lsz : Int} {tn : Nat → Int} {tsz : Int} {rf : Nat → Int} {bb h : AH} (W : (MW R I im P pz lt lsz tn tsz rf bb h)) : ∃ fs, h 90 = some (.inr (.inr (7, fs))) := by
  obtain ⟨a0, ib, sm, pl, lo, nu, kp, ig, p0, tk, ki, tu, tf, ga, sd, rfl, hIg, hTu, hPz⟩ := W
  exact ⟨_, gv_⟩
theorem PS.c78 {f : Prop} {h : AH} (S : PS f h) : ∃ fs, h 78 = some (.inr (.inr (6, fs))) := by
  obtain ⟨R, I, im, P, pz, lt, lsz, tn, tsz, rf, ⟨hM, WX⟩, -⟩ := S
  obtain ⟨rs, pi, g1, g2, sd, rfl, hA, e0, e2, eP, hP⟩ := WX
  exact ⟨_, eu_⟩
theorem ps_of {R I : RR} {im : Int} {P : Nat → RR} {pz : Int} {lt : Nat → Int} {lsz : Int} {tn : Nat → Int} {tsz : Int} {rf : Nat → Int} {hM bb h : AH} (WX : (XW R I im P pz lt lsz tn tsz rf hM h)) (WM : (MW R I im P pz lt lsz tn tsz rf bb h)) (hR : GD R) (hI : GD I) (hP : ∀ i : Nat, (i : Int) < pz → GD (P i)) (him : im = 0 ∨ im = 1) (hL : GL lt lsz) (hT : GT tn tsz) : PS False h :=
  ⟨R, I, im, P, pz, lt, lsz, tn, tsz, rf, ⟨_, WX⟩, ⟨_, WM⟩, hR, hI, hP, him, hL, hT, fun q => absurd q id⟩
theorem PS.any {f : Prop} {h : AH} (hf : ¬ f) (S : PS False h) : PS f h := by
  obtain ⟨R, I, im, P, pz, lt, lsz, tn, tsz, rf, WX, WM, hR, hI, hP, him, hL, hT, _⟩ := S
  exact ⟨R, I, im, P, pz, lt, lsz, tn, tsz, rf, WX, WM, hR, hI, hP, him, hL, hT, fun q => absurd q hf⟩
theorem gl_feed {lt : Nat → Int} {lsz c : Int} (hL : GL lt lsz) (hc : 0 ≤ c ∧ c ≤ 255) (hz : lsz ≠ 96) : GL (upI lt lsz.toNat c) (lsz + 1) := by
  have := hL.1
  exact ⟨by omega, upI_rng hL.2 hc _⟩
theorem gt_row {tn : Nat → Int} {tsz v : Int} (hT : GT tn tsz) (h1 : ¬ v < 0) (h2 : ¬ 99 < v) (h3 : ¬ tsz = 12) : GT (upI tn tsz.toNat v) (tsz + 1) := by
  have := hT.1
  exact ⟨by omega, upI_rng hT.2 (by omega) _⟩
theorem gd_fa {R : RR} {m : Int} (hR : GD R) (c0 : g7_ R m) (c1 : rFa R m.toNat ≠ 2) : GD (sFa R (upI (rFa R) m.toNat (1 - rFa R m.toNat))) := by
  have gm := hR.1.1.men
  have gf := hR.1.1.fa m.toNat
  unfold g7_ at c0
  exact ⟨hR.1.setFa _ (by omega) (by omega) c1, hR.2⟩
theorem gd_days {R : RR} {n : Int} (hR : GD R) (c0 : ¬ n < 1) (c2 : ¬ 999 < hh_ R + n) : GD (g6_ R n.toNat) := by
  have := hR.2
  refine ⟨hR.1.dsX _, ?_⟩
  rw [daysX_day]
  omega
theorem gd_push {R : RR} {P : Nat → RR} {pz : Int} (hR : GD R) (hP : ∀ i : Nat, (i : Int) < pz → GD (P i)) (gp : 0 ≤ pz ∧ pz ≤ 8) : ∀ i : Nat, (i : Int) < min 8 (pz + 1) → GD (pushP P pz R i) := by
  intro i hi
  simp only [pushP]
  by_cases c : pz < 8
  · rw [if_pos c]
    split
    · exact hR
    · exact hP i (by omega)
  · rw [if_neg c]
    split
    · exact hR
    · exact hP _ (by omega)
theorem pr_feed {fz : Prop} {h : AH} {c : Int} (hc : inI c) (S : PS fz h) : Con M_X_feed [.ref 78, .int (zI c)] h (PI M_M_feed [.ref 90, .int (zI c)] True) := by
  obtain ⟨R, I, im, P, pz, lt, lsz, tn, tsz, rf, ⟨hM, WX⟩, ⟨bb, WM⟩, hR, hI, hP, him, hL, hT, hfz⟩ := S
  have gp := WX.gp
  refine X_feed hc hL (WX.re (fun _ _ => rfl)) ?_ ?_ ?_
  · intro c0 h1 W1
    refine ⟨_, rfl, (WM.mv (fun k hk => W1.hi hk)).c90, ?_⟩
    refine M_feed hc hL hR.1  (WM.mv (fun k hk => W1.hi hk)) ?_ ?_ ?_
    · intro d0 h2 W2
      refine ⟨_, rfl, fun _ => rfl, ?_⟩
      refine ps_of (W1.mv (fun k hk => W2.lo hk)) W2 ?_ ?_ ?_ ?_ ?_ ?_
      · exact hR
      · exact hI
      · exact hP
      · exact him
      · exact hL
      · exact hT
    · intro d0 d1 h2 W2
      exfalso; clear W1 W2 WX WM; (try simp only [g7_] at *); omega
    · intro d0 d1 d2 h2 W2
      exfalso; clear W1 W2 WX WM; (try simp only [g7_] at *); omega
  · intro c0 c1 h1 W1
    refine ⟨_, rfl, (WM.mv (fun k hk => W1.hi hk)).c90, ?_⟩
    refine M_feed hc hL hR.1  (WM.mv (fun k hk => W1.hi hk)) ?_ ?_ ?_
    · intro d0 h2 W2
      exfalso; clear W1 W2 WX WM; (try simp only [g7_] at *); omega
    · intro d0 d1 h2 W2
      refine ⟨_, rfl, fun _ => rfl, ?_⟩
      refine ps_of (W1.mv (fun k hk => W2.lo hk)) W2 ?_ ?_ ?_ ?_ ?_ ?_
      · exact hR
      · exact hI
      · exact hP
      · exact him
      · exact hL
      · exact hT
    · intro d0 d1 d2 h2 W2
      exfalso; clear W1 W2 WX WM; (try simp only [g7_] at *); omega
  · intro c0 c1 c2 h1 W1
    refine ⟨_, rfl, (WM.mv (fun k hk => W1.hi hk)).c90, ?_⟩
    refine M_feed hc hL hR.1  (WM.mv (fun k hk => W1.hi hk)) ?_ ?_ ?_
    · intro d0 h2 W2
      exfalso; clear W1 W2 WX WM; (try simp only [g7_] at *); omega
    · intro d0 d1 h2 W2
      exfalso; clear W1 W2 WX WM; (try simp only [g7_] at *); omega
    · intro d0 d1 d2 h2 W2
      refine ⟨_, rfl, fun _ => rfl, ?_⟩
      refine ps_of (W1.mv (fun k hk => W2.lo hk)) W2 ?_ ?_ ?_ ?_ ?_ ?_
      · exact hR
      · exact hI
      · exact hP
      · exact him
      · exact gl_feed hL (by omega) (by omega)
      · exact hT
theorem pr_reign {fz : Prop} {h : AH}  (S : PS fz h) : Con M_X_reign [.ref 78] h (PI M_M_reign [.ref 90] True) := by
  obtain ⟨R, I, im, P, pz, lt, lsz, tn, tsz, rf, ⟨hM, WX⟩, ⟨bb, WM⟩, hR, hI, hP, him, hL, hT, hfz⟩ := S
  have gp := WX.gp
  refine X_reign hL hR.2 (WX.re (fun _ _ => rfl)) ?_ ?_ ?_
  · intro c0 h1 W1
    refine ⟨_, rfl, (WM.mv (fun k hk => W1.hi hk)).c90, ?_⟩
    refine M_reign hL hR.2 hR.1  (WM.mv (fun k hk => W1.hi hk)) ?_ ?_ ?_
    · intro d0 h2 W2
      refine ⟨_, rfl, fun _ => rfl, ?_⟩
      refine ps_of (W1.mv (fun k hk => W2.lo hk)) W2 ?_ ?_ ?_ ?_ ?_ ?_
      · exact hR
      · exact hI
      · exact hP
      · exact him
      · exact ⟨by omega, hL.2⟩
      · exact hT
    · intro d0 d1 h2 W2
      exfalso; clear W1 W2 WX WM; (try simp only [g7_] at *); omega
    · intro d0 d1 d2 d3 d4 h2 W2
      exfalso; clear W1 W2 WX WM; (try simp only [g7_] at *); omega
  · intro c0 c1 h1 W1
    refine ⟨_, rfl, (WM.mv (fun k hk => W1.hi hk)).c90, ?_⟩
    refine M_reign hL hR.2 hR.1  (WM.mv (fun k hk => W1.hi hk)) ?_ ?_ ?_
    · intro d0 h2 W2
      exfalso; clear W1 W2 WX WM; (try simp only [g7_] at *); omega
    · intro d0 d1 h2 W2
      refine ⟨_, rfl, fun _ => rfl, ?_⟩
      refine ps_of (W1.mv (fun k hk => W2.lo hk)) W2 ?_ ?_ ?_ ?_ ?_ ?_
      · exact hR
      · exact hI
      · exact hP
      · exact him
      · exact ⟨by omega, hL.2⟩
      · exact hT
    · intro d0 d1 d2 d3 d4 h2 W2
      exfalso; clear W1 W2 WX WM; (try simp only [g7_] at *); omega
  · intro c0 c1 c2 c3 c4 h1 W1
    refine ⟨_, rfl, (WM.mv (fun k hk => W1.hi hk)).c90, ?_⟩
    refine M_reign hL hR.2 hR.1  (WM.mv (fun k hk => W1.hi hk)) ?_ ?_ ?_
    · intro d0 h2 W2
      exfalso; clear W1 W2 WX WM; (try simp only [g7_] at *); omega
    · intro d0 d1 h2 W2
      exfalso; clear W1 W2 WX WM; (try simp only [g7_] at *); omega
    · intro d0 d1 d2 d3 d4 h2 W2
      refine ⟨_, rfl, fun _ => rfl, ?_⟩
      refine ps_of (W1.mv (fun k hk => W2.lo hk)) W2 ?_ ?_ ?_ ?_ ?_ ?_
      · exact ⟨d2, d3, d4⟩
      · exact hI
      · exact fun i hi => absurd hi (by omega)
      · exact him
      · exact ⟨by omega, hL.2⟩
      · exact hT
theorem pr_manOf {fz : Prop} {h : AH} {m w : Int} (hm : inI m) (hw : inI w) (S : PS fz h) : Con M_X_manOf [.ref 78, .int (zI m), .int (zI w)] h (PI M_M_manOf [.ref 90, .int (zI m), .int (zI w)] True) := by
  obtain ⟨R, I, im, P, pz, lt, lsz, tn, tsz, rf, ⟨hM, WX⟩, ⟨bb, WM⟩, hR, hI, hP, him, hL, hT, hfz⟩ := S
  have gp := WX.gp
  refine X_manOf hm hw (WX.re (fun _ _ => rfl)) ?_ ?_ ?_
  · intro c0 h1 W1
    refine ⟨_, rfl, (WM.mv (fun k hk => W1.hi hk)).c90, ?_⟩
    refine M_manOf hm hw hR.1  (WM.mv (fun k hk => W1.hi hk)) ?_ ?_ ?_
    · intro d0 h2 W2
      refine ⟨_, rfl, fun _ => rfl, ?_⟩
      refine ps_of (W1.mv (fun k hk => W2.lo hk)) W2 ?_ ?_ ?_ ?_ ?_ ?_
      · exact hR
      · exact hI
      · exact hP
      · exact him
      · exact hL
      · exact hT
    · intro d0 d1 h2 W2
      exfalso; clear W1 W2 WX WM; (try simp only [g7_] at *); omega
    · intro d0 d1 h2 W2
      exfalso; clear W1 W2 WX WM; (try simp only [g7_] at *); omega
  · intro c0 c1 h1 W1
    refine ⟨_, rfl, (WM.mv (fun k hk => W1.hi hk)).c90, ?_⟩
    refine M_manOf hm hw hR.1  (WM.mv (fun k hk => W1.hi hk)) ?_ ?_ ?_
    · intro d0 h2 W2
      exfalso; clear W1 W2 WX WM; (try simp only [g7_] at *); omega
    · intro d0 d1 h2 W2
      refine ⟨_, rfl, fun _ => rfl, ?_⟩
      refine ps_of (W1.mv (fun k hk => W2.lo hk)) W2 ?_ ?_ ?_ ?_ ?_ ?_
      · exact hR
      · exact hI
      · exact hP
      · exact him
      · exact hL
      · exact hT
    · intro d0 d1 h2 W2
      exfalso; clear W1 W2 WX WM; (try simp only [g7_] at *); omega
  · intro c0 c1 h1 W1
    refine ⟨_, rfl, (WM.mv (fun k hk => W1.hi hk)).c90, ?_⟩
    refine M_manOf hm hw hR.1  (WM.mv (fun k hk => W1.hi hk)) ?_ ?_ ?_
    · intro d0 h2 W2
      exfalso; clear W1 W2 WX WM; (try simp only [g7_] at *); omega
    · intro d0 d1 h2 W2
      exfalso; clear W1 W2 WX WM; (try simp only [g7_] at *); omega
    · intro d0 d1 h2 W2
      refine ⟨_, rfl, fun _ => rfl, ?_⟩
      refine ps_of (W1.mv (fun k hk => W2.lo hk)) W2 ?_ ?_ ?_ ?_ ?_ ?_
      · exact hR
      · exact hI
      · exact hP
      · exact him
      · exact hL
      · exact hT
theorem pr_slope {fz : Prop} {h : AH} {s : Int} (hs : inI s) (S : PS fz h) : Con M_X_slope [.ref 78, .int (zI s)] h (PI M_M_slope [.ref 90, .int (zI s)] True) := by
  obtain ⟨R, I, im, P, pz, lt, lsz, tn, tsz, rf, ⟨hM, WX⟩, ⟨bb, WM⟩, hR, hI, hP, him, hL, hT, hfz⟩ := S
  have gp := WX.gp
  refine X_slope hs (WX.re (fun _ _ => rfl)) ?_ ?_
  · intro c0 h1 W1
    refine ⟨_, rfl, (WM.mv (fun k hk => W1.hi hk)).c90, ?_⟩
    refine M_slope hs hR.1  (WM.mv (fun k hk => W1.hi hk)) ?_ ?_
    · intro d0 h2 W2
      refine ⟨_, rfl, fun _ => rfl, ?_⟩
      refine ps_of (W1.mv (fun k hk => W2.lo hk)) W2 ?_ ?_ ?_ ?_ ?_ ?_
      · exact hR
      · exact hI
      · exact hP
      · exact him
      · exact hL
      · exact hT
    · intro d0 h2 W2
      exfalso; clear W1 W2 WX WM; (try simp only [g7_] at *); omega
  · intro c0 h1 W1
    refine ⟨_, rfl, (WM.mv (fun k hk => W1.hi hk)).c90, ?_⟩
    refine M_slope hs hR.1  (WM.mv (fun k hk => W1.hi hk)) ?_ ?_
    · intro d0 h2 W2
      exfalso; clear W1 W2 WX WM; (try simp only [g7_] at *); omega
    · intro d0 h2 W2
      refine ⟨_, rfl, fun _ => rfl, ?_⟩
      refine ps_of (W1.mv (fun k hk => W2.lo hk)) W2 ?_ ?_ ?_ ?_ ?_ ?_
      · exact hR
      · exact hI
      · exact hP
      · exact him
      · exact hL
      · exact hT
theorem pr_man {fz : Prop} {h : AH} {k f : Int} (hk : inI k) (hf : inI f) (S : PS fz h) : Con M_X_man [.ref 78, .int (zI k), .int (zI f)] h (PI M_M_man [.ref 90, .int (zI k), .int (zI f)] True) := by
  obtain ⟨R, I, im, P, pz, lt, lsz, tn, tsz, rf, ⟨hM, WX⟩, ⟨bb, WM⟩, hR, hI, hP, him, hL, hT, hfz⟩ := S
  have gp := WX.gp
  refine X_man hk hf (WX.re (fun _ _ => rfl)) ?_ ?_ ?_ ?_
  · intro c0 h1 W1
    refine ⟨_, rfl, (WM.mv (fun k hk => W1.hi hk)).c90, ?_⟩
    refine M_man hk hf hR.1  (WM.mv (fun k hk => W1.hi hk)) ?_ ?_ ?_ ?_
    · intro d0 h2 W2
      refine ⟨_, rfl, fun _ => rfl, ?_⟩
      refine ps_of (W1.mv (fun k hk => W2.lo hk)) W2 ?_ ?_ ?_ ?_ ?_ ?_
      · exact hR
      · exact hI
      · exact hP
      · exact him
      · exact hL
      · exact hT
    · intro d0 d1 h2 W2
      exfalso; clear W1 W2 WX WM; (try simp only [g7_] at *); omega
    · intro d0 d1 d2 h2 W2
      exfalso; clear W1 W2 WX WM; (try simp only [g7_] at *); omega
    · intro d0 d1 d2 h2 W2
      exfalso; clear W1 W2 WX WM; (try simp only [g7_] at *); omega
  · intro c0 c1 h1 W1
    refine ⟨_, rfl, (WM.mv (fun k hk => W1.hi hk)).c90, ?_⟩
    refine M_man hk hf hR.1  (WM.mv (fun k hk => W1.hi hk)) ?_ ?_ ?_ ?_
    · intro d0 h2 W2
      exfalso; clear W1 W2 WX WM; (try simp only [g7_] at *); omega
    · intro d0 d1 h2 W2
      refine ⟨_, rfl, fun _ => rfl, ?_⟩
      refine ps_of (W1.mv (fun k hk => W2.lo hk)) W2 ?_ ?_ ?_ ?_ ?_ ?_
      · exact hR
      · exact hI
      · exact hP
      · exact him
      · exact hL
      · exact hT
    · intro d0 d1 d2 h2 W2
      exfalso; clear W1 W2 WX WM; (try simp only [g7_] at *); omega
    · intro d0 d1 d2 h2 W2
      exfalso; clear W1 W2 WX WM; (try simp only [g7_] at *); omega
  · intro c0 c1 c2 h1 W1
    refine ⟨_, rfl, (WM.mv (fun k hk => W1.hi hk)).c90, ?_⟩
    refine M_man hk hf hR.1  (WM.mv (fun k hk => W1.hi hk)) ?_ ?_ ?_ ?_
    · intro d0 h2 W2
      exfalso; clear W1 W2 WX WM; (try simp only [g7_] at *); omega
    · intro d0 d1 h2 W2
      exfalso; clear W1 W2 WX WM; (try simp only [g7_] at *); omega
    · intro d0 d1 d2 h2 W2
      refine ⟨_, rfl, fun _ => rfl, ?_⟩
      refine ps_of (W1.mv (fun k hk => W2.lo hk)) W2 ?_ ?_ ?_ ?_ ?_ ?_
      · exact hR
      · exact hI
      · exact hP
      · exact him
      · exact hL
      · exact hT
    · intro d0 d1 d2 h2 W2
      exfalso; clear W1 W2 WX WM; (try simp only [g7_] at *); omega
  · intro c0 c1 c2 h1 W1
    refine ⟨_, rfl, (WM.mv (fun k hk => W1.hi hk)).c90, ?_⟩
    refine M_man hk hf hR.1  (WM.mv (fun k hk => W1.hi hk)) ?_ ?_ ?_ ?_
    · intro d0 h2 W2
      exfalso; clear W1 W2 WX WM; (try simp only [g7_] at *); omega
    · intro d0 d1 h2 W2
      exfalso; clear W1 W2 WX WM; (try simp only [g7_] at *); omega
    · intro d0 d1 d2 h2 W2
      exfalso; clear W1 W2 WX WM; (try simp only [g7_] at *); omega
    · intro d0 d1 d2 h2 W2
      refine ⟨_, rfl, fun _ => rfl, ?_⟩
      refine ps_of (W1.mv (fun k hk => W2.lo hk)) W2 ?_ ?_ ?_ ?_ ?_ ?_
      · exact ⟨hR.1.add (by omega) (by omega) (by omega), hR.2⟩
      · exact hI
      · exact fun i hi => absurd hi (by omega)
      · exact him
      · exact hL
      · exact hT
theorem pr_pardons {fz : Prop} {h : AH} {m : Int} (hm : inI m) (S : PS fz h) : Con M_X_pardons [.ref 78, .int (zI m)] h (PI M_M_pardons [.ref 90, .int (zI m)] True) := by
  obtain ⟨R, I, im, P, pz, lt, lsz, tn, tsz, rf, ⟨hM, WX⟩, ⟨bb, WM⟩, hR, hI, hP, him, hL, hT, hfz⟩ := S
  have gp := WX.gp
  refine X_pardons hm (WX.re (fun _ _ => rfl)) ?_ ?_ ?_
  · intro c0 h1 W1
    refine ⟨_, rfl, (WM.mv (fun k hk => W1.hi hk)).c90, ?_⟩
    refine M_pardons hm hR.1  (WM.mv (fun k hk => W1.hi hk)) ?_ ?_ ?_
    · intro d0 h2 W2
      refine ⟨_, rfl, fun _ => rfl, ?_⟩
      refine ps_of (W1.mv (fun k hk => W2.lo hk)) W2 ?_ ?_ ?_ ?_ ?_ ?_
      · exact hR
      · exact hI
      · exact hP
      · exact him
      · exact hL
      · exact hT
    · intro d0 d1 h2 W2
      exfalso; clear W1 W2 WX WM; (try simp only [g7_] at *); omega
    · intro d0 d1 h2 W2
      exfalso; clear W1 W2 WX WM; (try simp only [g7_] at *); omega
  · intro c0 c1 h1 W1
    refine ⟨_, rfl, (WM.mv (fun k hk => W1.hi hk)).c90, ?_⟩
    refine M_pardons hm hR.1  (WM.mv (fun k hk => W1.hi hk)) ?_ ?_ ?_
    · intro d0 h2 W2
      exfalso; clear W1 W2 WX WM; (try simp only [g7_] at *); omega
    · intro d0 d1 h2 W2
      refine ⟨_, rfl, fun _ => rfl, ?_⟩
      refine ps_of (W1.mv (fun k hk => W2.lo hk)) W2 ?_ ?_ ?_ ?_ ?_ ?_
      · exact hR
      · exact hI
      · exact hP
      · exact him
      · exact hL
      · exact hT
    · intro d0 d1 h2 W2
      exfalso; clear W1 W2 WX WM; (try simp only [g7_] at *); omega
  · intro c0 c1 h1 W1
    refine ⟨_, rfl, (WM.mv (fun k hk => W1.hi hk)).c90, ?_⟩
    refine M_pardons hm hR.1  (WM.mv (fun k hk => W1.hi hk)) ?_ ?_ ?_
    · intro d0 h2 W2
      exfalso; clear W1 W2 WX WM; (try simp only [g7_] at *); omega
    · intro d0 d1 h2 W2
      exfalso; clear W1 W2 WX WM; (try simp only [g7_] at *); omega
    · intro d0 d1 h2 W2
      refine ⟨_, rfl, fun _ => rfl, ?_⟩
      refine ps_of (W1.mv (fun k hk => W2.lo hk)) W2 ?_ ?_ ?_ ?_ ?_ ?_
      · exact gd_fa hR c0 c1
      · exact hI
      · exact gd_push hR hP gp
      · exact him
      · exact hL
      · exact hT
theorem pr_slopes {fz : Prop} {h : AH} {s v : Int} (hs : inI s) (hv : inI v) (S : PS fz h) : Con M_X_slopes [.ref 78, .int (zI s), .int (zI v)] h (PI M_M_slopes [.ref 90, .int (zI s), .int (zI v)] True) := by
  obtain ⟨R, I, im, P, pz, lt, lsz, tn, tsz, rf, ⟨hM, WX⟩, ⟨bb, WM⟩, hR, hI, hP, him, hL, hT, hfz⟩ := S
  have gp := WX.gp
  refine X_slopes hs hv (WX.re (fun _ _ => rfl)) ?_ ?_ ?_ ?_
  · intro c0 h1 W1
    refine ⟨_, rfl, (WM.mv (fun k hk => W1.hi hk)).c90, ?_⟩
    refine M_slopes hs hv hR.1  (WM.mv (fun k hk => W1.hi hk)) ?_ ?_ ?_ ?_
    · intro d0 h2 W2
      refine ⟨_, rfl, fun _ => rfl, ?_⟩
      refine ps_of (W1.mv (fun k hk => W2.lo hk)) W2 ?_ ?_ ?_ ?_ ?_ ?_
      · exact hR
      · exact hI
      · exact hP
      · exact him
      · exact hL
      · exact hT
    · intro d0 d1 h2 W2
      exfalso; clear W1 W2 WX WM; (try simp only [g7_] at *); omega
    · intro d0 d1 d2 h2 W2
      exfalso; clear W1 W2 WX WM; (try simp only [g7_] at *); omega
    · intro d0 d1 d2 h2 W2
      exfalso; clear W1 W2 WX WM; (try simp only [g7_] at *); omega
  · intro c0 c1 h1 W1
    refine ⟨_, rfl, (WM.mv (fun k hk => W1.hi hk)).c90, ?_⟩
    refine M_slopes hs hv hR.1  (WM.mv (fun k hk => W1.hi hk)) ?_ ?_ ?_ ?_
    · intro d0 h2 W2
      exfalso; clear W1 W2 WX WM; (try simp only [g7_] at *); omega
    · intro d0 d1 h2 W2
      refine ⟨_, rfl, fun _ => rfl, ?_⟩
      refine ps_of (W1.mv (fun k hk => W2.lo hk)) W2 ?_ ?_ ?_ ?_ ?_ ?_
      · exact hR
      · exact hI
      · exact hP
      · exact him
      · exact hL
      · exact hT
    · intro d0 d1 d2 h2 W2
      exfalso; clear W1 W2 WX WM; (try simp only [g7_] at *); omega
    · intro d0 d1 d2 h2 W2
      exfalso; clear W1 W2 WX WM; (try simp only [g7_] at *); omega
  · intro c0 c1 c2 h1 W1
    refine ⟨_, rfl, (WM.mv (fun k hk => W1.hi hk)).c90, ?_⟩
    refine M_slopes hs hv hR.1  (WM.mv (fun k hk => W1.hi hk)) ?_ ?_ ?_ ?_
    · intro d0 h2 W2
      exfalso; clear W1 W2 WX WM; (try simp only [g7_] at *); omega
    · intro d0 d1 h2 W2
      exfalso; clear W1 W2 WX WM; (try simp only [g7_] at *); omega
    · intro d0 d1 d2 h2 W2
      refine ⟨_, rfl, fun _ => rfl, ?_⟩
      refine ps_of (W1.mv (fun k hk => W2.lo hk)) W2 ?_ ?_ ?_ ?_ ?_ ?_
      · exact hR
      · exact hI
      · exact hP
      · exact him
      · exact hL
      · exact hT
    · intro d0 d1 d2 h2 W2
      exfalso; clear W1 W2 WX WM; (try simp only [g7_] at *); omega
  · intro c0 c1 c2 h1 W1
    refine ⟨_, rfl, (WM.mv (fun k hk => W1.hi hk)).c90, ?_⟩
    refine M_slopes hs hv hR.1  (WM.mv (fun k hk => W1.hi hk)) ?_ ?_ ?_ ?_
    · intro d0 h2 W2
      exfalso; clear W1 W2 WX WM; (try simp only [g7_] at *); omega
    · intro d0 d1 h2 W2
      exfalso; clear W1 W2 WX WM; (try simp only [g7_] at *); omega
    · intro d0 d1 d2 h2 W2
      exfalso; clear W1 W2 WX WM; (try simp only [g7_] at *); omega
    · intro d0 d1 d2 h2 W2
      refine ⟨_, rfl, fun _ => rfl, ?_⟩
      refine ps_of (W1.mv (fun k hk => W2.lo hk)) W2 ?_ ?_ ?_ ?_ ?_ ?_
      · exact ⟨hR.1.setSl _ (by omega) (by omega), hR.2⟩
      · exact hI
      · exact gd_push hR hP gp
      · exact him
      · exact hL
      · exact hT
theorem pr_loads {fz : Prop} {h : AH} {v : Int} (hv : inI v) (S : PS fz h) : Con M_X_loads [.ref 78, .int (zI v)] h (PI M_M_loads [.ref 90, .int (zI v)] True) := by
  obtain ⟨R, I, im, P, pz, lt, lsz, tn, tsz, rf, ⟨hM, WX⟩, ⟨bb, WM⟩, hR, hI, hP, him, hL, hT, hfz⟩ := S
  have gp := WX.gp
  refine X_loads hv (WX.re (fun _ _ => rfl)) ?_ ?_ ?_
  · intro c0 h1 W1
    refine ⟨_, rfl, (WM.mv (fun k hk => W1.hi hk)).c90, ?_⟩
    refine M_loads hv hR.1  (WM.mv (fun k hk => W1.hi hk)) ?_ ?_ ?_
    · intro d0 h2 W2
      refine ⟨_, rfl, fun _ => rfl, ?_⟩
      refine ps_of (W1.mv (fun k hk => W2.lo hk)) W2 ?_ ?_ ?_ ?_ ?_ ?_
      · exact hR
      · exact hI
      · exact hP
      · exact him
      · exact hL
      · exact hT
    · intro d0 d1 h2 W2
      exfalso; clear W1 W2 WX WM; (try simp only [g7_] at *); omega
    · intro d0 d1 h2 W2
      exfalso; clear W1 W2 WX WM; (try simp only [g7_] at *); omega
  · intro c0 c1 h1 W1
    refine ⟨_, rfl, (WM.mv (fun k hk => W1.hi hk)).c90, ?_⟩
    refine M_loads hv hR.1  (WM.mv (fun k hk => W1.hi hk)) ?_ ?_ ?_
    · intro d0 h2 W2
      exfalso; clear W1 W2 WX WM; (try simp only [g7_] at *); omega
    · intro d0 d1 h2 W2
      refine ⟨_, rfl, fun _ => rfl, ?_⟩
      refine ps_of (W1.mv (fun k hk => W2.lo hk)) W2 ?_ ?_ ?_ ?_ ?_ ?_
      · exact hR
      · exact hI
      · exact hP
      · exact him
      · exact hL
      · exact hT
    · intro d0 d1 h2 W2
      exfalso; clear W1 W2 WX WM; (try simp only [g7_] at *); omega
  · intro c0 c1 h1 W1
    refine ⟨_, rfl, (WM.mv (fun k hk => W1.hi hk)).c90, ?_⟩
    refine M_loads hv hR.1  (WM.mv (fun k hk => W1.hi hk)) ?_ ?_ ?_
    · intro d0 h2 W2
      exfalso; clear W1 W2 WX WM; (try simp only [g7_] at *); omega
    · intro d0 d1 h2 W2
      exfalso; clear W1 W2 WX WM; (try simp only [g7_] at *); omega
    · intro d0 d1 h2 W2
      refine ⟨_, rfl, fun _ => rfl, ?_⟩
      refine ps_of (W1.mv (fun k hk => W2.lo hk)) W2 ?_ ?_ ?_ ?_ ?_ ?_
      · exact ⟨hR.1.setLoad (by omega), hR.2⟩
      · exact hI
      · exact gd_push hR hP gp
      · exact him
      · exact hL
      · exact hT
theorem pr_snows {fz : Prop} {h : AH} {v : Int} (hv : inI v) (S : PS fz h) : Con M_X_snows [.ref 78, .int (zI v)] h (PI M_M_snows [.ref 90, .int (zI v)] True) := by
  obtain ⟨R, I, im, P, pz, lt, lsz, tn, tsz, rf, ⟨hM, WX⟩, ⟨bb, WM⟩, hR, hI, hP, him, hL, hT, hfz⟩ := S
  have gp := WX.gp
  refine X_snows hv (WX.re (fun _ _ => rfl)) ?_ ?_ ?_
  · intro c0 h1 W1
    refine ⟨_, rfl, (WM.mv (fun k hk => W1.hi hk)).c90, ?_⟩
    refine M_snows hv hR.1  (WM.mv (fun k hk => W1.hi hk)) ?_ ?_ ?_
    · intro d0 h2 W2
      refine ⟨_, rfl, fun _ => rfl, ?_⟩
      refine ps_of (W1.mv (fun k hk => W2.lo hk)) W2 ?_ ?_ ?_ ?_ ?_ ?_
      · exact hR
      · exact hI
      · exact hP
      · exact him
      · exact hL
      · exact hT
    · intro d0 d1 h2 W2
      exfalso; clear W1 W2 WX WM; (try simp only [g7_] at *); omega
    · intro d0 d1 h2 W2
      exfalso; clear W1 W2 WX WM; (try simp only [g7_] at *); omega
  · intro c0 c1 h1 W1
    refine ⟨_, rfl, (WM.mv (fun k hk => W1.hi hk)).c90, ?_⟩
    refine M_snows hv hR.1  (WM.mv (fun k hk => W1.hi hk)) ?_ ?_ ?_
    · intro d0 h2 W2
      exfalso; clear W1 W2 WX WM; (try simp only [g7_] at *); omega
    · intro d0 d1 h2 W2
      refine ⟨_, rfl, fun _ => rfl, ?_⟩
      refine ps_of (W1.mv (fun k hk => W2.lo hk)) W2 ?_ ?_ ?_ ?_ ?_ ?_
      · exact hR
      · exact hI
      · exact hP
      · exact him
      · exact hL
      · exact hT
    · intro d0 d1 h2 W2
      exfalso; clear W1 W2 WX WM; (try simp only [g7_] at *); omega
  · intro c0 c1 h1 W1
    refine ⟨_, rfl, (WM.mv (fun k hk => W1.hi hk)).c90, ?_⟩
    refine M_snows hv hR.1  (WM.mv (fun k hk => W1.hi hk)) ?_ ?_ ?_
    · intro d0 h2 W2
      exfalso; clear W1 W2 WX WM; (try simp only [g7_] at *); omega
    · intro d0 d1 h2 W2
      exfalso; clear W1 W2 WX WM; (try simp only [g7_] at *); omega
    · intro d0 d1 h2 W2
      refine ⟨_, rfl, fun _ => rfl, ?_⟩
      refine ps_of (W1.mv (fun k hk => W2.lo hk)) W2 ?_ ?_ ?_ ?_ ?_ ?_
      · exact ⟨hR.1.setSnow (by omega), hR.2⟩
      · exact hI
      · exact fun i hi => absurd hi (by omega)
      · exact him
      · exact hL
      · exact hT
theorem pr_days {fz : Prop} {h : AH} {n : Int} (hn : inI n) (S : PS fz h) : Con M_X_days [.ref 78, .int (zI n)] h (PI M_M_days [.ref 90, .int (zI n)] True) := by
  obtain ⟨R, I, im, P, pz, lt, lsz, tn, tsz, rf, ⟨hM, WX⟩, ⟨bb, WM⟩, hR, hI, hP, him, hL, hT, hfz⟩ := S
  have gp := WX.gp
  refine X_days hn hR.2 (WX.re (fun _ _ => rfl)) ?_ ?_ ?_
  · intro c0 h1 W1
    refine ⟨_, rfl, (WM.mv (fun k hk => W1.hi hk)).c90, ?_⟩
    refine M_days hn hR.2 hR.1  (WM.mv (fun k hk => W1.hi hk)) ?_ ?_ ?_
    · intro d0 h2 W2
      refine ⟨_, rfl, fun _ => rfl, ?_⟩
      refine ps_of (W1.mv (fun k hk => W2.lo hk)) W2 ?_ ?_ ?_ ?_ ?_ ?_
      · exact hR
      · exact hI
      · exact hP
      · exact him
      · exact hL
      · exact hT
    · intro d0 d1 h2 W2
      exfalso; clear W1 W2 WX WM; (try simp only [g7_] at *); omega
    · intro d0 d1 d2 h2 W2
      exfalso; clear W1 W2 WX WM; (try simp only [g7_] at *); omega
  · intro c0 c1 h1 W1
    refine ⟨_, rfl, (WM.mv (fun k hk => W1.hi hk)).c90, ?_⟩
    refine M_days hn hR.2 hR.1  (WM.mv (fun k hk => W1.hi hk)) ?_ ?_ ?_
    · intro d0 h2 W2
      exfalso; clear W1 W2 WX WM; (try simp only [g7_] at *); omega
    · intro d0 d1 h2 W2
      refine ⟨_, rfl, fun _ => rfl, ?_⟩
      refine ps_of (W1.mv (fun k hk => W2.lo hk)) W2 ?_ ?_ ?_ ?_ ?_ ?_
      · exact hR
      · exact hI
      · exact hP
      · exact him
      · exact hL
      · exact hT
    · intro d0 d1 d2 h2 W2
      exfalso; clear W1 W2 WX WM; (try simp only [g7_] at *); omega
  · intro c0 c1 c2 h1 W1
    refine ⟨_, rfl, (WM.mv (fun k hk => W1.hi hk)).c90, ?_⟩
    refine M_days hn hR.2 hR.1  (WM.mv (fun k hk => W1.hi hk)) ?_ ?_ ?_
    · intro d0 h2 W2
      exfalso; clear W1 W2 WX WM; (try simp only [g7_] at *); omega
    · intro d0 d1 h2 W2
      exfalso; clear W1 W2 WX WM; (try simp only [g7_] at *); omega
    · intro d0 d1 d2 h2 W2
      refine ⟨_, rfl, fun _ => rfl, ?_⟩
      refine ps_of (W1.mv (fun k hk => W2.lo hk)) W2 ?_ ?_ ?_ ?_ ?_ ?_
      · exact gd_days hR (by omega) (by omega)
      · exact hI
      · exact gd_push hR hP gp
      · exact him
      · exact hL
      · exact hT
theorem pr_back {fz : Prop} {h : AH}  (S : PS fz h) : Con M_X_back [.ref 78] h (PI M_M_back [.ref 90] True) := by
  obtain ⟨R, I, im, P, pz, lt, lsz, tn, tsz, rf, ⟨hM, WX⟩, ⟨bb, WM⟩, hR, hI, hP, him, hL, hT, hfz⟩ := S
  have gp := WX.gp
  refine X_back  (WX.re (fun _ _ => rfl)) ?_ ?_
  · intro c0 h1 W1
    refine ⟨_, rfl, (WM.mv (fun k hk => W1.hi hk)).c90, ?_⟩
    refine M_back  hR.1 (fun i hi => (hP i hi).1) (WM.mv (fun k hk => W1.hi hk)) ?_ ?_
    · intro d0 h2 W2
      refine ⟨_, rfl, fun _ => rfl, ?_⟩
      refine ps_of (W1.mv (fun k hk => W2.lo hk)) W2 ?_ ?_ ?_ ?_ ?_ ?_
      · exact hR
      · exact hI
      · exact hP
      · exact him
      · exact hL
      · exact hT
    · intro d0 h2 W2
      exfalso; clear W1 W2 WX WM; (try simp only [g7_] at *); omega
  · intro c0 h1 W1
    refine ⟨_, rfl, (WM.mv (fun k hk => W1.hi hk)).c90, ?_⟩
    refine M_back  hR.1 (fun i hi => (hP i hi).1) (WM.mv (fun k hk => W1.hi hk)) ?_ ?_
    · intro d0 h2 W2
      exfalso; clear W1 W2 WX WM; (try simp only [g7_] at *); omega
    · intro d0 h2 W2
      refine ⟨_, rfl, fun _ => rfl, ?_⟩
      refine ps_of (W1.mv (fun k hk => W2.lo hk)) W2 ?_ ?_ ?_ ?_ ?_ ?_
      · exact hP _ (by omega)
      · exact hI
      · exact fun i hi => hP i (by omega)
      · exact him
      · exact hL
      · exact hT
theorem pr_then {fz : Prop} {h : AH} {n w : Int} (hn : inI n) (hw : inI w) (S : PS fz h) : Con M_X_then [.ref 78, .int (zI n), .int (zI w)] h (PI M_M_then [.ref 90, .int (zI n), .int (zI w)] True) := by
  obtain ⟨R, I, im, P, pz, lt, lsz, tn, tsz, rf, ⟨hM, WX⟩, ⟨bb, WM⟩, hR, hI, hP, him, hL, hT, hfz⟩ := S
  have gp := WX.gp
  refine X_then hn hw (WX.re (fun _ _ => rfl)) ?_ ?_ ?_ ?_
  · intro c0 h1 W1
    refine ⟨_, rfl, (WM.mv (fun k hk => W1.hi hk)).c90, ?_⟩
    refine M_then hn hw hR.1  (WM.mv (fun k hk => W1.hi hk)) ?_ ?_ ?_ ?_
    · intro d0 h2 W2
      refine ⟨_, rfl, fun _ => rfl, ?_⟩
      refine ps_of (W1.mv (fun k hk => W2.lo hk)) W2 ?_ ?_ ?_ ?_ ?_ ?_
      · exact hR
      · exact hI
      · exact hP
      · exact him
      · exact hL
      · exact hT
    · intro d0 d1 h2 W2
      exfalso; clear W1 W2 WX WM; (try simp only [g7_] at *); omega
    · intro d0 d1 d2 h2 W2
      exfalso; clear W1 W2 WX WM; (try simp only [g7_] at *); omega
    · intro d0 d1 d2 h2 W2
      exfalso; clear W1 W2 WX WM; (try simp only [g7_] at *); omega
  · intro c0 c1 h1 W1
    refine ⟨_, rfl, (WM.mv (fun k hk => W1.hi hk)).c90, ?_⟩
    refine M_then hn hw hR.1  (WM.mv (fun k hk => W1.hi hk)) ?_ ?_ ?_ ?_
    · intro d0 h2 W2
      exfalso; clear W1 W2 WX WM; (try simp only [g7_] at *); omega
    · intro d0 d1 h2 W2
      refine ⟨_, rfl, fun _ => rfl, ?_⟩
      refine ps_of (W1.mv (fun k hk => W2.lo hk)) W2 ?_ ?_ ?_ ?_ ?_ ?_
      · exact hR
      · exact hI
      · exact hP
      · exact him
      · exact hL
      · exact hT
    · intro d0 d1 d2 h2 W2
      exfalso; clear W1 W2 WX WM; (try simp only [g7_] at *); omega
    · intro d0 d1 d2 h2 W2
      exfalso; clear W1 W2 WX WM; (try simp only [g7_] at *); omega
  · intro c0 c1 c2 h1 W1
    refine ⟨_, rfl, (WM.mv (fun k hk => W1.hi hk)).c90, ?_⟩
    refine M_then hn hw hR.1  (WM.mv (fun k hk => W1.hi hk)) ?_ ?_ ?_ ?_
    · intro d0 h2 W2
      exfalso; clear W1 W2 WX WM; (try simp only [g7_] at *); omega
    · intro d0 d1 h2 W2
      exfalso; clear W1 W2 WX WM; (try simp only [g7_] at *); omega
    · intro d0 d1 d2 h2 W2
      refine ⟨_, rfl, fun _ => rfl, ?_⟩
      refine ps_of (W1.mv (fun k hk => W2.lo hk)) W2 ?_ ?_ ?_ ?_ ?_ ?_
      · exact hR
      · exact hI
      · exact hP
      · exact him
      · exact hL
      · exact hT
    · intro d0 d1 d2 h2 W2
      exfalso; clear W1 W2 WX WM; (try simp only [g7_] at *); omega
  · intro c0 c1 c2 h1 W1
    refine ⟨_, rfl, (WM.mv (fun k hk => W1.hi hk)).c90, ?_⟩
    refine M_then hn hw hR.1  (WM.mv (fun k hk => W1.hi hk)) ?_ ?_ ?_ ?_
    · intro d0 h2 W2
      exfalso; clear W1 W2 WX WM; (try simp only [g7_] at *); omega
    · intro d0 d1 h2 W2
      exfalso; clear W1 W2 WX WM; (try simp only [g7_] at *); omega
    · intro d0 d1 d2 h2 W2
      exfalso; clear W1 W2 WX WM; (try simp only [g7_] at *); omega
    · intro d0 d1 d2 h2 W2
      refine ⟨_, rfl, fun _ => rfl, ?_⟩
      refine ps_of (W1.mv (fun k hk => W2.lo hk)) W2 ?_ ?_ ?_ ?_ ?_ ?_
      · exact hR
      · exact hI
      · exact hP
      · exact him
      · exact hL
      · exact hT
theorem pr_wornIn {fz : Prop} {h : AH} {m n : Int} (hm : inI m) (hn : inI n) (S : PS fz h) : Con M_X_wornIn [.ref 78, .int (zI m), .int (zI n)] h (PI M_M_wornIn [.ref 90, .int (zI m), .int (zI n)] True) := by
  obtain ⟨R, I, im, P, pz, lt, lsz, tn, tsz, rf, ⟨hM, WX⟩, ⟨bb, WM⟩, hR, hI, hP, him, hL, hT, hfz⟩ := S
  have gp := WX.gp
  refine X_wornIn hm hn (WX.re (fun _ _ => rfl)) ?_ ?_ ?_ ?_
  · intro c0 h1 W1
    refine ⟨_, rfl, (WM.mv (fun k hk => W1.hi hk)).c90, ?_⟩
    refine M_wornIn hm hn hR.1  (WM.mv (fun k hk => W1.hi hk)) ?_ ?_ ?_ ?_
    · intro d0 h2 W2
      refine ⟨_, rfl, fun _ => rfl, ?_⟩
      refine ps_of (W1.mv (fun k hk => W2.lo hk)) W2 ?_ ?_ ?_ ?_ ?_ ?_
      · exact hR
      · exact hI
      · exact hP
      · exact him
      · exact hL
      · exact hT
    · intro d0 d1 h2 W2
      exfalso; clear W1 W2 WX WM; (try simp only [g7_] at *); omega
    · intro d0 d1 d2 h2 W2
      exfalso; clear W1 W2 WX WM; (try simp only [g7_] at *); omega
    · intro d0 d1 d2 h2 W2
      exfalso; clear W1 W2 WX WM; (try simp only [g7_] at *); omega
  · intro c0 c1 h1 W1
    refine ⟨_, rfl, (WM.mv (fun k hk => W1.hi hk)).c90, ?_⟩
    refine M_wornIn hm hn hR.1  (WM.mv (fun k hk => W1.hi hk)) ?_ ?_ ?_ ?_
    · intro d0 h2 W2
      exfalso; clear W1 W2 WX WM; (try simp only [g7_] at *); omega
    · intro d0 d1 h2 W2
      refine ⟨_, rfl, fun _ => rfl, ?_⟩
      refine ps_of (W1.mv (fun k hk => W2.lo hk)) W2 ?_ ?_ ?_ ?_ ?_ ?_
      · exact hR
      · exact hI
      · exact hP
      · exact him
      · exact hL
      · exact hT
    · intro d0 d1 d2 h2 W2
      exfalso; clear W1 W2 WX WM; (try simp only [g7_] at *); omega
    · intro d0 d1 d2 h2 W2
      exfalso; clear W1 W2 WX WM; (try simp only [g7_] at *); omega
  · intro c0 c1 c2 h1 W1
    refine ⟨_, rfl, (WM.mv (fun k hk => W1.hi hk)).c90, ?_⟩
    refine M_wornIn hm hn hR.1  (WM.mv (fun k hk => W1.hi hk)) ?_ ?_ ?_ ?_
    · intro d0 h2 W2
      exfalso; clear W1 W2 WX WM; (try simp only [g7_] at *); omega
    · intro d0 d1 h2 W2
      exfalso; clear W1 W2 WX WM; (try simp only [g7_] at *); omega
    · intro d0 d1 d2 h2 W2
      refine ⟨_, rfl, fun _ => rfl, ?_⟩
      refine ps_of (W1.mv (fun k hk => W2.lo hk)) W2 ?_ ?_ ?_ ?_ ?_ ?_
      · exact hR
      · exact hI
      · exact hP
      · exact him
      · exact hL
      · exact hT
    · intro d0 d1 d2 h2 W2
      exfalso; clear W1 W2 WX WM; (try simp only [g7_] at *); omega
  · intro c0 c1 c2 h1 W1
    refine ⟨_, rfl, (WM.mv (fun k hk => W1.hi hk)).c90, ?_⟩
    refine M_wornIn hm hn hR.1  (WM.mv (fun k hk => W1.hi hk)) ?_ ?_ ?_ ?_
    · intro d0 h2 W2
      exfalso; clear W1 W2 WX WM; (try simp only [g7_] at *); omega
    · intro d0 d1 h2 W2
      exfalso; clear W1 W2 WX WM; (try simp only [g7_] at *); omega
    · intro d0 d1 d2 h2 W2
      exfalso; clear W1 W2 WX WM; (try simp only [g7_] at *); omega
    · intro d0 d1 d2 h2 W2
      refine ⟨_, rfl, fun _ => rfl, ?_⟩
      refine ps_of (W1.mv (fun k hk => W2.lo hk)) W2 ?_ ?_ ?_ ?_ ?_ ?_
      · exact hR
      · exact hI
      · exact hP
      · exact him
      · exact hL
      · exact hT
theorem pr_home {fz : Prop} {h : AH} {w : Int} (hw : inI w) (S : PS fz h) : Con M_X_home [.ref 78, .int (zI w)] h (PI M_M_home [.ref 90, .int (zI w)] True) := by
  obtain ⟨R, I, im, P, pz, lt, lsz, tn, tsz, rf, ⟨hM, WX⟩, ⟨bb, WM⟩, hR, hI, hP, him, hL, hT, hfz⟩ := S
  have gp := WX.gp
  refine X_home hw (WX.re (fun _ _ => rfl)) ?_ ?_
  · intro c0 h1 W1
    refine ⟨_, rfl, (WM.mv (fun k hk => W1.hi hk)).c90, ?_⟩
    refine M_home hw hR.1  (WM.mv (fun k hk => W1.hi hk)) ?_ ?_
    · intro d0 h2 W2
      refine ⟨_, rfl, fun _ => rfl, ?_⟩
      refine ps_of (W1.mv (fun k hk => W2.lo hk)) W2 ?_ ?_ ?_ ?_ ?_ ?_
      · exact hR
      · exact hI
      · exact hP
      · exact him
      · exact hL
      · exact hT
    · intro d0 h2 W2
      exfalso; clear W1 W2 WX WM; (try simp only [g7_] at *); omega
  · intro c0 h1 W1
    refine ⟨_, rfl, (WM.mv (fun k hk => W1.hi hk)).c90, ?_⟩
    refine M_home hw hR.1  (WM.mv (fun k hk => W1.hi hk)) ?_ ?_
    · intro d0 h2 W2
      exfalso; clear W1 W2 WX WM; (try simp only [g7_] at *); omega
    · intro d0 h2 W2
      refine ⟨_, rfl, fun _ => rfl, ?_⟩
      refine ps_of (W1.mv (fun k hk => W2.lo hk)) W2 ?_ ?_ ?_ ?_ ?_ ?_
      · exact hR
      · exact hI
      · exact hP
      · exact him
      · exact hL
      · exact hT
theorem pr_dies {fz : Prop} {h : AH} {m : Int} (hm : inI m) (S : PS fz h) : Con M_X_dies [.ref 78, .int (zI m)] h (PI M_M_dies [.ref 90, .int (zI m)] True) := by
  obtain ⟨R, I, im, P, pz, lt, lsz, tn, tsz, rf, ⟨hM, WX⟩, ⟨bb, WM⟩, hR, hI, hP, him, hL, hT, hfz⟩ := S
  have gp := WX.gp
  refine X_dies hm (WX.re (fun _ _ => rfl)) ?_ ?_ ?_
  · intro c0 c1 h1 W1
    refine ⟨_, rfl, (WM.mv (fun k hk => W1.hi hk)).c90, ?_⟩
    refine M_dies hm hR.1  (WM.mv (fun k hk => W1.hi hk)) ?_ ?_ ?_
    · intro d0 d1 h2 W2
      refine ⟨_, rfl, fun _ => rfl, ?_⟩
      refine ps_of (W1.mv (fun k hk => W2.lo hk)) W2 ?_ ?_ ?_ ?_ ?_ ?_
      · exact hR
      · exact hI
      · exact hP
      · exact him
      · exact hL
      · exact hT
    · intro d0 h2 W2
      exfalso; clear W1 W2 WX WM; (try simp only [g7_] at *); omega
    · intro d0 d1 h2 W2
      exfalso; clear W1 W2 WX WM; (try simp only [g7_] at *); omega
  · intro c0 h1 W1
    refine ⟨_, rfl, (WM.mv (fun k hk => W1.hi hk)).c90, ?_⟩
    refine M_dies hm hR.1  (WM.mv (fun k hk => W1.hi hk)) ?_ ?_ ?_
    · intro d0 d1 h2 W2
      exfalso; clear W1 W2 WX WM; (try simp only [g7_] at *); omega
    · intro d0 h2 W2
      refine ⟨_, rfl, fun _ => rfl, ?_⟩
      refine ps_of (W1.mv (fun k hk => W2.lo hk)) W2 ?_ ?_ ?_ ?_ ?_ ?_
      · exact hR
      · exact hI
      · exact hP
      · exact him
      · exact hL
      · exact hT
    · intro d0 d1 h2 W2
      exfalso; clear W1 W2 WX WM; (try simp only [g7_] at *); omega
  · intro c0 c1 h1 W1
    refine ⟨_, rfl, (WM.mv (fun k hk => W1.hi hk)).c90, ?_⟩
    refine M_dies hm hR.1  (WM.mv (fun k hk => W1.hi hk)) ?_ ?_ ?_
    · intro d0 d1 h2 W2
      exfalso; clear W1 W2 WX WM; (try simp only [g7_] at *); omega
    · intro d0 h2 W2
      exfalso; clear W1 W2 WX WM; (try simp only [g7_] at *); omega
    · intro d0 d1 h2 W2
      refine ⟨_, rfl, fun _ => rfl, ?_⟩
      refine ps_of (W1.mv (fun k hk => W2.lo hk)) W2 ?_ ?_ ?_ ?_ ?_ ?_
      · exact hR
      · exact hI
      · exact hP
      · exact him
      · exact hL
      · exact hT
theorem pr_mercy {fz : Prop} {h : AH} {n : Int} (hn : inI n) (S : PS fz h) : Con M_X_mercy [.ref 78, .int (zI n)] h (PI M_M_mercy [.ref 90, .int (zI n)] True) := by
  obtain ⟨R, I, im, P, pz, lt, lsz, tn, tsz, rf, ⟨hM, WX⟩, ⟨bb, WM⟩, hR, hI, hP, him, hL, hT, hfz⟩ := S
  have gp := WX.gp
  refine X_mercy hn (WX.re (fun _ _ => rfl)) ?_ ?_ ?_
  · intro c0 h1 W1
    refine ⟨_, rfl, (WM.mv (fun k hk => W1.hi hk)).c90, ?_⟩
    refine M_mercy hn hR.1  (WM.mv (fun k hk => W1.hi hk)) ?_ ?_ ?_
    · intro d0 h2 W2
      refine ⟨_, rfl, fun _ => rfl, ?_⟩
      refine ps_of (W1.mv (fun k hk => W2.lo hk)) W2 ?_ ?_ ?_ ?_ ?_ ?_
      · exact hR
      · exact hI
      · exact hP
      · exact him
      · exact hL
      · exact hT
    · intro d0 d1 h2 W2
      exfalso; clear W1 W2 WX WM; (try simp only [g7_] at *); omega
    · intro d0 d1 h2 W2
      exfalso; clear W1 W2 WX WM; (try simp only [g7_] at *); omega
  · intro c0 c1 h1 W1
    refine ⟨_, rfl, (WM.mv (fun k hk => W1.hi hk)).c90, ?_⟩
    refine M_mercy hn hR.1  (WM.mv (fun k hk => W1.hi hk)) ?_ ?_ ?_
    · intro d0 h2 W2
      exfalso; clear W1 W2 WX WM; (try simp only [g7_] at *); omega
    · intro d0 d1 h2 W2
      refine ⟨_, rfl, fun _ => rfl, ?_⟩
      refine ps_of (W1.mv (fun k hk => W2.lo hk)) W2 ?_ ?_ ?_ ?_ ?_ ?_
      · exact hR
      · exact hI
      · exact hP
      · exact him
      · exact hL
      · exact hT
    · intro d0 d1 h2 W2
      exfalso; clear W1 W2 WX WM; (try simp only [g7_] at *); omega
  · intro c0 c1 h1 W1
    refine ⟨_, rfl, (WM.mv (fun k hk => W1.hi hk)).c90, ?_⟩
    refine M_mercy hn hR.1  (WM.mv (fun k hk => W1.hi hk)) ?_ ?_ ?_
    · intro d0 h2 W2
      exfalso; clear W1 W2 WX WM; (try simp only [g7_] at *); omega
    · intro d0 d1 h2 W2
      exfalso; clear W1 W2 WX WM; (try simp only [g7_] at *); omega
    · intro d0 d1 h2 W2
      refine ⟨_, rfl, fun _ => rfl, ?_⟩
      refine ps_of (W1.mv (fun k hk => W2.lo hk)) W2 ?_ ?_ ?_ ?_ ?_ ?_
      · exact hR
      · exact hI
      · exact hP
      · exact him
      · exact hL
      · exact hT
theorem pr_fewest {fz : Prop} {h : AH} {n : Int} (hn : inI n) (S : PS fz h) : Con M_X_fewest [.ref 78, .int (zI n)] h (PI M_M_fewest [.ref 90, .int (zI n)] True) := by
  obtain ⟨R, I, im, P, pz, lt, lsz, tn, tsz, rf, ⟨hM, WX⟩, ⟨bb, WM⟩, hR, hI, hP, him, hL, hT, hfz⟩ := S
  have gp := WX.gp
  refine X_fewest hn (WX.re (fun _ _ => rfl)) ?_ ?_ ?_
  · intro c0 h1 W1
    refine ⟨_, rfl, (WM.mv (fun k hk => W1.hi hk)).c90, ?_⟩
    refine M_fewest hn hR.1  (WM.mv (fun k hk => W1.hi hk)) ?_ ?_ ?_
    · intro d0 h2 W2
      refine ⟨_, rfl, fun _ => rfl, ?_⟩
      refine ps_of (W1.mv (fun k hk => W2.lo hk)) W2 ?_ ?_ ?_ ?_ ?_ ?_
      · exact hR
      · exact hI
      · exact hP
      · exact him
      · exact hL
      · exact hT
    · intro d0 d1 h2 W2
      exfalso; clear W1 W2 WX WM; (try simp only [g7_] at *); omega
    · intro d0 d1 h2 W2
      exfalso; clear W1 W2 WX WM; (try simp only [g7_] at *); omega
  · intro c0 c1 h1 W1
    refine ⟨_, rfl, (WM.mv (fun k hk => W1.hi hk)).c90, ?_⟩
    refine M_fewest hn hR.1  (WM.mv (fun k hk => W1.hi hk)) ?_ ?_ ?_
    · intro d0 h2 W2
      exfalso; clear W1 W2 WX WM; (try simp only [g7_] at *); omega
    · intro d0 d1 h2 W2
      refine ⟨_, rfl, fun _ => rfl, ?_⟩
      refine ps_of (W1.mv (fun k hk => W2.lo hk)) W2 ?_ ?_ ?_ ?_ ?_ ?_
      · exact hR
      · exact hI
      · exact hP
      · exact him
      · exact hL
      · exact hT
    · intro d0 d1 h2 W2
      exfalso; clear W1 W2 WX WM; (try simp only [g7_] at *); omega
  · intro c0 c1 h1 W1
    refine ⟨_, rfl, (WM.mv (fun k hk => W1.hi hk)).c90, ?_⟩
    refine M_fewest hn hR.1  (WM.mv (fun k hk => W1.hi hk)) ?_ ?_ ?_
    · intro d0 h2 W2
      exfalso; clear W1 W2 WX WM; (try simp only [g7_] at *); omega
    · intro d0 d1 h2 W2
      exfalso; clear W1 W2 WX WM; (try simp only [g7_] at *); omega
    · intro d0 d1 h2 W2
      refine ⟨_, rfl, fun _ => rfl, ?_⟩
      refine ps_of (W1.mv (fun k hk => W2.lo hk)) W2 ?_ ?_ ?_ ?_ ?_ ?_
      · exact hR
      · exact hI
      · exact hP
      · exact him
      · exact hL
      · exact hT
theorem pr_crown {fz : Prop} {h : AH} {n : Int} (hn : inI n) (S : PS fz h) : Con M_X_crown [.ref 78, .int (zI n)] h (PI M_M_crown [.ref 90, .int (zI n)] True) := by
  obtain ⟨R, I, im, P, pz, lt, lsz, tn, tsz, rf, ⟨hM, WX⟩, ⟨bb, WM⟩, hR, hI, hP, him, hL, hT, hfz⟩ := S
  have gp := WX.gp
  refine X_crown hn (WX.re (fun _ _ => rfl)) ?_ ?_ ?_
  · intro c0 h1 W1
    refine ⟨_, rfl, (WM.mv (fun k hk => W1.hi hk)).c90, ?_⟩
    refine M_crown hn hR.1  (WM.mv (fun k hk => W1.hi hk)) ?_ ?_ ?_
    · intro d0 h2 W2
      refine ⟨_, rfl, fun _ => rfl, ?_⟩
      refine ps_of (W1.mv (fun k hk => W2.lo hk)) W2 ?_ ?_ ?_ ?_ ?_ ?_
      · exact hR
      · exact hI
      · exact hP
      · exact him
      · exact hL
      · exact hT
    · intro d0 d1 h2 W2
      exfalso; clear W1 W2 WX WM; (try simp only [g7_] at *); omega
    · intro d0 d1 h2 W2
      exfalso; clear W1 W2 WX WM; (try simp only [g7_] at *); omega
  · intro c0 c1 h1 W1
    refine ⟨_, rfl, (WM.mv (fun k hk => W1.hi hk)).c90, ?_⟩
    refine M_crown hn hR.1  (WM.mv (fun k hk => W1.hi hk)) ?_ ?_ ?_
    · intro d0 h2 W2
      exfalso; clear W1 W2 WX WM; (try simp only [g7_] at *); omega
    · intro d0 d1 h2 W2
      refine ⟨_, rfl, fun _ => rfl, ?_⟩
      refine ps_of (W1.mv (fun k hk => W2.lo hk)) W2 ?_ ?_ ?_ ?_ ?_ ?_
      · exact hR
      · exact hI
      · exact hP
      · exact him
      · exact hL
      · exact hT
    · intro d0 d1 h2 W2
      exfalso; clear W1 W2 WX WM; (try simp only [g7_] at *); omega
  · intro c0 c1 h1 W1
    refine ⟨_, rfl, (WM.mv (fun k hk => W1.hi hk)).c90, ?_⟩
    refine M_crown hn hR.1  (WM.mv (fun k hk => W1.hi hk)) ?_ ?_ ?_
    · intro d0 h2 W2
      exfalso; clear W1 W2 WX WM; (try simp only [g7_] at *); omega
    · intro d0 d1 h2 W2
      exfalso; clear W1 W2 WX WM; (try simp only [g7_] at *); omega
    · intro d0 d1 h2 W2
      refine ⟨_, rfl, fun _ => rfl, ?_⟩
      refine ps_of (W1.mv (fun k hk => W2.lo hk)) W2 ?_ ?_ ?_ ?_ ?_ ?_
      · exact hR
      · exact hI
      · exact hP
      · exact him
      · exact hL
      · exact hT
theorem pr_dig {fz : Prop} {h : AH} {n : Int} (hn : inI n) (S : PS fz h) : Con M_X_dig [.ref 78, .int (zI n)] h (PI M_M_dig [.ref 90, .int (zI n)] True) := by
  obtain ⟨R, I, im, P, pz, lt, lsz, tn, tsz, rf, ⟨hM, WX⟩, ⟨bb, WM⟩, hR, hI, hP, him, hL, hT, hfz⟩ := S
  have gp := WX.gp
  refine X_dig hn (WX.re (fun _ _ => rfl)) ?_ ?_ ?_
  · intro c0 h1 W1
    refine ⟨_, rfl, (WM.mv (fun k hk => W1.hi hk)).c90, ?_⟩
    refine M_dig hn hR.1  (WM.mv (fun k hk => W1.hi hk)) ?_ ?_ ?_
    · intro d0 h2 W2
      refine ⟨_, rfl, fun _ => rfl, ?_⟩
      refine ps_of (W1.mv (fun k hk => W2.lo hk)) W2 ?_ ?_ ?_ ?_ ?_ ?_
      · exact hR
      · exact hI
      · exact hP
      · exact him
      · exact hL
      · exact hT
    · intro d0 d1 h2 W2
      exfalso; clear W1 W2 WX WM; (try simp only [g7_] at *); omega
    · intro d0 d1 h2 W2
      exfalso; clear W1 W2 WX WM; (try simp only [g7_] at *); omega
  · intro c0 c1 h1 W1
    refine ⟨_, rfl, (WM.mv (fun k hk => W1.hi hk)).c90, ?_⟩
    refine M_dig hn hR.1  (WM.mv (fun k hk => W1.hi hk)) ?_ ?_ ?_
    · intro d0 h2 W2
      exfalso; clear W1 W2 WX WM; (try simp only [g7_] at *); omega
    · intro d0 d1 h2 W2
      refine ⟨_, rfl, fun _ => rfl, ?_⟩
      refine ps_of (W1.mv (fun k hk => W2.lo hk)) W2 ?_ ?_ ?_ ?_ ?_ ?_
      · exact hR
      · exact hI
      · exact hP
      · exact him
      · exact hL
      · exact hT
    · intro d0 d1 h2 W2
      exfalso; clear W1 W2 WX WM; (try simp only [g7_] at *); omega
  · intro c0 c1 h1 W1
    refine ⟨_, rfl, (WM.mv (fun k hk => W1.hi hk)).c90, ?_⟩
    refine M_dig hn hR.1  (WM.mv (fun k hk => W1.hi hk)) ?_ ?_ ?_
    · intro d0 h2 W2
      exfalso; clear W1 W2 WX WM; (try simp only [g7_] at *); omega
    · intro d0 d1 h2 W2
      exfalso; clear W1 W2 WX WM; (try simp only [g7_] at *); omega
    · intro d0 d1 h2 W2
      refine ⟨_, rfl, fun _ => rfl, ?_⟩
      refine ps_of (W1.mv (fun k hk => W2.lo hk)) W2 ?_ ?_ ?_ ?_ ?_ ?_
      · exact hR
      · exact hI
      · exact hP
      · exact him
      · exact hL
      · exact hT
theorem pr_keep {fz : Prop} {h : AH} {n w : Int} (hn : inI n) (hw : inI w) (S : PS fz h) : Con M_X_keep [.ref 78, .int (zI n), .int (zI w)] h (PI M_M_keep [.ref 90, .int (zI n), .int (zI w)] True) := by
  obtain ⟨R, I, im, P, pz, lt, lsz, tn, tsz, rf, ⟨hM, WX⟩, ⟨bb, WM⟩, hR, hI, hP, him, hL, hT, hfz⟩ := S
  have gp := WX.gp
  refine X_keep hn hw (WX.re (fun _ _ => rfl)) ?_ ?_ ?_ ?_
  · intro c0 h1 W1
    refine ⟨_, rfl, (WM.mv (fun k hk => W1.hi hk)).c90, ?_⟩
    refine M_keep hn hw hR.1  (WM.mv (fun k hk => W1.hi hk)) ?_ ?_ ?_ ?_
    · intro d0 h2 W2
      refine ⟨_, rfl, fun _ => rfl, ?_⟩
      refine ps_of (W1.mv (fun k hk => W2.lo hk)) W2 ?_ ?_ ?_ ?_ ?_ ?_
      · exact hR
      · exact hI
      · exact hP
      · exact him
      · exact hL
      · exact hT
    · intro d0 d1 h2 W2
      exfalso; clear W1 W2 WX WM; (try simp only [g7_] at *); omega
    · intro d0 d1 d2 h2 W2
      exfalso; clear W1 W2 WX WM; (try simp only [g7_] at *); omega
    · intro d0 d1 d2 h2 W2
      exfalso; clear W1 W2 WX WM; (try simp only [g7_] at *); omega
  · intro c0 c1 h1 W1
    refine ⟨_, rfl, (WM.mv (fun k hk => W1.hi hk)).c90, ?_⟩
    refine M_keep hn hw hR.1  (WM.mv (fun k hk => W1.hi hk)) ?_ ?_ ?_ ?_
    · intro d0 h2 W2
      exfalso; clear W1 W2 WX WM; (try simp only [g7_] at *); omega
    · intro d0 d1 h2 W2
      refine ⟨_, rfl, fun _ => rfl, ?_⟩
      refine ps_of (W1.mv (fun k hk => W2.lo hk)) W2 ?_ ?_ ?_ ?_ ?_ ?_
      · exact hR
      · exact hI
      · exact hP
      · exact him
      · exact hL
      · exact hT
    · intro d0 d1 d2 h2 W2
      exfalso; clear W1 W2 WX WM; (try simp only [g7_] at *); omega
    · intro d0 d1 d2 h2 W2
      exfalso; clear W1 W2 WX WM; (try simp only [g7_] at *); omega
  · intro c0 c1 c2 h1 W1
    refine ⟨_, rfl, (WM.mv (fun k hk => W1.hi hk)).c90, ?_⟩
    refine M_keep hn hw hR.1  (WM.mv (fun k hk => W1.hi hk)) ?_ ?_ ?_ ?_
    · intro d0 h2 W2
      exfalso; clear W1 W2 WX WM; (try simp only [g7_] at *); omega
    · intro d0 d1 h2 W2
      exfalso; clear W1 W2 WX WM; (try simp only [g7_] at *); omega
    · intro d0 d1 d2 h2 W2
      refine ⟨_, rfl, fun _ => rfl, ?_⟩
      refine ps_of (W1.mv (fun k hk => W2.lo hk)) W2 ?_ ?_ ?_ ?_ ?_ ?_
      · exact hR
      · exact hI
      · exact hP
      · exact him
      · exact hL
      · exact hT
    · intro d0 d1 d2 h2 W2
      exfalso; clear W1 W2 WX WM; (try simp only [g7_] at *); omega
  · intro c0 c1 c2 h1 W1
    refine ⟨_, rfl, (WM.mv (fun k hk => W1.hi hk)).c90, ?_⟩
    refine M_keep hn hw hR.1  (WM.mv (fun k hk => W1.hi hk)) ?_ ?_ ?_ ?_
    · intro d0 h2 W2
      exfalso; clear W1 W2 WX WM; (try simp only [g7_] at *); omega
    · intro d0 d1 h2 W2
      exfalso; clear W1 W2 WX WM; (try simp only [g7_] at *); omega
    · intro d0 d1 d2 h2 W2
      exfalso; clear W1 W2 WX WM; (try simp only [g7_] at *); omega
    · intro d0 d1 d2 h2 W2
      refine ⟨_, rfl, fun _ => rfl, ?_⟩
      refine ps_of (W1.mv (fun k hk => W2.lo hk)) W2 ?_ ?_ ?_ ?_ ?_ ?_
      · exact hR
      · exact hI
      · exact hP
      · exact him
      · exact hL
      · exact hT
theorem pr_pairs {fz : Prop} {h : AH} {w : Int} (hw : inI w) (S : PS fz h) : Con M_X_pairs [.ref 78, .int (zI w)] h (PI M_M_pairs [.ref 90, .int (zI w)] True) := by
  obtain ⟨R, I, im, P, pz, lt, lsz, tn, tsz, rf, ⟨hM, WX⟩, ⟨bb, WM⟩, hR, hI, hP, him, hL, hT, hfz⟩ := S
  have gp := WX.gp
  refine X_pairs hw (WX.re (fun _ _ => rfl)) ?_ ?_
  · intro c0 h1 W1
    refine ⟨_, rfl, (WM.mv (fun k hk => W1.hi hk)).c90, ?_⟩
    refine M_pairs hw hR.1  (WM.mv (fun k hk => W1.hi hk)) ?_ ?_
    · intro d0 h2 W2
      refine ⟨_, rfl, fun _ => rfl, ?_⟩
      refine ps_of (W1.mv (fun k hk => W2.lo hk)) W2 ?_ ?_ ?_ ?_ ?_ ?_
      · exact hR
      · exact hI
      · exact hP
      · exact him
      · exact hL
      · exact hT
    · intro d0 h2 W2
      exfalso; clear W1 W2 WX WM; (try simp only [g7_] at *); omega
  · intro c0 h1 W1
    refine ⟨_, rfl, (WM.mv (fun k hk => W1.hi hk)).c90, ?_⟩
    refine M_pairs hw hR.1  (WM.mv (fun k hk => W1.hi hk)) ?_ ?_
    · intro d0 h2 W2
      exfalso; clear W1 W2 WX WM; (try simp only [g7_] at *); omega
    · intro d0 h2 W2
      refine ⟨_, rfl, fun _ => rfl, ?_⟩
      refine ps_of (W1.mv (fun k hk => W2.lo hk)) W2 ?_ ?_ ?_ ?_ ?_ ?_
      · exact hR
      · exact hI
      · exact hP
      · exact him
      · exact hL
      · exact hT
theorem pr_whoBore {fz : Prop} {h : AH}  (S : PS fz h) : Con M_X_whoBore [.ref 78] h (PI M_M_whoBore [.ref 90] True) := by
  obtain ⟨R, I, im, P, pz, lt, lsz, tn, tsz, rf, ⟨hM, WX⟩, ⟨bb, WM⟩, hR, hI, hP, him, hL, hT, hfz⟩ := S
  have gp := WX.gp
  refine X_whoBore hT (WX.re (fun _ _ => rfl)) ?_
  · intro  h1 W1
    refine ⟨_, rfl, (WM.mv (fun k hk => W1.hi hk)).c90, ?_⟩
    refine M_whoBore hT hR.1  (WM.mv (fun k hk => W1.hi hk)) ?_
    · intro  h2 W2
      refine ⟨_, rfl, fun _ => rfl, ?_⟩
      refine ps_of (W1.mv (fun k hk => W2.lo hk)) W2 ?_ ?_ ?_ ?_ ?_ ?_
      · exact hR
      · exact hI
      · exact hP
      · exact him
      · exact hL
      · exact hT
theorem pr_whatKind {fz : Prop} {h : AH} {m w : Int} (hm : inI m) (hw : inI w) (S : PS fz h) : Con M_X_whatKind [.ref 78, .int (zI m), .int (zI w)] h (PI M_M_whatKind [.ref 90, .int (zI m), .int (zI w)] fz) := by
  obtain ⟨R, I, im, P, pz, lt, lsz, tn, tsz, rf, ⟨hM, WX⟩, ⟨bb, WM⟩, hR, hI, hP, him, hL, hT, hfz⟩ := S
  have gp := WX.gp
  refine X_whatKind hm hw hT (WX.re (fun _ _ => rfl)) ?_ ?_ ?_
  · intro c0 h1 W1
    refine ⟨_, rfl, (WM.mv (fun k hk => W1.hi hk)).c90, ?_⟩
    refine M_whatKind hm hw hT hR.1  (WM.mv (fun k hk => W1.hi hk)) ?_ ?_ ?_
    · intro d0 h2 W2
      refine ⟨_, rfl, fun _ => rfl, ?_⟩
      refine ps_of (W1.mv (fun k hk => W2.lo hk)) W2 ?_ ?_ ?_ ?_ ?_ ?_
      · exact hR
      · exact hI
      · exact hP
      · exact him
      · exact hL
      · exact hT
    · intro d0 d1 h2 W2
      exfalso; clear W1 W2 WX WM; (try simp only [g7_] at *); omega
    · intro d0 d1 v2 h2 W2
      exfalso; clear W1 W2 WX WM; (try simp only [g7_] at *); omega
  · intro c0 c1 h1 W1
    refine ⟨_, rfl, (WM.mv (fun k hk => W1.hi hk)).c90, ?_⟩
    refine M_whatKind hm hw hT hR.1  (WM.mv (fun k hk => W1.hi hk)) ?_ ?_ ?_
    · intro d0 h2 W2
      exfalso; clear W1 W2 WX WM; (try simp only [g7_] at *); omega
    · intro d0 d1 h2 W2
      refine ⟨_, rfl, fun _ => rfl, ?_⟩
      refine ps_of (W1.mv (fun k hk => W2.lo hk)) W2 ?_ ?_ ?_ ?_ ?_ ?_
      · exact hR
      · exact hI
      · exact hP
      · exact him
      · exact hL
      · exact hT
    · intro d0 d1 v2 h2 W2
      exfalso; clear W1 W2 WX WM; (try simp only [g7_] at *); omega
  · intro c0 c1 v1 h1 W1
    refine ⟨_, rfl, (WM.mv (fun k hk => W1.hi hk)).c90, ?_⟩
    refine M_whatKind hm hw hT hR.1  (WM.mv (fun k hk => W1.hi hk)) ?_ ?_ ?_
    · intro d0 h2 W2
      exfalso; clear W1 W2 WX WM; (try simp only [g7_] at *); omega
    · intro d0 d1 h2 W2
      exfalso; clear W1 W2 WX WM; (try simp only [g7_] at *); omega
    · intro d0 d1 v2 h2 W2
      refine ⟨_, rfl, fun q => absurd (hfz q) (by unfold g7_ at c0; omega), ?_⟩
      refine ps_of (W1.mv (fun k hk => W2.lo hk)) W2 ?_ ?_ ?_ ?_ ?_ ?_
      · exact hR
      · exact hI
      · exact hP
      · exact him
      · exact hL
      · exact hT
theorem pr_two {fz : Prop} {h : AH} {o t n : Int} (ho : inI o) (ht : inI t) (hn : inI n) (S : PS fz h) : Con M_X_two [.ref 78, .int (zI o), .int (zI t), .int (zI n)] h (PI M_M_two [.ref 90, .int (zI o), .int (zI t), .int (zI n)] True) := by
  obtain ⟨R, I, im, P, pz, lt, lsz, tn, tsz, rf, ⟨hM, WX⟩, ⟨bb, WM⟩, hR, hI, hP, him, hL, hT, hfz⟩ := S
  have gp := WX.gp
  refine X_two ho ht hn (WX.re (fun _ _ => rfl)) ?_ ?_ ?_ ?_ ?_
  · intro c0 h1 W1
    refine ⟨_, rfl, (WM.mv (fun k hk => W1.hi hk)).c90, ?_⟩
    refine M_two ho ht hn hR.1  (WM.mv (fun k hk => W1.hi hk)) ?_ ?_ ?_ ?_ ?_
    · intro d0 h2 W2
      refine ⟨_, rfl, fun _ => rfl, ?_⟩
      refine ps_of (W1.mv (fun k hk => W2.lo hk)) W2 ?_ ?_ ?_ ?_ ?_ ?_
      · exact hR
      · exact hI
      · exact hP
      · exact him
      · exact hL
      · exact hT
    · intro d0 d1 h2 W2
      exfalso; clear W1 W2 WX WM; (try simp only [g7_] at *); omega
    · intro d0 d1 d2 h2 W2
      exfalso; clear W1 W2 WX WM; (try simp only [g7_] at *); omega
    · intro d0 d1 d2 d3 h2 W2
      exfalso; clear W1 W2 WX WM; (try simp only [g7_] at *); omega
    · intro d0 d1 d2 d3 h2 W2
      exfalso; clear W1 W2 WX WM; (try simp only [g7_] at *); omega
  · intro c0 c1 h1 W1
    refine ⟨_, rfl, (WM.mv (fun k hk => W1.hi hk)).c90, ?_⟩
    refine M_two ho ht hn hR.1  (WM.mv (fun k hk => W1.hi hk)) ?_ ?_ ?_ ?_ ?_
    · intro d0 h2 W2
      exfalso; clear W1 W2 WX WM; (try simp only [g7_] at *); omega
    · intro d0 d1 h2 W2
      refine ⟨_, rfl, fun _ => rfl, ?_⟩
      refine ps_of (W1.mv (fun k hk => W2.lo hk)) W2 ?_ ?_ ?_ ?_ ?_ ?_
      · exact hR
      · exact hI
      · exact hP
      · exact him
      · exact hL
      · exact hT
    · intro d0 d1 d2 h2 W2
      exfalso; clear W1 W2 WX WM; (try simp only [g7_] at *); omega
    · intro d0 d1 d2 d3 h2 W2
      exfalso; clear W1 W2 WX WM; (try simp only [g7_] at *); omega
    · intro d0 d1 d2 d3 h2 W2
      exfalso; clear W1 W2 WX WM; (try simp only [g7_] at *); omega
  · intro c0 c1 c2 h1 W1
    refine ⟨_, rfl, (WM.mv (fun k hk => W1.hi hk)).c90, ?_⟩
    refine M_two ho ht hn hR.1  (WM.mv (fun k hk => W1.hi hk)) ?_ ?_ ?_ ?_ ?_
    · intro d0 h2 W2
      exfalso; clear W1 W2 WX WM; (try simp only [g7_] at *); omega
    · intro d0 d1 h2 W2
      exfalso; clear W1 W2 WX WM; (try simp only [g7_] at *); omega
    · intro d0 d1 d2 h2 W2
      refine ⟨_, rfl, fun _ => rfl, ?_⟩
      refine ps_of (W1.mv (fun k hk => W2.lo hk)) W2 ?_ ?_ ?_ ?_ ?_ ?_
      · exact hR
      · exact hI
      · exact hP
      · exact him
      · exact hL
      · exact hT
    · intro d0 d1 d2 d3 h2 W2
      exfalso; clear W1 W2 WX WM; (try simp only [g7_] at *); omega
    · intro d0 d1 d2 d3 h2 W2
      exfalso; clear W1 W2 WX WM; (try simp only [g7_] at *); omega
  · intro c0 c1 c2 c3 h1 W1
    refine ⟨_, rfl, (WM.mv (fun k hk => W1.hi hk)).c90, ?_⟩
    refine M_two ho ht hn hR.1  (WM.mv (fun k hk => W1.hi hk)) ?_ ?_ ?_ ?_ ?_
    · intro d0 h2 W2
      exfalso; clear W1 W2 WX WM; (try simp only [g7_] at *); omega
    · intro d0 d1 h2 W2
      exfalso; clear W1 W2 WX WM; (try simp only [g7_] at *); omega
    · intro d0 d1 d2 h2 W2
      exfalso; clear W1 W2 WX WM; (try simp only [g7_] at *); omega
    · intro d0 d1 d2 d3 h2 W2
      refine ⟨_, rfl, fun _ => rfl, ?_⟩
      refine ps_of (W1.mv (fun k hk => W2.lo hk)) W2 ?_ ?_ ?_ ?_ ?_ ?_
      · exact hR
      · exact hI
      · exact hP
      · exact him
      · exact hL
      · exact hT
    · intro d0 d1 d2 d3 h2 W2
      exfalso; clear W1 W2 WX WM; (try simp only [g7_] at *); omega
  · intro c0 c1 c2 c3 h1 W1
    refine ⟨_, rfl, (WM.mv (fun k hk => W1.hi hk)).c90, ?_⟩
    refine M_two ho ht hn hR.1  (WM.mv (fun k hk => W1.hi hk)) ?_ ?_ ?_ ?_ ?_
    · intro d0 h2 W2
      exfalso; clear W1 W2 WX WM; (try simp only [g7_] at *); omega
    · intro d0 d1 h2 W2
      exfalso; clear W1 W2 WX WM; (try simp only [g7_] at *); omega
    · intro d0 d1 d2 h2 W2
      exfalso; clear W1 W2 WX WM; (try simp only [g7_] at *); omega
    · intro d0 d1 d2 d3 h2 W2
      exfalso; clear W1 W2 WX WM; (try simp only [g7_] at *); omega
    · intro d0 d1 d2 d3 h2 W2
      refine ⟨_, rfl, fun _ => rfl, ?_⟩
      refine ps_of (W1.mv (fun k hk => W2.lo hk)) W2 ?_ ?_ ?_ ?_ ?_ ?_
      · exact hR
      · exact hI
      · exact hP
      · exact him
      · exact hL
      · exact hT
theorem pr_falls {fz : Prop} {h : AH} {n t v w : Int} (hn : inI n) (ht : inI t) (hv : inI v) (hw : inI w) (S : PS fz h) : Con M_X_falls [.ref 78, .int (zI n), .int (zI t), .int (zI v), .int (zI w)] h (PJ M_M_falls [.ref 90, .int (zI n), .int (zI t), .int (zI v), .int (zI w)] True) := by
  obtain ⟨R, I, im, P, pz, lt, lsz, tn, tsz, rf, ⟨hM, WX⟩, ⟨bb, WM⟩, hR, hI, hP, him, hL, hT, hfz⟩ := S
  have gp := WX.gp
  refine X_falls hn ht hv hw (WX.re (fun _ _ => rfl)) ?_ ?_ ?_ ?_
  · intro c0 h1 W1
    refine ⟨_, rfl, (WM.mv (fun k hk => W1.hi hk)).c90, ?_⟩
    refine M_falls hn ht hv hw hR.1  (WM.mv (fun k hk => W1.hi hk)) ?_ ?_ ?_ ?_
    · intro d0 h2 W2
      refine ⟨_, rfl, fun _ => rfl, ?_⟩
      refine ps_of (W1.mv (fun k hk => W2.lo hk)) W2 ?_ ?_ ?_ ?_ ?_ ?_
      · exact hR
      · exact hI
      · exact hP
      · exact him
      · exact hL
      · exact hT
    · intro d0 d1 h2 W2
      exfalso; clear W1 W2 WX WM; (try simp only [g7_] at *); omega
    · intro d0 d1 d2 h2 W2
      exfalso; clear W1 W2 WX WM; (try simp only [g7_] at *); omega
    · intro d0 d1 d2 h2 W2
      exfalso; clear W1 W2 WX WM; (try simp only [g7_] at *); omega
  · intro c0 c1 h1 W1
    refine ⟨_, rfl, (WM.mv (fun k hk => W1.hi hk)).c90, ?_⟩
    refine M_falls hn ht hv hw hR.1  (WM.mv (fun k hk => W1.hi hk)) ?_ ?_ ?_ ?_
    · intro d0 h2 W2
      exfalso; clear W1 W2 WX WM; (try simp only [g7_] at *); omega
    · intro d0 d1 h2 W2
      refine ⟨_, rfl, fun _ => rfl, ?_⟩
      refine ps_of (W1.mv (fun k hk => W2.lo hk)) W2 ?_ ?_ ?_ ?_ ?_ ?_
      · exact hR
      · exact hI
      · exact hP
      · exact him
      · exact hL
      · exact hT
    · intro d0 d1 d2 h2 W2
      exfalso; clear W1 W2 WX WM; (try simp only [g7_] at *); omega
    · intro d0 d1 d2 h2 W2
      exfalso; clear W1 W2 WX WM; (try simp only [g7_] at *); omega
  · intro c0 c1 c2 h1 W1
    refine ⟨_, rfl, (WM.mv (fun k hk => W1.hi hk)).c90, ?_⟩
    refine M_falls hn ht hv hw hR.1  (WM.mv (fun k hk => W1.hi hk)) ?_ ?_ ?_ ?_
    · intro d0 h2 W2
      exfalso; clear W1 W2 WX WM; (try simp only [g7_] at *); omega
    · intro d0 d1 h2 W2
      exfalso; clear W1 W2 WX WM; (try simp only [g7_] at *); omega
    · intro d0 d1 d2 h2 W2
      refine ⟨_, rfl, fun _ => rfl, ?_⟩
      refine ps_of (W1.mv (fun k hk => W2.lo hk)) W2 ?_ ?_ ?_ ?_ ?_ ?_
      · exact hR
      · exact hI
      · exact hP
      · exact him
      · exact hL
      · exact hT
    · intro d0 d1 d2 h2 W2
      exfalso; clear W1 W2 WX WM; (try simp only [g7_] at *); omega
  · intro c0 c1 c2 h1 W1
    refine ⟨_, rfl, (WM.mv (fun k hk => W1.hi hk)).c90, ?_⟩
    refine M_falls hn ht hv hw hR.1  (WM.mv (fun k hk => W1.hi hk)) ?_ ?_ ?_ ?_
    · intro d0 h2 W2
      exfalso; clear W1 W2 WX WM; (try simp only [g7_] at *); omega
    · intro d0 d1 h2 W2
      exfalso; clear W1 W2 WX WM; (try simp only [g7_] at *); omega
    · intro d0 d1 d2 h2 W2
      exfalso; clear W1 W2 WX WM; (try simp only [g7_] at *); omega
    · intro d0 d1 d2 h2 W2
      refine ⟨_, rfl, fun _ => rfl, ?_⟩
      refine ps_of (W1.mv (fun k hk => W2.lo hk)) W2 ?_ ?_ ?_ ?_ ?_ ?_
      · exact hR
      · exact hI
      · exact hP
      · exact him
      · exact hL
      · exact hT
theorem pr_shares {fz : Prop} {h : AH} {n w : Int} (hn : inI n) (hw : inI w) (S : PS fz h) : Con M_X_shares [.ref 78, .int (zI n), .int (zI w)] h (PI M_M_shares [.ref 90, .int (zI n), .int (zI w)] True) := by
  obtain ⟨R, I, im, P, pz, lt, lsz, tn, tsz, rf, ⟨hM, WX⟩, ⟨bb, WM⟩, hR, hI, hP, him, hL, hT, hfz⟩ := S
  have gp := WX.gp
  refine X_shares hn hw (WX.re (fun _ _ => rfl)) ?_ ?_ ?_ ?_
  · intro c0 h1 W1
    refine ⟨_, rfl, (WM.mv (fun k hk => W1.hi hk)).c90, ?_⟩
    refine M_shares hn hw hR.1  (WM.mv (fun k hk => W1.hi hk)) ?_ ?_ ?_ ?_
    · intro d0 h2 W2
      refine ⟨_, rfl, fun _ => rfl, ?_⟩
      refine ps_of (W1.mv (fun k hk => W2.lo hk)) W2 ?_ ?_ ?_ ?_ ?_ ?_
      · exact hR
      · exact hI
      · exact hP
      · exact him
      · exact hL
      · exact hT
    · intro d0 d1 h2 W2
      exfalso; clear W1 W2 WX WM; (try simp only [g7_] at *); omega
    · intro d0 d1 d2 h2 W2
      exfalso; clear W1 W2 WX WM; (try simp only [g7_] at *); omega
    · intro d0 d1 d2 h2 W2
      exfalso; clear W1 W2 WX WM; (try simp only [g7_] at *); omega
  · intro c0 c1 h1 W1
    refine ⟨_, rfl, (WM.mv (fun k hk => W1.hi hk)).c90, ?_⟩
    refine M_shares hn hw hR.1  (WM.mv (fun k hk => W1.hi hk)) ?_ ?_ ?_ ?_
    · intro d0 h2 W2
      exfalso; clear W1 W2 WX WM; (try simp only [g7_] at *); omega
    · intro d0 d1 h2 W2
      refine ⟨_, rfl, fun _ => rfl, ?_⟩
      refine ps_of (W1.mv (fun k hk => W2.lo hk)) W2 ?_ ?_ ?_ ?_ ?_ ?_
      · exact hR
      · exact hI
      · exact hP
      · exact him
      · exact hL
      · exact hT
    · intro d0 d1 d2 h2 W2
      exfalso; clear W1 W2 WX WM; (try simp only [g7_] at *); omega
    · intro d0 d1 d2 h2 W2
      exfalso; clear W1 W2 WX WM; (try simp only [g7_] at *); omega
  · intro c0 c1 c2 h1 W1
    refine ⟨_, rfl, (WM.mv (fun k hk => W1.hi hk)).c90, ?_⟩
    refine M_shares hn hw hR.1  (WM.mv (fun k hk => W1.hi hk)) ?_ ?_ ?_ ?_
    · intro d0 h2 W2
      exfalso; clear W1 W2 WX WM; (try simp only [g7_] at *); omega
    · intro d0 d1 h2 W2
      exfalso; clear W1 W2 WX WM; (try simp only [g7_] at *); omega
    · intro d0 d1 d2 h2 W2
      refine ⟨_, rfl, fun _ => rfl, ?_⟩
      refine ps_of (W1.mv (fun k hk => W2.lo hk)) W2 ?_ ?_ ?_ ?_ ?_ ?_
      · exact hR
      · exact hI
      · exact hP
      · exact him
      · exact hL
      · exact hT
    · intro d0 d1 d2 h2 W2
      exfalso; clear W1 W2 WX WM; (try simp only [g7_] at *); omega
  · intro c0 c1 c2 h1 W1
    refine ⟨_, rfl, (WM.mv (fun k hk => W1.hi hk)).c90, ?_⟩
    refine M_shares hn hw hR.1  (WM.mv (fun k hk => W1.hi hk)) ?_ ?_ ?_ ?_
    · intro d0 h2 W2
      exfalso; clear W1 W2 WX WM; (try simp only [g7_] at *); omega
    · intro d0 d1 h2 W2
      exfalso; clear W1 W2 WX WM; (try simp only [g7_] at *); omega
    · intro d0 d1 d2 h2 W2
      exfalso; clear W1 W2 WX WM; (try simp only [g7_] at *); omega
    · intro d0 d1 d2 h2 W2
      refine ⟨_, rfl, fun _ => rfl, ?_⟩
      refine ps_of (W1.mv (fun k hk => W2.lo hk)) W2 ?_ ?_ ?_ ?_ ?_ ?_
      · exact hR
      · exact hI
      · exact hP
      · exact him
      · exact hL
      · exact hT
theorem pr_strongest {fz : Prop} {h : AH} {w : Int} (hw : inI w) (S : PS fz h) : Con M_X_strongest [.ref 78, .int (zI w)] h (PI M_M_strongest [.ref 90, .int (zI w)] True) := by
  obtain ⟨R, I, im, P, pz, lt, lsz, tn, tsz, rf, ⟨hM, WX⟩, ⟨bb, WM⟩, hR, hI, hP, him, hL, hT, hfz⟩ := S
  have gp := WX.gp
  refine X_strongest hw (WX.re (fun _ _ => rfl)) ?_ ?_
  · intro c0 h1 W1
    refine ⟨_, rfl, (WM.mv (fun k hk => W1.hi hk)).c90, ?_⟩
    refine M_strongest hw hR.1  (WM.mv (fun k hk => W1.hi hk)) ?_ ?_
    · intro d0 h2 W2
      refine ⟨_, rfl, fun _ => rfl, ?_⟩
      refine ps_of (W1.mv (fun k hk => W2.lo hk)) W2 ?_ ?_ ?_ ?_ ?_ ?_
      · exact hR
      · exact hI
      · exact hP
      · exact him
      · exact hL
      · exact hT
    · intro d0 h2 W2
      exfalso; clear W1 W2 WX WM; (try simp only [g7_] at *); omega
  · intro c0 h1 W1
    refine ⟨_, rfl, (WM.mv (fun k hk => W1.hi hk)).c90, ?_⟩
    refine M_strongest hw hR.1  (WM.mv (fun k hk => W1.hi hk)) ?_ ?_
    · intro d0 h2 W2
      exfalso; clear W1 W2 WX WM; (try simp only [g7_] at *); omega
    · intro d0 h2 W2
      refine ⟨_, rfl, fun _ => rfl, ?_⟩
      refine ps_of (W1.mv (fun k hk => W2.lo hk)) W2 ?_ ?_ ?_ ?_ ?_ ?_
      · exact hR
      · exact hI
      · exact hP
      · exact him
      · exact hL
      · exact hT
theorem pr_mean {fz : Prop} {h : AH} {w : Int} (hw : inI w) (S : PS fz h) : Con M_X_mean [.ref 78, .int (zI w)] h (PJ M_M_mean [.ref 90, .int (zI w)] True) := by
  obtain ⟨R, I, im, P, pz, lt, lsz, tn, tsz, rf, ⟨hM, WX⟩, ⟨bb, WM⟩, hR, hI, hP, him, hL, hT, hfz⟩ := S
  have gp := WX.gp
  refine X_mean hw (WX.re (fun _ _ => rfl)) ?_ ?_
  · intro c0 h1 W1
    refine ⟨_, rfl, (WM.mv (fun k hk => W1.hi hk)).c90, ?_⟩
    refine M_mean hw hR.1  (WM.mv (fun k hk => W1.hi hk)) ?_ ?_
    · intro d0 h2 W2
      refine ⟨_, rfl, fun _ => rfl, ?_⟩
      refine ps_of (W1.mv (fun k hk => W2.lo hk)) W2 ?_ ?_ ?_ ?_ ?_ ?_
      · exact hR
      · exact hI
      · exact hP
      · exact him
      · exact hL
      · exact hT
    · intro d0 h2 W2
      exfalso; clear W1 W2 WX WM; (try simp only [g7_] at *); omega
  · intro c0 h1 W1
    refine ⟨_, rfl, (WM.mv (fun k hk => W1.hi hk)).c90, ?_⟩
    refine M_mean hw hR.1  (WM.mv (fun k hk => W1.hi hk)) ?_ ?_
    · intro d0 h2 W2
      exfalso; clear W1 W2 WX WM; (try simp only [g7_] at *); omega
    · intro d0 h2 W2
      refine ⟨_, rfl, fun _ => rfl, ?_⟩
      refine ps_of (W1.mv (fun k hk => W2.lo hk)) W2 ?_ ?_ ?_ ?_ ?_ ?_
      · exact hR
      · exact hI
      · exact hP
      · exact him
      · exact hL
      · exact hT
theorem pr_spare {fz : Prop} {h : AH} {m : Int} (hm : inI m) (S : PS fz h) : Con M_X_spare [.ref 78, .int (zI m)] h (PI M_M_spare [.ref 90, .int (zI m)] True) := by
  obtain ⟨R, I, im, P, pz, lt, lsz, tn, tsz, rf, ⟨hM, WX⟩, ⟨bb, WM⟩, hR, hI, hP, him, hL, hT, hfz⟩ := S
  have gp := WX.gp
  refine X_spare hm (WX.re (fun _ _ => rfl)) ?_ ?_
  · intro c0 h1 W1
    refine ⟨_, rfl, (WM.mv (fun k hk => W1.hi hk)).c90, ?_⟩
    refine M_spare hm hR.1  (WM.mv (fun k hk => W1.hi hk)) ?_ ?_
    · intro d0 h2 W2
      refine ⟨_, rfl, fun _ => rfl, ?_⟩
      refine ps_of (W1.mv (fun k hk => W2.lo hk)) W2 ?_ ?_ ?_ ?_ ?_ ?_
      · exact hR
      · exact hI
      · exact hP
      · exact him
      · exact hL
      · exact hT
    · intro d0 h2 W2
      exfalso; clear W1 W2 WX WM; (try simp only [g7_] at *); omega
  · intro c0 h1 W1
    refine ⟨_, rfl, (WM.mv (fun k hk => W1.hi hk)).c90, ?_⟩
    refine M_spare hm hR.1  (WM.mv (fun k hk => W1.hi hk)) ?_ ?_
    · intro d0 h2 W2
      exfalso; clear W1 W2 WX WM; (try simp only [g7_] at *); omega
    · intro d0 h2 W2
      refine ⟨_, rfl, fun _ => rfl, ?_⟩
      refine ps_of (W1.mv (fun k hk => W2.lo hk)) W2 ?_ ?_ ?_ ?_ ?_ ?_
      · exact hR
      · exact hI
      · exact hP
      · exact him
      · exact hL
      · exact hT
theorem pr_height {fz : Prop} {h : AH} {w : Int} (hw : inI w) (S : PS fz h) : Con M_X_height [.ref 78, .int (zI w)] h (PI M_M_height [.ref 90, .int (zI w)] True) := by
  obtain ⟨R, I, im, P, pz, lt, lsz, tn, tsz, rf, ⟨hM, WX⟩, ⟨bb, WM⟩, hR, hI, hP, him, hL, hT, hfz⟩ := S
  have gp := WX.gp
  refine X_height hw (WX.re (fun _ _ => rfl)) ?_ ?_
  · intro c0 h1 W1
    refine ⟨_, rfl, (WM.mv (fun k hk => W1.hi hk)).c90, ?_⟩
    refine M_height hw hR.1  (WM.mv (fun k hk => W1.hi hk)) ?_ ?_
    · intro d0 h2 W2
      refine ⟨_, rfl, fun _ => rfl, ?_⟩
      refine ps_of (W1.mv (fun k hk => W2.lo hk)) W2 ?_ ?_ ?_ ?_ ?_ ?_
      · exact hR
      · exact hI
      · exact hP
      · exact him
      · exact hL
      · exact hT
    · intro d0 h2 W2
      exfalso; clear W1 W2 WX WM; (try simp only [g7_] at *); omega
  · intro c0 h1 W1
    refine ⟨_, rfl, (WM.mv (fun k hk => W1.hi hk)).c90, ?_⟩
    refine M_height hw hR.1  (WM.mv (fun k hk => W1.hi hk)) ?_ ?_
    · intro d0 h2 W2
      exfalso; clear W1 W2 WX WM; (try simp only [g7_] at *); omega
    · intro d0 h2 W2
      refine ⟨_, rfl, fun _ => rfl, ?_⟩
      refine ps_of (W1.mv (fun k hk => W2.lo hk)) W2 ?_ ?_ ?_ ?_ ?_ ?_
      · exact hR
      · exact hI
      · exact hP
      · exact him
      · exact hL
      · exact hT
theorem pr_eased {fz : Prop} {h : AH} {n : Int} (hn : inI n) (S : PS fz h) : Con M_X_eased [.ref 78, .int (zI n)] h (PI M_M_eased [.ref 90, .int (zI n)] True) := by
  obtain ⟨R, I, im, P, pz, lt, lsz, tn, tsz, rf, ⟨hM, WX⟩, ⟨bb, WM⟩, hR, hI, hP, him, hL, hT, hfz⟩ := S
  have gp := WX.gp
  refine X_eased hn (WX.re (fun _ _ => rfl)) ?_ ?_ ?_
  · intro c0 h1 W1
    refine ⟨_, rfl, (WM.mv (fun k hk => W1.hi hk)).c90, ?_⟩
    refine M_eased hn hR.1  (WM.mv (fun k hk => W1.hi hk)) ?_ ?_ ?_
    · intro d0 h2 W2
      refine ⟨_, rfl, fun _ => rfl, ?_⟩
      refine ps_of (W1.mv (fun k hk => W2.lo hk)) W2 ?_ ?_ ?_ ?_ ?_ ?_
      · exact hR
      · exact hI
      · exact hP
      · exact him
      · exact hL
      · exact hT
    · intro d0 d1 h2 W2
      exfalso; clear W1 W2 WX WM; (try simp only [g7_] at *); omega
    · intro d0 d1 h2 W2
      exfalso; clear W1 W2 WX WM; (try simp only [g7_] at *); omega
  · intro c0 c1 h1 W1
    refine ⟨_, rfl, (WM.mv (fun k hk => W1.hi hk)).c90, ?_⟩
    refine M_eased hn hR.1  (WM.mv (fun k hk => W1.hi hk)) ?_ ?_ ?_
    · intro d0 h2 W2
      exfalso; clear W1 W2 WX WM; (try simp only [g7_] at *); omega
    · intro d0 d1 h2 W2
      refine ⟨_, rfl, fun _ => rfl, ?_⟩
      refine ps_of (W1.mv (fun k hk => W2.lo hk)) W2 ?_ ?_ ?_ ?_ ?_ ?_
      · exact hR
      · exact hI
      · exact hP
      · exact him
      · exact hL
      · exact hT
    · intro d0 d1 h2 W2
      exfalso; clear W1 W2 WX WM; (try simp only [g7_] at *); omega
  · intro c0 c1 h1 W1
    refine ⟨_, rfl, (WM.mv (fun k hk => W1.hi hk)).c90, ?_⟩
    refine M_eased hn hR.1  (WM.mv (fun k hk => W1.hi hk)) ?_ ?_ ?_
    · intro d0 h2 W2
      exfalso; clear W1 W2 WX WM; (try simp only [g7_] at *); omega
    · intro d0 d1 h2 W2
      exfalso; clear W1 W2 WX WM; (try simp only [g7_] at *); omega
    · intro d0 d1 h2 W2
      refine ⟨_, rfl, fun _ => rfl, ?_⟩
      refine ps_of (W1.mv (fun k hk => W2.lo hk)) W2 ?_ ?_ ?_ ?_ ?_ ?_
      · exact hR
      · exact hI
      · exact hP
      · exact him
      · exact hL
      · exact hT
theorem pr_shoulders {fz : Prop} {h : AH} {k : Int} (hk : inI k) (S : PS fz h) : Con M_X_shoulders [.ref 78, .int (zI k)] h (PI M_M_shoulders [.ref 90, .int (zI k)] True) := by
  obtain ⟨R, I, im, P, pz, lt, lsz, tn, tsz, rf, ⟨hM, WX⟩, ⟨bb, WM⟩, hR, hI, hP, him, hL, hT, hfz⟩ := S
  have gp := WX.gp
  refine X_shoulders hk (WX.re (fun _ _ => rfl)) ?_ ?_
  · intro c0 h1 W1
    refine ⟨_, rfl, (WM.mv (fun k hk => W1.hi hk)).c90, ?_⟩
    refine M_shoulders hk hR.1  (WM.mv (fun k hk => W1.hi hk)) ?_ ?_
    · intro d0 h2 W2
      refine ⟨_, rfl, fun _ => rfl, ?_⟩
      refine ps_of (W1.mv (fun k hk => W2.lo hk)) W2 ?_ ?_ ?_ ?_ ?_ ?_
      · exact hR
      · exact hI
      · exact hP
      · exact him
      · exact hL
      · exact hT
    · intro d0 h2 W2
      exfalso; clear W1 W2 WX WM; (try simp only [g7_] at *); omega
  · intro c0 h1 W1
    refine ⟨_, rfl, (WM.mv (fun k hk => W1.hi hk)).c90, ?_⟩
    refine M_shoulders hk hR.1  (WM.mv (fun k hk => W1.hi hk)) ?_ ?_
    · intro d0 h2 W2
      exfalso; clear W1 W2 WX WM; (try simp only [g7_] at *); omega
    · intro d0 h2 W2
      refine ⟨_, rfl, fun _ => rfl, ?_⟩
      refine ps_of (W1.mv (fun k hk => W2.lo hk)) W2 ?_ ?_ ?_ ?_ ?_ ?_
      · exact hR
      · exact hI
      · exact hP
      · exact him
      · exact hL
      · exact hT
theorem pr_row {fz : Prop} {h : AH} {v : Int} (hv : inI v) (S : PS fz h) : Con M_X_row [.ref 78, .int (zI v)] h (PI M_M_row [.ref 90, .int (zI v)] True) := by
  obtain ⟨R, I, im, P, pz, lt, lsz, tn, tsz, rf, ⟨hM, WX⟩, ⟨bb, WM⟩, hR, hI, hP, him, hL, hT, hfz⟩ := S
  have gp := WX.gp
  refine X_row hv hT (WX.re (fun _ _ => rfl)) ?_ ?_ ?_
  · intro c0 h1 W1
    refine ⟨_, rfl, (WM.mv (fun k hk => W1.hi hk)).c90, ?_⟩
    refine M_row hv hT hR.1  (WM.mv (fun k hk => W1.hi hk)) ?_ ?_ ?_
    · intro d0 h2 W2
      refine ⟨_, rfl, fun _ => rfl, ?_⟩
      refine ps_of (W1.mv (fun k hk => W2.lo hk)) W2 ?_ ?_ ?_ ?_ ?_ ?_
      · exact hR
      · exact hI
      · exact hP
      · exact him
      · exact hL
      · exact hT
    · intro d0 d1 h2 W2
      exfalso; clear W1 W2 WX WM; (try simp only [g7_] at *); omega
    · intro d0 d1 d2 h2 W2
      exfalso; clear W1 W2 WX WM; (try simp only [g7_] at *); omega
  · intro c0 c1 h1 W1
    refine ⟨_, rfl, (WM.mv (fun k hk => W1.hi hk)).c90, ?_⟩
    refine M_row hv hT hR.1  (WM.mv (fun k hk => W1.hi hk)) ?_ ?_ ?_
    · intro d0 h2 W2
      exfalso; clear W1 W2 WX WM; (try simp only [g7_] at *); omega
    · intro d0 d1 h2 W2
      refine ⟨_, rfl, fun _ => rfl, ?_⟩
      refine ps_of (W1.mv (fun k hk => W2.lo hk)) W2 ?_ ?_ ?_ ?_ ?_ ?_
      · exact hR
      · exact hI
      · exact hP
      · exact him
      · exact hL
      · exact hT
    · intro d0 d1 d2 h2 W2
      exfalso; clear W1 W2 WX WM; (try simp only [g7_] at *); omega
  · intro c0 c1 c2 h1 W1
    refine ⟨_, rfl, (WM.mv (fun k hk => W1.hi hk)).c90, ?_⟩
    refine M_row hv hT hR.1  (WM.mv (fun k hk => W1.hi hk)) ?_ ?_ ?_
    · intro d0 h2 W2
      exfalso; clear W1 W2 WX WM; (try simp only [g7_] at *); omega
    · intro d0 d1 h2 W2
      exfalso; clear W1 W2 WX WM; (try simp only [g7_] at *); omega
    · intro d0 d1 d2 h2 W2
      refine ⟨_, rfl, fun _ => rfl, ?_⟩
      refine ps_of (W1.mv (fun k hk => W2.lo hk)) W2 ?_ ?_ ?_ ?_ ?_ ?_
      · exact hR
      · exact hI
      · exact hP
      · exact him
      · exact hL
      · exact gt_row hT (by omega) (by omega) (by omega)
theorem pr_judge {fz : Prop} {h : AH}  (S : PS fz h) : Con M_X_judge [.ref 78] h (PI M_M_judge [.ref 90] True) := by
  obtain ⟨R, I, im, P, pz, lt, lsz, tn, tsz, rf, ⟨hM, WX⟩, ⟨bb, WM⟩, hR, hI, hP, him, hL, hT, hfz⟩ := S
  have gp := WX.gp
  refine X_judge hT (WX.re (fun _ _ => rfl)) ?_
  · intro  h1 W1
    refine ⟨_, rfl, (WM.mv (fun k hk => W1.hi hk)).c90, ?_⟩
    refine M_judge hT hR.1  (WM.mv (fun k hk => W1.hi hk)) ?_
    · intro  h2 W2
      refine ⟨_, rfl, fun _ => rfl, ?_⟩
      refine ps_of (W1.mv (fun k hk => W2.lo hk)) W2 ?_ ?_ ?_ ?_ ?_ ?_
      · exact hR
      · exact hI
      · exact hP
      · exact him
      · exact hL
      · exact ⟨by omega, hT.2⟩
theorem pr_clear {fz : Prop} {h : AH}  (S : PS fz h) : Con M_X_clear [.ref 78] h (PI M_M_clear [.ref 90] True) := by
  obtain ⟨R, I, im, P, pz, lt, lsz, tn, tsz, rf, ⟨hM, WX⟩, ⟨bb, WM⟩, hR, hI, hP, him, hL, hT, hfz⟩ := S
  have gp := WX.gp
  refine X_clear  (WX.re (fun _ _ => rfl)) ?_
  · intro  h1 W1
    refine ⟨_, rfl, (WM.mv (fun k hk => W1.hi hk)).c90, ?_⟩
    refine M_clear  hR.1  (WM.mv (fun k hk => W1.hi hk)) ?_
    · intro  h2 W2
      refine ⟨_, rfl, fun _ => rfl, ?_⟩
      refine ps_of (W1.mv (fun k hk => W2.lo hk)) W2 ?_ ?_ ?_ ?_ ?_ ?_
      · exact hR
      · exact hI
      · exact hP
      · exact him
      · exact hL
      · exact ⟨by omega, hT.2⟩
theorem pr_lots {fz : Prop} {h : AH} {n z w : Int} (hn : inI n) (hz : inI z) (hw : inI w) (S : PS fz h) : Con M_X_lots [.ref 78, .int (zI n), .int (zI z), .int (zI w)] h (PI M_M_lots [.ref 90, .int (zI n), .int (zI z), .int (zI w)] True) := by
  obtain ⟨R, I, im, P, pz, lt, lsz, tn, tsz, rf, ⟨hM, WX⟩, ⟨bb, WM⟩, hR, hI, hP, him, hL, hT, hfz⟩ := S
  have gp := WX.gp
  refine X_lots hn hz hw (WX.re (fun _ _ => rfl)) ?_ ?_ ?_ ?_
  · intro c0 h1 W1
    refine ⟨_, rfl, (WM.mv (fun k hk => W1.hi hk)).c90, ?_⟩
    refine M_lots hn hz hw hR.1  (WM.mv (fun k hk => W1.hi hk)) ?_ ?_ ?_ ?_
    · intro d0 h2 W2
      refine ⟨_, rfl, fun _ => rfl, ?_⟩
      refine ps_of (W1.mv (fun k hk => W2.lo hk)) W2 ?_ ?_ ?_ ?_ ?_ ?_
      · exact hR
      · exact hI
      · exact hP
      · exact him
      · exact hL
      · exact hT
    · intro d0 d1 h2 W2
      exfalso; clear W1 W2 WX WM; (try simp only [g7_] at *); omega
    · intro d0 d1 d2 h2 W2
      exfalso; clear W1 W2 WX WM; (try simp only [g7_] at *); omega
    · intro d0 d1 d2 h2 W2
      exfalso; clear W1 W2 WX WM; (try simp only [g7_] at *); omega
  · intro c0 c1 h1 W1
    refine ⟨_, rfl, (WM.mv (fun k hk => W1.hi hk)).c90, ?_⟩
    refine M_lots hn hz hw hR.1  (WM.mv (fun k hk => W1.hi hk)) ?_ ?_ ?_ ?_
    · intro d0 h2 W2
      exfalso; clear W1 W2 WX WM; (try simp only [g7_] at *); omega
    · intro d0 d1 h2 W2
      refine ⟨_, rfl, fun _ => rfl, ?_⟩
      refine ps_of (W1.mv (fun k hk => W2.lo hk)) W2 ?_ ?_ ?_ ?_ ?_ ?_
      · exact hR
      · exact hI
      · exact hP
      · exact him
      · exact hL
      · exact hT
    · intro d0 d1 d2 h2 W2
      exfalso; clear W1 W2 WX WM; (try simp only [g7_] at *); omega
    · intro d0 d1 d2 h2 W2
      exfalso; clear W1 W2 WX WM; (try simp only [g7_] at *); omega
  · intro c0 c1 c2 h1 W1
    refine ⟨_, rfl, (WM.mv (fun k hk => W1.hi hk)).c90, ?_⟩
    refine M_lots hn hz hw hR.1  (WM.mv (fun k hk => W1.hi hk)) ?_ ?_ ?_ ?_
    · intro d0 h2 W2
      exfalso; clear W1 W2 WX WM; (try simp only [g7_] at *); omega
    · intro d0 d1 h2 W2
      exfalso; clear W1 W2 WX WM; (try simp only [g7_] at *); omega
    · intro d0 d1 d2 h2 W2
      refine ⟨_, rfl, fun _ => rfl, ?_⟩
      refine ps_of (W1.mv (fun k hk => W2.lo hk)) W2 ?_ ?_ ?_ ?_ ?_ ?_
      · exact hR
      · exact hI
      · exact hP
      · exact him
      · exact hL
      · exact hT
    · intro d0 d1 d2 h2 W2
      exfalso; clear W1 W2 WX WM; (try simp only [g7_] at *); omega
  · intro c0 c1 c2 h1 W1
    refine ⟨_, rfl, (WM.mv (fun k hk => W1.hi hk)).c90, ?_⟩
    refine M_lots hn hz hw hR.1  (WM.mv (fun k hk => W1.hi hk)) ?_ ?_ ?_ ?_
    · intro d0 h2 W2
      exfalso; clear W1 W2 WX WM; (try simp only [g7_] at *); omega
    · intro d0 d1 h2 W2
      exfalso; clear W1 W2 WX WM; (try simp only [g7_] at *); omega
    · intro d0 d1 d2 h2 W2
      exfalso; clear W1 W2 WX WM; (try simp only [g7_] at *); omega
    · intro d0 d1 d2 h2 W2
      refine ⟨_, rfl, fun _ => rfl, ?_⟩
      refine ps_of (W1.mv (fun k hk => W2.lo hk)) W2 ?_ ?_ ?_ ?_ ?_ ?_
      · exact hR
      · exact hI
      · exact hP
      · exact him
      · exact hL
      · exact hT
theorem pr_image {fz : Prop} {h : AH}  (S : PS fz h) : Con M_X_image [.ref 78] h (PI M_M_image [.ref 90] True) := by
  obtain ⟨R, I, im, P, pz, lt, lsz, tn, tsz, rf, ⟨hM, WX⟩, ⟨bb, WM⟩, hR, hI, hP, him, hL, hT, hfz⟩ := S
  have gp := WX.gp
  refine X_image  (WX.re (fun _ _ => rfl)) ?_
  · intro  h1 W1
    refine ⟨_, rfl, (WM.mv (fun k hk => W1.hi hk)).c90, ?_⟩
    refine M_image  hR.1  (WM.mv (fun k hk => W1.hi hk)) ?_
    · intro  h2 W2
      refine ⟨_, rfl, fun _ => rfl, ?_⟩
      refine ps_of (W1.mv (fun k hk => W2.lo hk)) W2 ?_ ?_ ?_ ?_ ?_ ?_
      · exact hR
      · exact hR
      · exact hP
      · exact Or.inr rfl
      · exact hL
      · exact hT
theorem pr_restore {fz : Prop} {h : AH}  (S : PS fz h) : Con M_X_restore [.ref 78] h (PI M_M_restore [.ref 90] True) := by
  obtain ⟨R, I, im, P, pz, lt, lsz, tn, tsz, rf, ⟨hM, WX⟩, ⟨bb, WM⟩, hR, hI, hP, him, hL, hT, hfz⟩ := S
  have gp := WX.gp
  refine X_restore him (WX.re (fun _ _ => rfl)) ?_ ?_
  · intro c0 h1 W1
    refine ⟨_, rfl, (WM.mv (fun k hk => W1.hi hk)).c90, ?_⟩
    refine M_restore him hR.1 hI.1 (WM.mv (fun k hk => W1.hi hk)) ?_ ?_
    · intro d0 h2 W2
      refine ⟨_, rfl, fun _ => rfl, ?_⟩
      refine ps_of (W1.mv (fun k hk => W2.lo hk)) W2 ?_ ?_ ?_ ?_ ?_ ?_
      · exact hR
      · exact hI
      · exact hP
      · exact him
      · exact hL
      · exact hT
    · intro d0 h2 W2
      exfalso; clear W1 W2 WX WM; (try simp only [g7_] at *); omega
  · intro c0 h1 W1
    refine ⟨_, rfl, (WM.mv (fun k hk => W1.hi hk)).c90, ?_⟩
    refine M_restore him hR.1 hI.1 (WM.mv (fun k hk => W1.hi hk)) ?_ ?_
    · intro d0 h2 W2
      exfalso; clear W1 W2 WX WM; (try simp only [g7_] at *); omega
    · intro d0 h2 W2
      refine ⟨_, rfl, fun _ => rfl, ?_⟩
      refine ps_of (W1.mv (fun k hk => W2.lo hk)) W2 ?_ ?_ ?_ ?_ ?_ ?_
      · exact hI
      · exact hI
      · exact fun i hi => absurd hi (by omega)
      · exact him
      · exact hL
      · exact hT
theorem pr_count {fz : Prop} {h : AH} {w : Int} (hw : inI w) (S : PS fz h) : Con M_X_count [.ref 78, .int (zI w)] h (PI M_M_count [.ref 90, .int (zI w)] True) := by
  obtain ⟨R, I, im, P, pz, lt, lsz, tn, tsz, rf, ⟨hM, WX⟩, ⟨bb, WM⟩, hR, hI, hP, him, hL, hT, hfz⟩ := S
  have gp := WX.gp
  refine X_count hw (WX.re (fun _ _ => rfl)) ?_
  · intro  h1 W1
    refine ⟨_, rfl, (WM.mv (fun k hk => W1.hi hk)).c90, ?_⟩
    refine M_count hw hR.1  (WM.mv (fun k hk => W1.hi hk)) ?_
    · intro  h2 W2
      refine ⟨_, rfl, fun _ => rfl, ?_⟩
      refine ps_of (W1.mv (fun k hk => W2.lo hk)) W2 ?_ ?_ ?_ ?_ ?_ ?_
      · exact hR
      · exact hI
      · exact hP
      · exact him
      · exact hL
      · exact hT
end
/-! lawkit -/
section
/-! THE CLAIM OUT OF ONE WALK OF THE LAW'S BODY. Your part is whole_start (and what it stands on); all else here is the same for every law, but numbers. -/
def R_law : String := "CarriedHomeLaw"
def lw_P (b : Addr) (xs : List Int32) (args : Array Value) (s : State) : Prop := args = #[.ref b] ∧ s.IntsAt b xs ∧ xs.length ≤ 2560 ∧ (Jvm.Cond.and given_1 narrow_1).before args s = true
def lw_Q (_ : Array Value) (s : State) (o : Outcome) (t : State) : Prop := o = .returned (some (.int 1)) ∧ Framed s o t [] 600000 7302250
def lw_Z (below : List Frame) (a : Array Value) (s : State) : State → Prop := fun t => ∃ o, t.status = .running ∧ Ended t below o ∧ lw_Q a s o t
/-- the law's own end, with 1 on the stack, nothing written that was there before, its room as the claim has it -/
theorem lw_ret {p : Program} {l : Launch} {e : Env} {s : State} {m : MethodId} {below : List Frame} {meth : Method} {c : Code} {b : Nat} (hx : p.tables.exec = Jvm.exec) (hb : c.code = code) (hr : meth.sig.returnType = ret) (hlocks : meth.locks = false) {pc : Nat} {H : Heap} {ls : Array Slot} (hdg : decode code pc = .ok (.ireturn, 1)) : W p l e room_1 s m #[Value.ref b] below meth c H [] 600000 7302250 (lw_Z below #[Value.ref b] s) (F0 m pc ls [.int 1]) := by
  intro T hT X
  obtain ⟨fs, hret, hrun, hended, hW, hframe⟩ := X.leave (v := some (.int 1)) (hlocks := hlocks) (fun h => by rw [hr] at h; cases h)
  have hmeth' : T.vm.method? m = some meth := X.method'
  refine ⟨T.setFrames fs, ?_, .returned (some (.int 1)), hrun, hended, rfl, ⟨_, rfl⟩, hW, hframe⟩
  jvm_step X.here [X.here.top, hx, hb, hdg, hmeth', hr, ret, narrow_b1]
  (try refine ⟨rfl, ?_⟩); (try refine ⟨rfl, ?_⟩)
  first | (intro acts; rw [hret _ acts rfl rfl rfl]) | rw [hret _ _ rfl rfl rfl]
  exact Steps.refl _
/-- what holds at the law's entry: the machine, the code, the tables' words (any of lw_tbl by 'hts w (by decide +kernel)'), the script of L ints xs at the cell b, what the Statement gives of the start (any of its parts by flat_of_before) -/
def lw_At (p : Program) (s : State) (m : MethodId) (meth : Method) (c : Code) (b L : Nat) (xs : Nat → Int32) : Prop :=
  p.tables.exec = Jvm.exec ∧ c.code = code ∧ meth.sig.returnType = ret ∧ c.maxLocals = 4 ∧ s.vm.findClass R_law = some m.cls ∧ (∀ w ∈ lw_tbl, w.before #[Value.ref b] s = true) ∧ va_X b L xs s s.heap ∧ b < s.heap.size ∧ meth.locks = false ∧ (Jvm.Cond.and given_1 narrow_1).before #[Value.ref b] s = true
def NN : Nat := 2560
theorem NN_le : NN ≤ 2560 := Nat.le_of_ble_eq_true rfl
def LF (p : Program) (l : Launch) (e : Env) (s : State) (m : MethodId) (below : List Frame) (meth : Method) (c : Code) (b L : Nat) (xs : Nat → Int32) (G : va_G) (cI cR : ClassId) : Prop :=
  lw_At p s m meth c b L xs ∧ va_K G vwCl (tyz cI cR) s ∧ NW s ∧ L ≤ NN ∧ l = l ∧ e = e ∧ below = below
theorem tnL {i : Nat} (h : i < 100000) : (zI (i : Int)).toNatClampNeg = i := by
  show (zI (i : Int)).toInt.toNat = i
  rw [an_ (by omega) (by omega), Int.toNat_natCast]
theorem vp_inL {i n : Nat} (h : i < n) (hn : n ≤ 2560) : vp_in (zI (i : Int)) n := by
  intro q
  rcases q with q | q
  · rw [Int32.lt_iff_toInt_lt, an_ (by omega) (by omega)] at q
    have : (0 : Int32).toInt = 0 := rfl
    omega
  · rw [tnL (by omega)] at q
    omega
theorem inI_x (x : Int32) : inI x.toInt := zI_rng x
section LAWK
variable {p : Program} {l : Launch} {e : Env} {s : State} {m : MethodId} {below : List Frame} {meth : Method} {c : Code} {b L : Nat} {xs : Nat → Int32} {G : va_G} {cI cR : ClassId} {σ : Nat → Nat}
/-- in the law's own body: the script, class, reference and count in the locals, the world by its numbers -/
def LJ (_ : LF p l e s m below meth c b L xs G cI cR) (σ : Nat → Nat) (n pc : Nat) (st : List Value) (h : AH) : Prop :=
  ∀ (H : Heap) (locs : List Loc) (ls : Array Slot), va_P G vwCl (wd cI cR σ 107 h) H → va_D (fun q => s.heap.size ≤ q) (wd cI cR σ 107 h) → va_S (fun q => s.heap.size ≤ q) s.heap H locs → hB 107 h → lv_has ls 4 [(0, .ref b), (1, .ref (σ 78)), (2, .ref (σ 90)), (3, .int (zI (n : Int)))] →
    W p l e room_1 s m #[Value.ref b] below meth c H locs 600000 7302250 (lw_Z below #[Value.ref b] s) (F0 m pc ls st)
variable {F : LF p l e s m below meth c b L xs G cI cR} {n pc : Nat} {st : List Value} {h : AH}
theorem lj_st {st' : List Value} (hs : st = st') (K : LJ F σ n pc st' h) : LJ F σ n pc st h := by
  subst hs
  exact K
theorem lj_s (hd : decode code pc = .ok (.aload_n 0, 1)) (K : LJ F σ n (pc + 1) (.ref b :: st) h) : LJ F σ n pc st h := by
  intro H locs ls hP hD hS hB E
  exact lv_aload_n F.1.1 F.1.2.1 hd rfl (lv_at E 0 rfl) (K H locs ls hP hD hS hB E)
theorem lj_x (hd : decode code pc = .ok (.aload_n 1, 1)) (K : LJ F σ n (pc + 1) (.ref (σ 78) :: st) h) : LJ F σ n pc st h := by
  intro H locs ls hP hD hS hB E
  exact lv_aload_n F.1.1 F.1.2.1 hd rfl (lv_at E 1 rfl) (K H locs ls hP hD hS hB E)
theorem lj_m (hd : decode code pc = .ok (.aload_n 2, 1)) (K : LJ F σ n (pc + 1) (.ref (σ 90) :: st) h) : LJ F σ n pc st h := by
  intro H locs ls hP hD hS hB E
  exact lv_aload_n F.1.1 F.1.2.1 hd rfl (lv_at E 2 rfl) (K H locs ls hP hD hS hB E)
theorem lj_i (hd : decode code pc = .ok (.iload_n 3, 1)) (K : LJ F σ n (pc + 1) (.int (zI (n : Int)) :: st) h) : LJ F σ n pc st h := by
  intro H locs ls hP hD hS hB E
  exact lv_iload_n F.1.1 F.1.2.1 hd rfl (lv_at E 3 rfl) (K H locs ls hP hD hS hB E)
theorem lj_ld {i : Nat} (hi : i < L) (hd : decode code pc = .ok (.iaload, 1)) (K : LJ F σ n (pc + 1) (.int (zI (xs i).toInt) :: st) h) : LJ F σ n pc (.int (zI (i : Int)) :: .ref b :: st) h := by
  intro H locs ls hP hD hS hB E
  have hL := F.2.2.2.1
  have hN := NN_le
  refine va_sld F.1.1 F.1.2.1 F.1.2.2.2.2.2.2.1 F.1.2.2.2.2.2.2.2.1 (Nat.not_le.mpr F.1.2.2.2.2.2.2.2.1) hS (vp_inL hi (by omega)) hd ?_
  rw [tnL (by omega), ← zI_of (xs i)]
  exact K H locs ls hP hD hS hB E
theorem lj_add {x y : Int} (hd : decode code pc = .ok (.iadd, 1)) (K : LJ F σ n (pc + 1) (.int (zI (x + y)) :: st) h) : LJ F σ n pc (.int (zI y) :: .int (zI x) :: st) h := by
  intro H locs ls hP hD hS hB E
  refine lv_iadd F.1.1 F.1.2.1 hd ?_
  rw [cf_]
  exact K H locs ls hP hD hS hB E
theorem lj_cn {k : Int} (hd : decode code pc = .ok (.iconst k, 1)) (K : LJ F σ n (pc + 1) (.int (zI k) :: st) h) : LJ F σ n pc st h := by
  intro H locs ls hP hD hS hB E
  exact lv_iconst F.1.1 F.1.2.1 hd rfl (K H locs ls hP hD hS hB E)
/-- one of the script's ints, as an argument -/
theorem lj_arg (k : Nat) (hk : n + k < L) (h0 : decode code pc = .ok (.aload_n 0, 1)) (h1 : decode code (pc + 1) = .ok (.iload_n 3, 1)) (h2 : decode code (pc + 2) = .ok (.iconst (k : Int), 1)) (h3 : decode code (pc + 3) = .ok (.iadd, 1)) (h4 : decode code (pc + 4) = .ok (.iaload, 1)) (K : LJ F σ n (pc + 5) (.int (zI (xs (n + k)).toInt) :: st) h) : LJ F σ n pc st h := by
  refine lj_s h0 (lj_i h1 (lj_cn h2 (lj_add h3 ?_)))
  rw [show (n : Int) + (k : Int) = ((n + k : Nat) : Int) by omega]
  exact lj_ld hk h4 K
/-- a call of the class or of the reference -/
theorem lj_call {Y : MD} {idx r : Nat} {bs : List Value} {fs : List Value} {rest : List Value} {Q1 : Option Value → AH → Prop} (hY : okM Y) (hpar : bs.length = mN Y) (hl : (.methodLink R_law idx (mY Y) : Cond) ∈ WT) (hi : (.instanceMethod (mY Y) : Cond) ∈ WT) (hs : (.selects (mY Y).cls (mY Y) (mY Y) : Cond) ∈ WT) (hdep : mD Y ≤ 8) (hr : h r = some (.inr (.inr (mO Y, fs)))) (hcat : (rest.map fun v => v.category).sum ≤ 8) (con : Con Y (.ref r :: bs) h Q1) (hd : decode code pc = .ok (.invokevirtual idx, 3))
    (K : ∀ v h', Q1 v h' → LJ F σ n (pc + 3) ((v.map (cv σ)).toList ++ rest) h') : LJ F σ n pc ((bs.map (cv σ)).reverse ++ .ref (σ r) :: rest) h := by
  intro H locs ls hP hD hS hB E
  obtain ⟨g1, g2, g3, g4, g5, g6, g7⟩ := okM_sp hY
  obtain ⟨x1, x2, x3, x4, x5, x6, x7, x8, x9, x10⟩ := id F.1
  have hK := F.2.1
  have hNW := F.2.2.1
  have hw : ∀ w ∈ WT, w.before #[Value.ref b] s = true := fun w q => x6 w (WT_lw q)
  have hA : ∀ q : Nat, s.heap.size ≤ q → (fun q : Nat => s.heap.size ≤ q) q := fun _ h => h
  have hG : GoodIn WT (wsV R_law idx (mY Y).cls (mY Y) (wsM Y)) := by
    refine goodApp (a := [.methodLink R_law idx (mY Y), .instanceMethod (mY Y), .selects (mY Y).cls (mY Y) (mY Y), .initialized (mY Y).cls]) ?_ ?_
    · intro w hw
      apply WT_good
      simp only [List.mem_cons, List.not_mem_nil, or_false] at hw
      rcases hw with rfl | rfl | rfl | rfl
      · exact hl
      · exact hi
      · exact hs
      · exact g2
    · intro w hw
      rcases List.mem_cons.mp hw with rfl | hw
      · exact WT_good _ g1
      · exact WT_good _ hw
  have cw : CallW room_1 s #[Value.ref b] R_law (mY Y).cls idx (mY Y) (mB Y) (mL Y) (mR Y) (wsM Y) (rmd (mD Y)) 0 0 (mN Y) := cwV (mN Y) hw hG rfl rfl rfl ⟨rfl, g5.1, g5.2, g6⟩ ⟨by show mD Y + 1 ≤ 10; omega, by show 8 + (mL Y + 11) + 40 * mD Y ≤ 364; omega⟩
  have hwd := wd_get (cI := cI) (cR := cR) (σ := σ) hB hr
  obtain ⟨q, hq, -⟩ := hP r _ hwd
  have hrecv := va_recv hK hP (ci := mO Y) (q0 := r) hq hwd
  rw [vw_cnm hq, ← g4] at hrecv
  have run := va_runV (As := bs.map (cv σ)) (rest := rest) (locs := locs) (cells := 600000) (slots := 7302250) (e := e) (g := F0 m pc ls ((bs.map (cv σ)).reverse ++ .ref (σ r) :: rest)) (below := below) (meth := meth) ⟨x1, x2, x4, x5, hw⟩ (con l G cI cR σ 107 H.size hB) cw ⟨preC1_blind, hrecv, fun U hU hW => ⟨rfl, by rw [hU], by rw [hU]; exact hP, va_K.moved hW.alike hK, hD.weaken (fun _ _ _ _ => trivial), NW.warm hW hNW⟩⟩ rfl (by rw [List.length_map, hpar]) E.1 rfl (lv_room hcat) hd ⟨Nat.le_of_ble_eq_true rfl, Nat.le_of_ble_eq_true rfl⟩
  intro T hT X
  obtain ⟨v, st₀, t, T', L', h0, X', hLq, e1, e2, ⟨⟨v', h', hQ, hoc, hP', hK', hD', hB'⟩, hz, hkk⟩, go⟩ := run T hT X
  injection hoc with hoc
  subst hoc
  rw [h0] at hz hkk
  have hsub : ∀ q, va_A (wd cI cR σ 107 h) H.size q → s.heap.size ≤ q := by
    intro q hq
    rcases hq with ⟨k, e, hk⟩ | hq
    · exact hD.2 k _ hk
    · exact Nat.le_trans hS.1 hq
  have hS' : va_S (fun q => s.heap.size ≤ q) s.heap T'.heap (locs ++ L') := by
    refine ⟨Nat.le_trans hS.1 (by rw [e1]; exact hz), fun q h1 h2 => ?_, fun q hq => ?_⟩
    · rw [e1, hkk q (Nat.lt_of_lt_of_le h1 hS.1) (fun z => h2 (hsub q z))]
      exact hS.2.1 q h1 h2
    · rcases List.mem_append.mp hq with h | h
      · exact hS.2.2 q h
      · exact hsub _ (hLq q h)
  obtain ⟨t2, a1, b1⟩ := K v' h' hQ T'.heap (locs ++ L') ls (by rw [e1]; exact hP') (hD'.weaken (fun k q _ hq => hsub _ hq)) hS' hB' E T' rfl X'
  exact ⟨t2, go t2 a1, b1⟩
theorem lj_eqI {x y : Int32} {off : Int} {tgt : Nat} (hd : decode code pc = .ok (.if_icmp .eq off, 3)) (ht : (pc : Int) + off = (tgt : Int)) (hxy : x = y) (K : LJ F σ n tgt st h) : LJ F σ n pc (.int y :: .int x :: st) h := by
  intro H locs ls hP hD hS hB E
  exact lv_icmp_eq F.1.1 F.1.2.1 hd ht (fun _ => K H locs ls hP hD hS hB E) (fun q => absurd hxy q)
theorem lj_eqJ {x y : Int64} {off : Int} {tgt : Nat} (h1 : decode code pc = .ok (.lcmp, 1)) (hd : decode code (pc + 1) = .ok (.ifCond .eq off, 3)) (ht : ((pc + 1 : Nat) : Int) + off = (tgt : Int)) (hxy : x = y) (K : LJ F σ n tgt st h) : LJ F σ n pc (.long y :: .long x :: st) h := by
  intro H locs ls hP hD hS hB E
  refine W.lcmp F.1.1 F.1.2.1 h1 ?_
  refine lv_if_eq F.1.1 F.1.2.1 hd ht (fun _ => K H locs ls hP hD hS hB E) (fun q => absurd ?_ q)
  subst hxy
  simp [lg_cmp]
theorem lj_pop {x : Int32} (hd : decode code pc = .ok (.pop, 1)) (K : LJ F σ n (pc + 1) st h) : LJ F σ n pc (.int x :: st) h := by
  intro H locs ls hP hD hS hB E
  exact lv_pop F.1.1 F.1.2.1 hd rfl (K H locs ls hP hD hS hB E)
theorem lj_pop2 {x : Int64} (hd : decode code pc = .ok (.pop2, 1)) (K : LJ F σ n (pc + 1) st h) : LJ F σ n pc (.long x :: st) h := by
  intro H locs ls hP hD hS hB E
  exact lv_pop2_2 F.1.1 F.1.2.1 hd rfl (K H locs ls hP hD hS hB E)
theorem lj_go {off : Int} {tgt : Nat} (hd : decode code pc = .ok (.goto off, 3)) (ht : (pc : Int) + off = (tgt : Int)) (K : LJ F σ n tgt st h) : LJ F σ n pc st h := by
  intro H locs ls hP hD hS hB E
  exact lv_goto F.1.1 F.1.2.1 hd ht (K H locs ls hP hD hS hB E)
theorem lj_end {off : Int} {tgt : Nat} (h1 : decode code pc = .ok (.iinc 3 5, 3)) (h2 : decode code (pc + 3) = .ok (.goto off, 3)) (ht : ((pc + 3 : Nat) : Int) + off = (tgt : Int)) (K : LJ F σ (n + 5) tgt st h) : LJ F σ n pc st h := by
  intro H locs ls hP hD hS hB E
  refine lv_iinc (v := zI ((n + 5 : Nat) : Int)) (lv' := [(3, .int (zI ((n + 5 : Nat) : Int))), (0, .ref b), (1, .ref (σ 78)), (2, .ref (σ 90))]) F.1.1 F.1.2.1 h1 E (k := 3) rfl (cf_ _ _) (Nat.le_of_ble_eq_true rfl) rfl (fun ls E => ?_)
  exact lv_goto F.1.1 F.1.2.1 h2 ht (K H locs ls hP hD hS hB (lv_sub E [1, 2, 3, 0] rfl))
theorem lj_ret (h1 : decode code pc = .ok (.iconst 1, 1)) (h2 : decode code (pc + 1) = .ok (.ireturn, 1)) : LJ F σ n pc [] h := by
  intro H locs ls hP hD hS hB E
  refine va_forget (fun q hq => hS.2.2 q hq) ?_
  refine lv_iconst (v := 1) F.1.1 F.1.2.1 h1 rfl ?_
  exact lw_ret F.1.1 F.1.2.1 F.1.2.2.1 F.1.2.2.2.2.2.2.2.2.1 h2
theorem lj_head {off : Int} {tgt : Nat} (hn : n ≤ 3000) (h0 : decode code pc = .ok (.iload_n 3, 1)) (h1 : decode code (pc + 1) = .ok (.aload_n 0, 1)) (h2 : decode code (pc + 2) = .ok (.arraylength, 1)) (h3 : decode code (pc + 3) = .ok (.iconst 5, 1)) (h4 : decode code (pc + 4) = .ok (.isub, 1)) (h5 : decode code (pc + 5) = .ok (.if_icmp .gt off, 3)) (ht : ((pc + 5 : Nat) : Int) + off = (tgt : Int))
    (K1 : L < n + 5 → LJ F σ n tgt [] h) (K0 : n + 5 ≤ L → LJ F σ n (pc + 8) [] h) : LJ F σ n pc [] h := by
  refine lj_i h0 (lj_s h1 ?_)
  intro H locs ls hP hD hS hB E
  have hL := F.2.2.2.1
  have hN := NN_le
  refine va_slen F.1.1 F.1.2.1 F.1.2.2.2.2.2.2.1 F.1.2.2.2.2.2.2.2.1 (Nat.not_le.mpr F.1.2.2.2.2.2.2.2.1) hS h2 ?_
  refine lv_iconst (v := zI 5) F.1.1 F.1.2.1 h3 rfl ?_
  refine lv_isub F.1.1 F.1.2.1 h4 ?_
  have hv : Int32.ofNat L - zI 5 = zI ((L : Int) - 5) := by
    rw [show Int32.ofNat L = zI (L : Int) from rfl, ch_]
  rw [hv]
  have hc : (zI ((L : Int) - 5) < zI (n : Int)) ↔ L < n + 5 := by
    rw [Int32.lt_iff_toInt_lt, an_ (by omega) (by omega), an_ (by omega) (by omega)]
    omega
  refine lv_icmp_gt F.1.1 F.1.2.1 h5 ht (fun q => ?_) (fun q => ?_)
  · exact K1 (hc.mp q) H locs ls hP hD hS hB E
  · exact K0 (Nat.not_lt.mp (fun w => q (hc.mpr w))) H locs ls hP hD hS hB E
theorem lj_key (hn : n < L) (h0 : decode code pc = .ok (.aload_n 0, 1)) (h1 : decode code (pc + 1) = .ok (.iload_n 3, 1)) (h2 : decode code (pc + 2) = .ok (.iaload, 1)) (h3 : decode code (pc + 3) = .ok (.bipush 63, 2)) (h4 : decode code (pc + 5) = .ok (.iand, 1)) (K : ∀ x : Int32, LJ F σ n (pc + 6) [.int x] h) : LJ F σ n pc [] h := by
  refine lj_s h0 (lj_i h1 (lj_ld hn h2 ?_))
  intro H locs ls hP hD hS hB E
  refine lv_bipush (v := 63) F.1.1 F.1.2.1 h3 rfl ?_
  refine lv_iand F.1.1 F.1.2.1 h4 ?_
  exact K _ H locs ls hP hD hS hB E
theorem lj_table {d : Int} {offs : Array Int} {len tg : Nat} {T : List Nat} {x : Int32} (hd : decode code pc = .ok (.tableswitch d 0 38 offs, len)) (hT : (List.range 39).all (fun t => decide ((offs[t]?).map (fun o => (pc : Int) + o) = some ((T.getD t 0 : Nat) : Int))) = true) (ht : (pc : Int) + d = (tg : Int)) (KD : LJ F σ n tg [] h) (K : ∀ t, t < 39 → LJ F σ n (T.getD t 0) [] h) : LJ F σ n pc [.int x] h := by
  intro H locs ls hP hD hS hB E
  by_cases q : x.toInt < 0 ∨ 38 < x.toInt
  · exact lv_tableOut F.1.1 F.1.2.1 hd q ht (KD H locs ls hP hD hS hB E)
  · obtain ⟨t, hx⟩ : ∃ t : Nat, x.toInt = (t : Int) := ⟨x.toInt.toNat, by omega⟩
    have htl : t < 39 := by omega
    have h1 := List.all_eq_true.mp hT t (List.mem_range.mpr htl)
    rw [decide_eq_true_eq] at h1
    obtain ⟨o, ho, he⟩ := Option.map_eq_some_iff.mp h1
    refine lv_tableIn (off := o) (tgt := T.getD t 0) F.1.1 F.1.2.1 hd (by omega) (by omega) ?_ he (K t htl H locs ls hP hD hS hB E)
    rw [hx, show ((t : Int) - 0).toNat = t by omega]
    exact ho
theorem all39 {P : Nat → Prop} (p0 : P 0) (p1 : P 1) (p2 : P 2) (p3 : P 3) (p4 : P 4) (p5 : P 5) (p6 : P 6) (p7 : P 7) (p8 : P 8) (p9 : P 9) (p10 : P 10) (p11 : P 11) (p12 : P 12) (p13 : P 13) (p14 : P 14) (p15 : P 15) (p16 : P 16) (p17 : P 17) (p18 : P 18) (p19 : P 19) (p20 : P 20) (p21 : P 21) (p22 : P 22) (p23 : P 23) (p24 : P 24) (p25 : P 25) (p26 : P 26) (p27 : P 27) (p28 : P 28) (p29 : P 29) (p30 : P 30) (p31 : P 31) (p32 : P 32) (p33 : P 33) (p34 : P 34) (p35 : P 35) (p36 : P 36) (p37 : P 37) (p38 : P 38) : ∀ k, k < 39 → P k := fun k hk => match k, hk with
  | 0, _ => p0
  | 1, _ => p1
  | 2, _ => p2
  | 3, _ => p3
  | 4, _ => p4
  | 5, _ => p5
  | 6, _ => p6
  | 7, _ => p7
  | 8, _ => p8
  | 9, _ => p9
  | 10, _ => p10
  | 11, _ => p11
  | 12, _ => p12
  | 13, _ => p13
  | 14, _ => p14
  | 15, _ => p15
  | 16, _ => p16
  | 17, _ => p17
  | 18, _ => p18
  | 19, _ => p19
  | 20, _ => p20
  | 21, _ => p21
  | 22, _ => p22
  | 23, _ => p23
  | 24, _ => p24
  | 25, _ => p25
  | 26, _ => p26
  | 27, _ => p27
  | 28, _ => p28
  | 29, _ => p29
  | 30, _ => p30
  | 31, _ => p31
  | 32, _ => p32
  | 33, _ => p33
  | 34, _ => p34
  | 35, _ => p35
  | 36, _ => p36
  | 37, _ => p37
  | 38, _ => p38
  | k + 39, hk => absurd hk (by omega)
end LAWK
end
