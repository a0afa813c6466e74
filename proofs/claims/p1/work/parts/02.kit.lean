/-! ===== the abstract machine: references are written numbers, an address stands for each; cells: an int array, an array of references, an object ===== -/
abbrev AC : Type := (Nat × (Nat → Int32)) ⊕ ((Nat × (Nat → Option Nat)) ⊕ (Nat × List Value))
abbrev AH : Type := Nat → Option AC
/-- a method: name, code, locals, what it returns, class number, depth of its calls, parameters -/
abbrev MD : Type := MethodName × ByteArray × Nat × Option FieldType × Nat × Nat × Nat
abbrev mY (M : MD) : MethodName := M.1
abbrev mB (M : MD) : ByteArray := M.2.1
abbrev mL (M : MD) : Nat := M.2.2.1
abbrev mR (M : MD) : Option FieldType := M.2.2.2.1
abbrev mO (M : MD) : Nat := M.2.2.2.2.1
abbrev mD (M : MD) : Nat := M.2.2.2.2.2.1
abbrev mN (M : MD) : Nat := M.2.2.2.2.2.2
def WT : List Cond := lw_tbl.filter goodWord
theorem WT_good : GoodIn WT WT := fun w hw => ⟨hw, good_of_word (List.mem_filter.mp hw).2⟩
theorem WT_lw {w : Cond} (h : w ∈ WT) : w ∈ lw_tbl := (List.mem_filter.mp h).1
theorem lw_WT {w : Cond} (h : w ∈ lw_tbl) (hg : goodWord w = true) : w ∈ WT := List.mem_filter.mpr ⟨h, hg⟩
/-- the nest mates' words: they are no words of a method's head, but go with its start -/
def isNest : Cond → Bool
  | .fieldLinkNest _ _ _ _ _ _ => true
  | .methodLinkNest _ _ _ _ => true
  | _ => false
def NT : List Cond := lw_tbl.filter isNest
theorem lw_NT {w : Cond} (h : w ∈ lw_tbl) (hg : isNest w = true) : w ∈ NT := List.mem_filter.mpr ⟨h, hg⟩
def NW (U : State) : Prop := ∀ w ∈ NT, va_Nw w U
theorem NW.warm {s U : State} (hW : s.WarmedH U.vm) (h : NW s) : NW U := by
  intro w hw
  have h1 := (List.mem_filter.mp hw).2
  have h2 := h w hw
  cases w <;> first | exact absurd h1 Bool.false_ne_true | exact va_Nw.warmF hW h2 | exact va_Nw.warmM hW h2
theorem NW.same {s U : State} (hv : s.vm = U.vm) (h : NW s) : NW U := by
  intro w hw
  have h1 := (List.mem_filter.mp hw).2
  have h2 := h w hw
  cases w <;> first | exact absurd h1 Bool.false_ne_true | exact va_Nw.same rfl hv h2
theorem NW.of {A : Array Value} {s : State} (h : ∀ w ∈ lw_tbl, w.before A s = true) : NW s := by
  intro w hw
  obtain ⟨h2, h1⟩ := List.mem_filter.mp hw
  have h3 := h w h2
  cases w <;> first | exact absurd h1 Bool.false_ne_true | exact va_Nw.of rfl h3
def cv (σ : Nat → Nat) : Value → Value
  | .ref k => .ref (σ k)
  | v => v
def ce (cI cR : ClassId) (σ : Nat → Nat) : AC → va_E
  | .inl (n, f) => .inl (cI, n, .inl f)
  | .inr (.inl (n, f)) => .inl (cR, n, .inr (.inr (.inr (.inr (fun i => (f i).map σ)))))
  | .inr (.inr (ci, fs)) => .inr (ci, fs.map (cv σ))
def wd (cI cR : ClassId) (σ : Nat → Nat) (N : Nat) (h : AH) : va_W := (List.range N).map fun k => (σ k, ce cI cR σ ((h k).getD (.inl (0, fun _ => 0))))
def hU (h : AH) (k : Nat) (c : AC) : AH := fun j => if j = k then some c else h j
def hB (N : Nat) (h : AH) : Prop := ∀ k, N ≤ k → h k = none
theorem hB_lt {N k : Nat} {h : AH} {c : AC} (hb : hB N h) (hk : h k = some c) : k < N := by
  rcases Nat.lt_or_ge k N with q | q
  · exact q
  · rw [hb k q] at hk
    cases hk
theorem hB_U {N k : Nat} {h : AH} {c : AC} (hb : hB N h) (hk : k < N) : hB N (hU h k c) := by
  intro j hj
  simp only [hU]
  rw [if_neg (by omega)]
  exact hb j hj
theorem wd_get {cI cR : ClassId} {σ : Nat → Nat} {N k : Nat} {h : AH} {c : AC} (hb : hB N h) (hk : h k = some c) : (wd cI cR σ N h)[k]? = some (σ k, ce cI cR σ c) := by
  have hl := hB_lt hb hk
  simp [wd, hl, hk]
theorem wd_set {cI cR : ClassId} {σ : Nat → Nat} {N k : Nat} {h : AH} (c : AC) (hk : k < N) : (wd cI cR σ N h).set k (σ k, ce cI cR σ c) = wd cI cR σ N (hU h k c) := by
  apply List.ext_getElem?
  intro j
  by_cases hj : j = k
  · subst hj
    simp [wd, hU, hk]
  · rw [List.getElem?_set_ne (fun q => hj q.symm)]
    by_cases hl : j < N
    · simp [wd, hU, hl, hj]
    · simp [wd, hU, Nat.not_lt.mp hl]
/-! locals -/
def ldV : List (Option Value) → Nat → Option Value
  | [], _ => none
  | x :: _, 0 => x
  | _ :: t, n + 1 => ldV t n
def killL : Option Value → Option Value
  | some (.long _) => none
  | some (.double _) => none
  | y => y
def clL : List (Option Value) → Nat → List (Option Value)
  | [], _ => []
  | _ :: t, 0 => none :: t
  | x :: t, n + 1 => x :: clL t n
def stL : List (Option Value) → Nat → Value → List (Option Value)
  | [], _, _ => []
  | _ :: t, 0, v => some v :: t
  | [x], _ + 1, _ => [killL x]
  | x :: _ :: t, 1, v => killL x :: some v :: t
  | x :: y :: t, n + 2, v => x :: stL (y :: t) (n + 1) v
theorem stL_len (L : List (Option Value)) (i : Nat) (v : Value) : (stL L i v).length = L.length := by
  fun_induction stL L i v <;> simp_all
theorem clL_len (L : List (Option Value)) (i : Nat) : (clL L i).length = L.length := by
  fun_induction clL L i <;> simp_all
theorem ldV_lt {L : List (Option Value)} {i : Nat} {v : Value} (h : ldV L i = some v) : i < L.length := by
  fun_induction ldV L i <;> simp_all
theorem ldV_clL (L : List (Option Value)) (i j : Nat) {v : Value} (h : ldV (clL L i) j = some v) : j ≠ i ∧ ldV L j = some v := by
  induction L generalizing i j with
  | nil => simp [clL, ldV] at h
  | cons x t ih =>
    cases i with
    | zero =>
      cases j with
      | zero => simp [clL, ldV] at h
      | succ j => simpa [clL, ldV] using h
    | succ i =>
      cases j with
      | zero => simpa [clL, ldV] using h
      | succ j =>
        have := ih i j (by simpa [clL, ldV] using h)
        simpa [ldV] using this
theorem killL_cat {x : Option Value} {v : Value} (h : killL x = some v) : x = some v ∧ v.category ≠ 2 := by
  cases x with
  | none => simp [killL] at h
  | some y => cases y <;> simp_all [killL, Value.category] <;> (subst h; simp [Value.category])
theorem ldV_stL (L : List (Option Value)) (i j : Nat) (v0 : Value) {v : Value} (h : ldV (stL L i v0) j = some v) : (j = i ∧ v = v0) ∨ (j ≠ i ∧ ldV L j = some v ∧ (j + 1 = i → v.category ≠ 2)) := by
  fun_induction stL L i v0 generalizing j with
  | case1 => simp [ldV] at h
  | case2 x t v =>
    cases j with
    | zero => left; simpa [ldV, eq_comm] using h
    | succ j => right; simpa [ldV] using h
  | case3 x n v' =>
    cases j with
    | zero =>
      right
      have h1 : killL x = some v := by simpa [ldV] using h
      obtain ⟨h2, h3⟩ := killL_cat h1
      exact ⟨by omega, by simpa [ldV] using h2, fun _ => h3⟩
    | succ j => simp [ldV] at h
  | case4 x y t v' =>
    cases j with
    | zero =>
      right
      have h1 : killL x = some v := by simpa [ldV] using h
      obtain ⟨h2, h3⟩ := killL_cat h1
      exact ⟨by omega, by simpa [ldV] using h2, fun _ => h3⟩
    | succ j =>
      cases j with
      | zero => left; simpa [ldV, eq_comm] using h
      | succ j => right; exact ⟨by omega, by simpa [ldV] using h, fun q => by omega⟩
  | case5 x y t n v' ih =>
    cases j with
    | zero => right; exact ⟨by omega, by simpa [ldV] using h, fun q => by omega⟩
    | succ j =>
      rcases ih (j := j) (by simpa [ldV] using h) with ⟨h1, h2⟩ | ⟨h1, h2, h3⟩
      · left; exact ⟨by omega, h2⟩
      · right; exact ⟨by omega, by simpa [ldV] using h2, fun q => h3 (by omega)⟩
theorem cv_cat (σ : Nat → Nat) (v : Value) : (cv σ v).category = v.category := by cases v <;> rfl
def LL (σ : Nat → Nat) (lsA : Array Slot) (n : Nat) (L : List (Option Value)) : Prop := lsA.size = n ∧ lv_wf lsA ∧ L.length = n ∧ ∀ (i : Nat) (v : Value), ldV L i = some v → lsA[i]? = some (.val (cv σ v))
def asc (σ : Nat → Nat) (L : List (Option Value)) : List (Nat × Value) := (List.range L.length).filterMap fun i => (ldV L i).map fun v => (i, cv σ v)
theorem asc_mem {σ : Nat → Nat} {L : List (Option Value)} {q : Nat × Value} : q ∈ asc σ L ↔ ∃ v, ldV L q.1 = some v ∧ q.2 = cv σ v := by
  simp only [asc, List.mem_filterMap, List.mem_range, Option.map_eq_some_iff]
  constructor
  · rintro ⟨i, _, v, hv, rfl⟩
    exact ⟨v, hv, rfl⟩
  · rintro ⟨v, hv, he⟩
    exact ⟨q.1, ldV_lt hv, v, hv, by rw [← he]⟩
theorem LL.has {σ : Nat → Nat} {lsA : Array Slot} {n : Nat} {L : List (Option Value)} (h : LL σ lsA n L) : lv_has lsA n (asc σ L) := by
  refine ⟨h.1, h.2.1, fun q hq => ?_⟩
  obtain ⟨v, h1, h2⟩ := asc_mem.mp hq
  rw [h2]
  exact h.2.2.2 _ _ h1
theorem LL.st1 {σ : Nat → Nat} {lsA lsB : Array Slot} {n i : Nat} {L : List (Option Value)} {v : Value} {w : Value} (hw : w = cv σ v) (h : LL σ lsA n L) (h1 : lv_has lsB n ((i, w) :: (asc σ L).filter (fun q => !(q.1 == i) && !(q.1 + 1 == i && q.2.category == 2)))) : LL σ lsB n (stL L i v) := by
  subst hw
  refine ⟨h1.1, h1.2.1, by rw [stL_len]; exact h.2.2.1, fun j u hj => ?_⟩
  rcases ldV_stL L i j v hj with ⟨e1, e2⟩ | ⟨e1, e2, e3⟩
  · subst e1; subst e2
    exact h1.2.2 (j, cv σ u) List.mem_cons_self
  · refine h1.2.2 (j, cv σ u) (List.mem_cons_of_mem _ (List.mem_filter.mpr ⟨asc_mem.mpr ⟨u, e2, rfl⟩, ?_⟩))
    by_cases hji : j + 1 = i
    · have := e3 hji
      simp [e1, cv_cat, this]
    · simp [e1, hji]
theorem LL.st2 {σ : Nat → Nat} {lsA lsB : Array Slot} {n i : Nat} {L : List (Option Value)} {v : Value} {w : Value} (hw : w = cv σ v) (h : LL σ lsA n L) (h1 : lv_has lsB n ((i, w) :: (asc σ L).filter (fun q => !(q.1 == i) && (!(q.1 == i + 1) && !(q.1 + 1 == i && q.2.category == 2))))) : LL σ lsB n (clL (stL L i v) (i + 1)) := by
  subst hw
  refine ⟨h1.1, h1.2.1, by rw [clL_len, stL_len]; exact h.2.2.1, fun j u hj => ?_⟩
  obtain ⟨hne, hj⟩ := ldV_clL _ _ _ hj
  rcases ldV_stL L i j v hj with ⟨e1, e2⟩ | ⟨e1, e2, e3⟩
  · subst e1; subst e2
    exact h1.2.2 (j, cv σ u) List.mem_cons_self
  · refine h1.2.2 (j, cv σ u) (List.mem_cons_of_mem _ (List.mem_filter.mpr ⟨asc_mem.mpr ⟨u, e2, rfl⟩, ?_⟩))
    by_cases hji : j + 1 = i
    · have := e3 hji
      simp [e1, hne, cv_cat, this]
    · simp [e1, hne, hji]
/-! the judgement: from here the method comes to its end, with Q of its answer and of the cells -/
abbrev tyz (cI cR : ClassId) : List (ClassId × FieldType) := [(cI, .int), (cR, .object RX4)]
def rmd (d : Nat) : Room := { frames := d, cells := 0, slots := 0, locals := 40 * d }
def Fix (M : MD) (p : Program) (s : State) (m : MethodId) (args : Array Value) (meth : Method) (c : Code) (G : va_G) (cI cR : ClassId) (A : Nat → Prop) : Prop :=
  p.tables.exec = Jvm.exec ∧ c.code = mB M ∧ meth.sig.returnType = mR M ∧ c.maxLocals = mL M ∧ s.vm.findClass (cnm (mO M)) = some m.cls ∧ meth.locks = false ∧ (∀ w ∈ WT, w.before args s = true) ∧ va_K G vwCl (tyz cI cR) s ∧ (∀ q, s.heap.size ≤ q → A q) ∧ NW s
def Dyn (s : State) (G : va_G) (cI cR : ClassId) (σ : Nat → Nat) (N : Nat) (A : Nat → Prop) (h : AH) (H : Heap) (locs : List Loc) : Prop :=
  va_P G vwCl (wd cI cR σ N h) H ∧ va_D A (wd cI cR σ N h) ∧ va_S A s.heap H locs ∧ hB N h
def QC (G : va_G) (cI cR : ClassId) (σ : Nat → Nat) (N : Nat) (A : Nat → Prop) (Q : Option Value → AH → Prop) : Array Value → State → Outcome → State → Prop := fun _ st oc t =>
  (∃ (v : Option Value) (h' : AH), Q v h' ∧ oc = .returned (v.map (cv σ)) ∧ va_P G vwCl (wd cI cR σ N h') t.heap ∧ va_K G vwCl (tyz cI cR) t ∧ va_D A (wd cI cR σ N h') ∧ hB N h') ∧ va_F A st t
def J (M : MD) (pc : Nat) (L : List (Option Value)) (st : List Value) (h : AH) (Q : Option Value → AH → Prop) : Prop :=
  ∀ (p : Program) (l : Launch) (e : Env) (s : State) (m : MethodId) (args : Array Value) (below : List Frame) (meth : Method) (c : Code) (H : Heap) (locs : List Loc) (G : va_G) (cI cR : ClassId) (σ : Nat → Nat) (N : Nat) (A : Nat → Prop) (lsA : Array Slot),
    Fix M p s m args meth c G cI cR A → Dyn s G cI cR σ N A h H locs → LL σ lsA (mL M) L →
    W p l e (rmd (mD M)) s m args below meth c H locs 0 0 (MQ below (QC G cI cR σ N A Q) args s 0 0 A) (F0 m pc lsA (st.map (cv σ)))
def preC1 (G : va_G) (cI cR : ClassId) (σ : Nat → Nat) (N sz : Nat) (h : AH) (U : State) : Prop := U.heap.size = sz ∧ va_P G vwCl (wd cI cR σ N h) U.heap ∧ va_K G vwCl (tyz cI cR) U ∧ va_D (fun _ => True) (wd cI cR σ N h) ∧ NW U
def wsM (M : MD) : List Cond := .code (mY M) (mB M) (mL M) (mR M) :: WT
def Con (M : MD) (as : List Value) (h : AH) (Q : Option Value → AH → Prop) : Prop :=
  ∀ (l : Launch) (G : va_G) (cI cR : ClassId) (σ : Nat → Nat) (N sz : Nat), hB N h →
    Met l (mY M) (wsM M) (rmd (mD M)) (va_Pc (as.map (cv σ)) (preC1 G cI cR σ N sz h)) (QC G cI cR σ N (va_A (wd cI cR σ N h) sz) Q) 0 0 (va_A (wd cI cR σ N h) sz)
/-! a method's own facts -/
def clsOk (c : Nat) : Prop := plainName (cnm c) = true ∧ cnm c ≠ "java/lang/invoke/MethodHandle" ∧ cnm c ≠ "java/lang/invoke/VarHandle" ∧ (.initialized (cnm c) : Cond) ∈ WT
def descOk (d : String) (n : Nat) : Prop := (parseMethodDescriptor d).map (fun d => d.parameters.length) = some n
def okM (M : MD) : Prop := (.code (mY M) (mB M) (mL M) (mR M) : Cond) ∈ WT ∧ (mY M).cls = cnm (mO M) ∧ clsOk (mO M) ∧ descOk (mY M).desc (mN M) ∧ mL M ≤ 21
theorem okM_sp {M : MD} (h : okM M) : (.code (mY M) (mB M) (mL M) (mR M) : Cond) ∈ WT ∧ (.initialized (mY M).cls : Cond) ∈ WT ∧ plainName (mY M).cls = true ∧ (mY M).cls = cnm (mO M) ∧ ((mY M).cls ≠ "java/lang/invoke/MethodHandle" ∧ (mY M).cls ≠ "java/lang/invoke/VarHandle") ∧ (parseMethodDescriptor (mY M).desc).map (fun d => d.parameters.length) = some (mN M) ∧ mL M ≤ 21 := by
  obtain ⟨h1, h2, ⟨h3, h4, h5, h6⟩, h7, h8⟩ := h
  rw [h2]
  exact ⟨h1, h6, h3, rfl, ⟨h4, h5⟩, h7, h8⟩
def argL : List Value → List (Option Value)
  | [] => []
  | v :: vs => if v.category = 2 then some v :: none :: argL vs else some v :: argL vs
def entL (n : Nat) (as : List Value) : List (Option Value) := argL as ++ List.replicate (n - (argL as).length) none
theorem argL_len (σ : Nat → Nat) (as : List Value) : (lg_sl (as.map (cv σ))).length = (argL as).length := by
  induction as with
  | nil => rfl
  | cons v vs ih =>
    simp only [lg_sl, List.map_cons, List.flatMap_cons, List.length_append, argL, cv_cat] at ih ⊢
    by_cases hc : v.category = 2
    · simp only [hc, if_true, List.length_cons, List.length_nil]
      omega
    · simp only [hc, if_false, List.length_cons, List.length_nil]
      omega
theorem ldV_app (a b : List (Option Value)) (j : Nat) : ldV (a ++ b) j = if j < a.length then ldV a j else ldV b (j - a.length) := by
  induction a generalizing j with
  | nil => simp
  | cons x t ih =>
    cases j with
    | zero => simp [ldV]
    | succ j =>
      simp only [List.cons_append, ldV, List.length_cons]
      rw [ih]
      by_cases hj : j < t.length
      · rw [if_pos hj, if_pos (by omega)]
      · rw [if_neg hj, if_neg (by omega)]
        congr 1
        omega
theorem ldV_rep (n j : Nat) : ldV (List.replicate n none) j = none := by
  induction n generalizing j with
  | zero => simp [ldV]
  | succ n ih => cases j <;> simp [List.replicate_succ, ldV, ih]
theorem argL_in (σ : Nat → Nat) (as : List Value) (o j : Nat) (v : Value) (h : ldV (argL as) j = some v) : (o + j, cv σ v) ∈ lv_args o (as.map (cv σ)) := by
  induction as generalizing o j with
  | nil => simp [argL, ldV] at h
  | cons x t ih =>
    simp only [argL] at h
    simp only [List.map_cons, lv_args, cv_cat]
    by_cases hc : x.category = 2
    · simp only [hc, if_true] at h ⊢
      match j, h with
      | 0, h =>
        simp only [ldV, Option.some.injEq] at h
        subst h
        simp
      | 1, h => simp [ldV] at h
      | j + 2, h =>
        have := ih (o + 2) j (by simpa [ldV] using h)
        rw [show o + (j + 2) = o + 2 + j by omega]
        exact List.mem_cons_of_mem _ this
    · simp only [hc, if_false] at h ⊢
      match j, h with
      | 0, h =>
        simp only [ldV, Option.some.injEq] at h
        subst h
        simp
      | j + 1, h =>
        have := ih (o + 1) j (by simpa [ldV] using h)
        rw [show o + (j + 1) = o + 1 + j by omega]
        exact List.mem_cons_of_mem _ this
theorem con_of {M : MD} {as : List Value} {h : AH} {Q : Option Value → AH → Prop} {L : List (Option Value)} (hM : okM M) (hn : (argL as).length ≤ mL M) (hL : entL (mL M) as = L) (k : J M 0 L [] h Q) : Con M as h Q := by
  intro l G cI cR σ N sz hb
  obtain ⟨h1, h2, h3, h4, h5, h6, h7⟩ := okM_sp hM
  refine Met.ofW (cc := mB M) (maxL := mL M) (ret := mR M) h3 rfl ?_
  intro p e s m args below meth c s₁ B hml hv
  obtain ⟨rfl, hsz, hP, hK, hD0, hNW⟩ := hv
  have hts := atoms_spec (ws := wsM M) B.pre
  have hown : s.vm.findClass (cnm (mO M)) = some m.cls := by rw [← h4]; exact findClass_of_methodNamed B.named
  have hlen := argL_len σ as
  have hent := lv_entry (as.map (cv σ)) (n := mL M) (by rw [hlen]; exact hn)
  rw [lg_entry_eq]
  refine k p l e s m _ below meth c s.heap [] G cI cR σ N _ _ ⟨B.exec, B.bytes, B.returns, hml, hown, B.notSynchronized, fun w hw => hts w (List.mem_cons_of_mem _ hw), hK, fun q hq => Or.inr (by rw [← hsz]; exact hq), hNW⟩ ⟨hP, hD0.self, va_S.rf, hb⟩ ?_
  refine ⟨hent.1, hent.2.1, ?_, fun i v hi => ?_⟩
  · rw [← hL]
    simp only [entL, List.length_append, List.length_replicate]
    omega
  · rw [← hL] at hi
    simp only [entL] at hi
    rw [ldV_app] at hi
    by_cases hi2 : i < (argL as).length
    · rw [if_pos hi2] at hi
      have := argL_in σ as 0 i v hi
      rw [Nat.zero_add] at this
      exact hent.2.2 _ this
    · rw [if_neg hi2, ldV_rep] at hi
      cases hi
