/-! ===== what an instruction does ===== -/
abbrev INF : Type := (Nat × Nat × Int × List Nat) ⊕ (Nat × Nat × MD)
abbrev KK : Type := List (Option Value) → List Value → AH → Prop
def zI (z : Int) : Int32 := Int32.ofInt z
def zJ (z : Int) : Int64 := Int64.ofInt z
def gI : Option Value → (Int32 → Prop) → Prop
  | some (.int x), k => k x
  | _, _ => False
def gJ : Option Value → (Int64 → Prop) → Prop
  | some (.long x), k => k x
  | _, _ => False
def gA : Option Value → (Nat → Prop) → Prop
  | some (.ref x), k => k x
  | _, _ => False
def p1 : List Value → (Int32 → List Value → Prop) → Prop
  | .int x :: st, k => k x st
  | _, _ => False
def p2 : List Value → (Int32 → Int32 → List Value → Prop) → Prop
  | .int y :: .int x :: st, k => k x y st
  | _, _ => False
def pJ : List Value → (Int64 → List Value → Prop) → Prop
  | .long x :: st, k => k x st
  | _, _ => False
def q2 : List Value → (Int64 → Int64 → List Value → Prop) → Prop
  | .long y :: .long x :: st, k => k x y st
  | _, _ => False
def pA : List Value → (Nat → List Value → Prop) → Prop
  | .ref x :: st, k => k x st
  | _, _ => False
/-- one value, of one word -/
def pV : List Value → (Value → List Value → Prop) → Prop
  | .int x :: st, k => k (.int x) st
  | .ref x :: st, k => k (.ref x) st
  | _, _ => False
def gArr : Option AC → (Nat → (Nat → Int32) → Prop) → Prop
  | some (.inl (n, f)), k => k n f
  | _, _ => False
def gRef : Option AC → (Nat → (Nat → Option Nat) → Prop) → Prop
  | some (.inr (.inl (n, f))), k => k n f
  | _, _ => False
def gObj : Option AC → (Nat → List Value → Prop) → Prop
  | some (.inr (.inr (ci, fs))), k => k ci fs
  | _, _ => False
def gO : Option Nat → (Nat → Prop) → Prop
  | some a, k => k a
  | none, _ => False
def gF : List Value → Nat → (Value → Prop) → Prop
  | v :: _, 0, k => k v
  | _ :: t, n + 1, k => gF t n k
  | [], _, _ => False
def sF : List Value → Nat → Value → List Value
  | _ :: t, 0, v => v :: t
  | x :: t, n + 1, v => x :: sF t n v
  | [], _, _ => []
def fitV : Int → Value → Prop
  | 0, .int _ => True
  | 1, .int x => x.toInt = 0 ∨ x.toInt = 1
  | 2, .ref _ => True
  | _, _ => False
def pushO : Option Value → List Value → List Value
  | none, st => st
  | some v, st => v :: st
def popN : Nat → List Value → List Value → (List Value → List Value → Prop) → Prop
  | 0, acc, st, k => k acc st
  | n + 1, acc, v :: st, k => popN n (v :: acc) st k
  | _ + 1, _, [], _ => False
def icC : ClassFile.Cond → Int → Int → Prop
  | .eq, a, b => a = b
  | .ne, a, b => a ≠ b
  | .lt, a, b => a < b
  | .ge, a, b => b ≤ a
  | .gt, a, b => b < a
  | .le, a, b => a ≤ b
def swT (M : MD) (L : List (Option Value)) (st : List Value) (h : AH) (Q : Option Value → AH → Prop) (x : Int) : Int → List Nat → Prop
  | _, [] => True
  | z, t :: ts => (x = z → J M t L st h Q) ∧ swT M L st h Q x (z + 1) ts

def sem (M : MD) (pc : Nat) (i : Instr) (f : INF) (L : List (Option Value)) (st : List Value) (h : AH) (Q : Option Value → AH → Prop) (k : KK) : Prop := match i with
  | .iload n => gI (ldV L n) fun x => k L (.int x :: st) h
  | .lload n => gJ (ldV L n) fun x => k L (.long x :: st) h
  | .aload n => gA (ldV L n) fun x => k L (.ref x :: st) h
  | .istore n => p1 st fun x st => k (stL L n (.int x)) st h
  | .lstore n => pJ st fun x st => k (clL (stL L n (.long x)) (n + 1)) st h
  | .astore n => pA st fun x st => k (stL L n (.ref x)) st h
  | .iinc n z => gI (ldV L n) fun x => k (stL L n (.int (x + zI z))) st h
  | .bipush z => k L (.int (zI z) :: st) h
  | .ldc _ => (match f with | .inl (_, _, z, _) => k L (.int (zI z) :: st) h | .inr _ => False)
  | .ldc2_w _ => (match f with | .inl (_, _, z, _) => k L (.long (zJ z) :: st) h | .inr _ => False)
  | .lconst _ => (match f with | .inl (_, _, z, _) => k L (.long (zJ z) :: st) h | .inr _ => False)
  | .iadd => p2 st fun x y st => k L (.int (x + y) :: st) h
  | .isub => p2 st fun x y st => k L (.int (x - y) :: st) h
  | .imul => p2 st fun x y st => k L (.int (x * y) :: st) h
  | .iand => p2 st fun x y st => k L (.int (x &&& y) :: st) h
  | .ior => p2 st fun x y st => k L (.int (x ||| y) :: st) h
  | .ixor => p2 st fun x y st => k L (.int (x ^^^ y) :: st) h
  | .ishl => p2 st fun x y st => k L (.int (x <<< (y &&& 31)) :: st) h
  | .ishr => p2 st fun x y st => k L (.int (x >>> (y &&& 31)) :: st) h
  | .iushr => p2 st fun x y st => k L (.int ((x.toUInt32 >>> (y.toUInt32 &&& Int32.toUInt32 31)).toInt32) :: st) h
  | .idiv => p2 st fun x y st => y.toInt ≠ 0 ∧ k L (.int (x / y) :: st) h
  | .irem => p2 st fun x y st => y.toInt ≠ 0 ∧ k L (.int (x - x / y * y) :: st) h
  | .ineg => p1 st fun x st => k L (.int (-x) :: st) h
  | .i2l => p1 st fun x st => k L (.long x.toInt64 :: st) h
  | .ladd => q2 st fun x y st => k L (.long (x + y) :: st) h
  | .lsub => q2 st fun x y st => k L (.long (x - y) :: st) h
  | .lmul => q2 st fun x y st => k L (.long (x * y) :: st) h
  | .ldiv => q2 st fun x y st => y ≠ 0 ∧ k L (.long (x / y) :: st) h
  | .lrem => q2 st fun x y st => y ≠ 0 ∧ k L (.long (x - x / y * y) :: st) h
  | .lcmp => q2 st fun x y st => k L (.int (lg_cmp x y) :: st) h
  | .dup => pV st fun v st => k L (v :: v :: st) h
  | .dup2 => pV st fun v st => pV st fun w st => k L (v :: w :: v :: w :: st) h
  | .pop => pV st fun _ st => k L st h
  | .arraylength => pA st fun a st => gArr (h a) fun n _ => k L (.int (zI n) :: st) h
  | .iaload => p1 st fun i st => pA st fun a st => gArr (h a) fun n g => (0 ≤ i.toInt ∧ i.toInt < n) ∧ k L (.int (g i.toInt.toNat) :: st) h
  | .iastore => p1 st fun x st => p1 st fun i st => pA st fun a st => gArr (h a) fun n g => (0 ≤ i.toInt ∧ i.toInt < n) ∧ k L st (hU h a (.inl (n, upd g i.toInt.toNat x)))
  | .aaload => p1 st fun i st => pA st fun a st => gRef (h a) fun n g => (0 ≤ i.toInt ∧ i.toInt < n) ∧ gO (g i.toInt.toNat) fun r => k L (.ref r :: st) h
  | .aastore => pA st fun r st => p1 st fun i st => pA st fun a st => gRef (h a) fun n g => (0 ≤ i.toInt ∧ i.toInt < n) ∧ gObj (h r) fun ci _ => ci = 4 ∧ k L st (hU h a (.inr (.inl (n, va_up g i.toInt.toNat (some r)))))
  | .getfield _ => (match f with | .inl (ci, sl, _, _) => pA st fun r st => gObj (h r) fun cj fs => cj = ci ∧ gF fs sl fun v => k L (v :: st) h | .inr _ => False)
  | .putfield _ => (match f with | .inl (ci, sl, z, _) => pV st fun v st => pA st fun r st => gObj (h r) fun cj fs => cj = ci ∧ sl < fs.length ∧ fitV z v ∧ k L st (hU h r (.inr (.inr (ci, sF fs sl v)))) | .inr _ => False)
  | .goto _ => (match f with | .inl (t, _, _, _) => J M t L st h Q | .inr _ => False)
  | .ifCond c _ => (match f with | .inl (t, _, _, _) => p1 st fun x st => (icC c x.toInt 0 → J M t L st h Q) ∧ (¬ icC c x.toInt 0 → k L st h) | .inr _ => False)
  | .if_icmp c _ => (match f with | .inl (t, _, _, _) => p2 st fun x y st => (icC c x.toInt y.toInt → J M t L st h Q) ∧ (¬ icC c x.toInt y.toInt → k L st h) | .inr _ => False)
  | .ifnull _ => pA st fun _ st => k L st h
  | .ifnonnull _ => (match f with | .inl (t, _, _, _) => pA st fun _ st => J M t L st h Q | .inr _ => False)
  | .tableswitch _ _ _ _ => (match f with | .inl (t, _, z, l) => p1 st fun x st => swT M L st h Q x.toInt z l ∧ ((x.toInt < z ∨ z + (l.length : Int) ≤ x.toInt) → J M t L st h Q) | .inr _ => False)
  | .ireturn => (match f with | .inl (t, _, _, _) => p1 st fun x st => st = [] ∧ (t = 0 ∨ x.toInt = 0 ∨ x.toInt = 1) ∧ Q (some (.int x)) h | .inr _ => False)
  | .lreturn => pJ st fun x st => st = [] ∧ Q (some (.long x)) h
  | .return_ => st = [] ∧ Q none h
  | .invokevirtual _ => (match f with | .inr (n, ci, Y) => popN n [] st fun as st => pA st fun r rest => gObj (h r) fun cj _ => cj = ci ∧ rest.length ≤ 4 ∧ Con Y (.ref r :: as) h fun v h' => k L (pushO v rest) h' | .inl _ => False)
  | .invokestatic _ => (match f with
    | .inr (n, _, Y) => popN n [] st fun as rest => rest.length ≤ 4 ∧ Con Y as h fun v h' => k L (pushO v rest) h'
    | .inl (1, _, _, _) => p2 st fun x y st => st.length ≤ 4 ∧ k L (.int (zI (max x.toInt y.toInt)) :: st) h
    | .inl (2, _, _, _) => p2 st fun x y st => st.length ≤ 4 ∧ k L (.int (zI (min x.toInt y.toInt)) :: st) h
    | .inl (3, _, _, _) => p2 st fun dp n st => pA st fun a st => p1 st fun sp st => pA st fun a0 st => gArr (h a0) fun n0 g => gArr (h a) fun n1 _ => st.length ≤ 4 ∧ sp.toInt = 0 ∧ dp.toInt = 0 ∧ n.toInt = n0 ∧ n0 = n1 ∧ k L st (hU h a (.inl (n1, g)))
    | _ => False)
  | _ => False

/-! links: words of the tables -/
def linkF (own idx ci sl : Nat) : Prop := ∃ (C : String) (T : u_T) (N : Nat), vwCl[ci]? = some (C, T, N) ∧ sl < N ∧ (T sl).1 = C ∧ ((.fieldLink (cnm own) idx C (T sl).2.1 (T sl).2.2.1 : Cond) ∈ WT ∨ (.fieldLinkNest (cnm own) idx C (T sl).2.1 (T sl).2.2.1 RX6 : Cond) ∈ NT)
def tyOf : Int → FieldType
  | 0 => .int
  | 1 => .boolean
  | _ => .array .int
def linkP (ci sl : Nat) (z : Int) : Prop := ∃ (C : String) (T : u_T) (N : Nat), vwCl[ci]? = some (C, T, N) ∧ (T sl).2.2.2 = false ∧ parseFieldDescriptor (T sl).2.2.1 = some (tyOf z)
def linkV (own idx : Nat) (M : MD) : Prop := okM M ∧ (.methodLink (cnm own) idx (mY M) : Cond) ∈ WT ∧ (.instanceMethod (mY M) : Cond) ∈ WT ∧ (.selects (mY M).cls (mY M) (mY M) : Cond) ∈ WT
def linkS (own idx : Nat) (M : MD) : Prop := okM M ∧ ((.methodLink (cnm own) idx (mY M) : Cond) ∈ WT ∨ (.methodLinkNest (cnm own) idx (mY M) RX6 : Cond) ∈ NT) ∧ (.static (mY M) : Cond) ∈ WT
def linkN (own idx k : Nat) : Prop := match k with
  | 1 => (.methodLink (cnm own) idx Lib.Math.max.name : Cond) ∈ WT ∧ (.static Lib.Math.max.name : Cond) ∈ WT ∧ (.initialized "java/lang/Math" : Cond) ∈ WT ∧ (.code Lib.Math.max.name Lib.Math.max.code 2 (some .int) : Cond) ∈ WT
  | 2 => (.methodLink (cnm own) idx Lib.Math.min.name : Cond) ∈ WT ∧ (.static Lib.Math.min.name : Cond) ∈ WT ∧ (.initialized "java/lang/Math" : Cond) ∈ WT ∧ (.code Lib.Math.min.name Lib.Math.min.code 2 (some .int) : Cond) ∈ WT
  | 3 => (.methodLink (cnm own) idx arraycopyName : Cond) ∈ WT ∧ (.static arraycopyName : Cond) ∈ WT ∧ (.initialized "java/lang/System" : Cond) ∈ WT ∧ (.native arraycopyName : Cond) ∈ WT
  | _ => False
def linkC (own idx : Nat) (z : Int) : Prop := (.constant (cnm own) idx (zI z) : Cond) ∈ WT
def linkJ (own idx : Nat) (z : Int) : Prop := (.constantLong (cnm own) idx (zJ z) : Cond) ∈ WT
def okI (M : MD) (i : Instr) (f : INF) : Prop := match i with
  | .getfield idx => (match f with | .inl (ci, sl, _, _) => linkF (mO M) idx ci sl | .inr _ => False)
  | .putfield idx => (match f with | .inl (ci, sl, z, _) => linkF (mO M) idx ci sl ∧ linkP ci sl z | .inr _ => False)
  | .invokevirtual idx => (match f with | .inr (n, ci, Y) => linkV (mO M) idx Y ∧ n = mN Y ∧ ci = mO Y ∧ mD Y < mD M | .inl _ => False)
  | .invokestatic idx => (match f with | .inr (n, _, Y) => linkS (mO M) idx Y ∧ n = mN Y ∧ mD Y < mD M | .inl (k, _, _, _) => linkN (mO M) idx k ∧ 0 < mD M)
  | .ldc idx => (match f with | .inl (_, _, z, _) => linkC (mO M) idx z | .inr _ => False)
  | .ldc2_w idx => (match f with | .inl (_, _, z, _) => linkJ (mO M) idx z | .inr _ => False)
  | _ => True

def tgtI (pc : Nat) (off : Int) : INF → Bool
  | .inl (t, _, _, _) => decide ((pc : Int) + off = (t : Int))
  | .inr _ => false
def chk1 (M : MD) (pc : Nat) (i' : Instr) (n : Nat) (i : Instr) (f : INF) : Bool := match i' with
  | .iload_n x => decide (n = 1) && decide (i = .iload x)
  | .lload_n x => decide (n = 1) && decide (i = .lload x)
  | .aload_n x => decide (n = 1) && decide (i = .aload x)
  | .iload x => decide (n = 2) && decide (i = .iload x)
  | .lload x => decide (n = 2) && decide (i = .lload x)
  | .aload x => decide (n = 2) && decide (i = .aload x)
  | .istore_n x => decide (n = 1) && (decide (i = .istore x) && decide ((x : Nat) < mL M))
  | .astore_n x => decide (n = 1) && (decide (i = .astore x) && decide ((x : Nat) < mL M))
  | .lstore_n x => decide (n = 1) && (decide (i = .lstore x) && decide ((x : Nat) + 1 < mL M))
  | .istore x => decide (n = 2) && (decide (i = .istore x) && decide (x < mL M))
  | .astore x => decide (n = 2) && (decide (i = .astore x) && decide (x < mL M))
  | .lstore x => decide (n = 2) && (decide (i = .lstore x) && decide (x + 1 < mL M))
  | .iinc x z => decide (n = 3) && (decide (i = .iinc x z) && decide (x < mL M))
  | .iconst z => decide (n = 1) && decide (i = .bipush z)
  | .bipush z => decide (n = 2) && (decide (i = .bipush z) && decide ((Int8.ofInt z).toInt32 = Int32.ofInt z))
  | .sipush z => decide (n = 3) && (decide (i = .bipush z) && decide ((Int16.ofInt z).toInt32 = Int32.ofInt z))
  | .ldc x => decide (n = 2) && decide (i = .ldc x)
  | .ldc_w x => decide (n = 3) && decide (i = .ldc x)
  | .ldc2_w x => decide (n = 3) && decide (i = .ldc2_w x)
  | .lconst c => decide (n = 1) && (decide (i = .lconst c) && (match f with | .inl (_, _, z, _) => decide (Int64.ofNat (c : Nat) = Int64.ofInt z) | .inr _ => false))
  | .iadd => decide (n = 1) && decide (i = .iadd)
  | .isub => decide (n = 1) && decide (i = .isub)
  | .imul => decide (n = 1) && decide (i = .imul)
  | .iand => decide (n = 1) && decide (i = .iand)
  | .ior => decide (n = 1) && decide (i = .ior)
  | .ixor => decide (n = 1) && decide (i = .ixor)
  | .ishl => decide (n = 1) && decide (i = .ishl)
  | .ishr => decide (n = 1) && decide (i = .ishr)
  | .iushr => decide (n = 1) && decide (i = .iushr)
  | .idiv => decide (n = 1) && decide (i = .idiv)
  | .irem => decide (n = 1) && decide (i = .irem)
  | .ineg => decide (n = 1) && decide (i = .ineg)
  | .i2l => decide (n = 1) && decide (i = .i2l)
  | .ladd => decide (n = 1) && decide (i = .ladd)
  | .lsub => decide (n = 1) && decide (i = .lsub)
  | .lmul => decide (n = 1) && decide (i = .lmul)
  | .ldiv => decide (n = 1) && decide (i = .ldiv)
  | .lrem => decide (n = 1) && decide (i = .lrem)
  | .lcmp => decide (n = 1) && decide (i = .lcmp)
  | .dup => decide (n = 1) && decide (i = .dup)
  | .dup2 => decide (n = 1) && decide (i = .dup2)
  | .pop => decide (n = 1) && decide (i = .pop)
  | .arraylength => decide (n = 1) && decide (i = .arraylength)
  | .iaload => decide (n = 1) && decide (i = .iaload)
  | .iastore => decide (n = 1) && decide (i = .iastore)
  | .aaload => decide (n = 1) && decide (i = .aaload)
  | .aastore => decide (n = 1) && decide (i = .aastore)
  | .lreturn => decide (n = 1) && (decide (i = .lreturn) && decide (mR M = some .long))
  | .return_ => decide (n = 1) && (decide (i = .return_) && decide (mR M = none))
  | .getfield x => decide (n = 3) && decide (i = .getfield x)
  | .putfield x => decide (n = 3) && decide (i = .putfield x)
  | .invokevirtual x => decide (n = 3) && decide (i = .invokevirtual x)
  | .invokestatic x => decide (n = 3) && decide (i = .invokestatic x)
  | .goto o => decide (n = 3) && (decide (i = .goto o) && tgtI pc o f)
  | .ifCond c o => decide (n = 3) && (decide (i = .ifCond c o) && tgtI pc o f)
  | .if_icmp c o => decide (n = 3) && (decide (i = .if_icmp c o) && tgtI pc o f)
  | .ifnull o => decide (n = 3) && decide (i = .ifnull o)
  | .ifnonnull o => decide (n = 3) && (decide (i = .ifnonnull o) && tgtI pc o f)
  | .tableswitch d lo hi os => decide (i = .tableswitch d lo hi os) && (tgtI pc d f && (match f with | .inl (_, _, z, l) => decide (z = lo) && (decide (z + (l.length : Int) = hi + 1) && decide (os.toList.map (fun q => (pc : Int) + q) = l.map (fun q : Nat => (q : Int)))) | .inr _ => false))
  | .ireturn => decide (n = 1) && (decide (i = .ireturn) && (match f with | .inl (t, _, _, _) => (decide (t = 0) && decide (mR M = some .int)) || (decide (t = 1) && decide (mR M = some .boolean)) | .inr _ => false))
  | _ => false

/-! ===== and the machine does so ===== -/
theorem gI_sp {o : Option Value} {k : Int32 → Prop} (h : gI o k) : ∃ x, o = some (.int x) ∧ k x := by
  match o, h with
  | some (.int x), h => exact ⟨x, rfl, h⟩
theorem gJ_sp {o : Option Value} {k : Int64 → Prop} (h : gJ o k) : ∃ x, o = some (.long x) ∧ k x := by
  match o, h with
  | some (.long x), h => exact ⟨x, rfl, h⟩
theorem gA_sp {o : Option Value} {k : Nat → Prop} (h : gA o k) : ∃ x, o = some (.ref x) ∧ k x := by
  match o, h with
  | some (.ref x), h => exact ⟨x, rfl, h⟩
theorem p1_sp {st : List Value} {k : Int32 → List Value → Prop} (h : p1 st k) : ∃ x st', st = .int x :: st' ∧ k x st' := by
  match st, h with
  | .int x :: st', h => exact ⟨x, st', rfl, h⟩
theorem p2_sp {st : List Value} {k : Int32 → Int32 → List Value → Prop} (h : p2 st k) : ∃ x y st', st = .int y :: .int x :: st' ∧ k x y st' := by
  match st, h with
  | .int y :: .int x :: st', h => exact ⟨x, y, st', rfl, h⟩
theorem pJ_sp {st : List Value} {k : Int64 → List Value → Prop} (h : pJ st k) : ∃ x st', st = .long x :: st' ∧ k x st' := by
  match st, h with
  | .long x :: st', h => exact ⟨x, st', rfl, h⟩
theorem q2_sp {st : List Value} {k : Int64 → Int64 → List Value → Prop} (h : q2 st k) : ∃ x y st', st = .long y :: .long x :: st' ∧ k x y st' := by
  match st, h with
  | .long y :: .long x :: st', h => exact ⟨x, y, st', rfl, h⟩
theorem pA_sp {st : List Value} {k : Nat → List Value → Prop} (h : pA st k) : ∃ x st', st = .ref x :: st' ∧ k x st' := by
  match st, h with
  | .ref x :: st', h => exact ⟨x, st', rfl, h⟩
theorem pV_sp {st : List Value} {k : Value → List Value → Prop} (h : pV st k) : ∃ v st', st = v :: st' ∧ v.category = 1 ∧ k v st' := by
  match st, h with
  | .int x :: st', h => exact ⟨.int x, st', rfl, rfl, h⟩
  | .ref x :: st', h => exact ⟨.ref x, st', rfl, rfl, h⟩
theorem gArr_sp {o : Option AC} {k : Nat → (Nat → Int32) → Prop} (h : gArr o k) : ∃ n f, o = some (.inl (n, f)) ∧ k n f := by
  match o, h with
  | some (.inl (n, f)), h => exact ⟨n, f, rfl, h⟩
theorem gRef_sp {o : Option AC} {k : Nat → (Nat → Option Nat) → Prop} (h : gRef o k) : ∃ n f, o = some (.inr (.inl (n, f))) ∧ k n f := by
  match o, h with
  | some (.inr (.inl (n, f))), h => exact ⟨n, f, rfl, h⟩
theorem gObj_sp {o : Option AC} {k : Nat → List Value → Prop} (h : gObj o k) : ∃ n f, o = some (.inr (.inr (n, f))) ∧ k n f := by
  match o, h with
  | some (.inr (.inr (n, f))), h => exact ⟨n, f, rfl, h⟩
theorem gO_sp {o : Option Nat} {k : Nat → Prop} (h : gO o k) : ∃ n, o = some n ∧ k n := by
  match o, h with
  | some n, h => exact ⟨n, rfl, h⟩
theorem gF_sp {fs : List Value} {n : Nat} {k : Value → Prop} (h : gF fs n k) : ∃ v, fs[n]? = some v ∧ k v := by
  induction fs generalizing n with
  | nil => cases n <;> exact absurd h id
  | cons x t ih =>
    cases n with
    | zero => exact ⟨x, rfl, h⟩
    | succ n =>
      obtain ⟨v, h1, h2⟩ := ih (n := n) h
      exact ⟨v, by simpa using h1, h2⟩
theorem sF_set (fs : List Value) (n : Nat) (v : Value) : sF fs n v = fs.set n v := by
  induction fs generalizing n with
  | nil => cases n <;> rfl
  | cons x t ih =>
    cases n with
    | zero => rfl
    | succ n => simp [sF, ih]
theorem popN_sp {n : Nat} {acc st : List Value} {k : List Value → List Value → Prop} (h : popN n acc st k) : ∃ bs rest, st = bs.reverse ++ rest ∧ bs.length = n ∧ k (bs ++ acc) rest := by
  induction n generalizing acc st with
  | zero => exact ⟨[], st, rfl, rfl, h⟩
  | succ n ih =>
    match st, h with
    | v :: st, h =>
      obtain ⟨bs, rest, h1, h2, h3⟩ := ih (acc := v :: acc) (st := st) h
      exact ⟨bs ++ [v], rest, by simp [h1], by simp [h2], by simpa using h3⟩
theorem vp_inI {i : Int32} {n : Nat} (h : 0 ≤ i.toInt ∧ i.toInt < n) : vp_in i n := by
  intro q
  rcases q with q | q
  · have := Int32.lt_iff_toInt_lt.mp q
    simp at this
    omega
  · have : n ≤ i.toInt.toNat := q
    omega
abbrev stepOK (M : MD) (pc n : Nat) (i' : Instr) : Prop := ∀ (i : Instr) (f : INF) (L : List (Option Value)) (st : List Value) (h : AH) (Q : Option Value → AH → Prop) (k : KK), decode (mB M) pc = .ok (i', n) → chk1 M pc i' n i f = true → okI M i f → sem M pc i f L st h Q k → (∀ L st h, k L st h → J M (pc + n) L st h Q) → J M pc L st h Q
section SO
variable {M : MD} {pc n : Nat}
theorem so_iload_n (x : Fin 4) : stepOK M pc n (.iload_n x) := by
  intro i f L st h Q k hd hc ho hs hk
  simp only [chk1, Bool.and_eq_true, Bool.or_eq_true, decide_eq_true_eq] at hc
  obtain ⟨rfl, rfl⟩ := hc
  obtain ⟨x, hx, hs⟩ := gI_sp hs
  intro p l e s m args below meth c H locs G cI cR σ N A lsA F D E
  exact lv_iload_n F.1 F.2.1 hd rfl (E.2.2.2 _ _ hx) (hk _ _ _ hs p l e s m args below meth c H locs G cI cR σ N A lsA F D E)
theorem so_iload (x : Nat) : stepOK M pc n (.iload x) := by
  intro i f L st h Q k hd hc ho hs hk
  simp only [chk1, Bool.and_eq_true, Bool.or_eq_true, decide_eq_true_eq] at hc
  obtain ⟨rfl, rfl⟩ := hc
  obtain ⟨x, hx, hs⟩ := gI_sp hs
  intro p l e s m args below meth c H locs G cI cR σ N A lsA F D E
  exact lv_iload F.1 F.2.1 hd (E.2.2.2 _ _ hx) (hk _ _ _ hs p l e s m args below meth c H locs G cI cR σ N A lsA F D E)
theorem so_lload_n (x : Fin 4) : stepOK M pc n (.lload_n x) := by
  intro i f L st h Q k hd hc ho hs hk
  simp only [chk1, Bool.and_eq_true, Bool.or_eq_true, decide_eq_true_eq] at hc
  obtain ⟨rfl, rfl⟩ := hc
  obtain ⟨x, hx, hs⟩ := gJ_sp hs
  intro p l e s m args below meth c H locs G cI cR σ N A lsA F D E
  exact lv_lload_n F.1 F.2.1 hd rfl (E.2.2.2 _ _ hx) (hk _ _ _ hs p l e s m args below meth c H locs G cI cR σ N A lsA F D E)
theorem so_lload (x : Nat) : stepOK M pc n (.lload x) := by
  intro i f L st h Q k hd hc ho hs hk
  simp only [chk1, Bool.and_eq_true, Bool.or_eq_true, decide_eq_true_eq] at hc
  obtain ⟨rfl, rfl⟩ := hc
  obtain ⟨x, hx, hs⟩ := gJ_sp hs
  intro p l e s m args below meth c H locs G cI cR σ N A lsA F D E
  exact lv_lload F.1 F.2.1 hd (E.2.2.2 _ _ hx) (hk _ _ _ hs p l e s m args below meth c H locs G cI cR σ N A lsA F D E)
theorem so_aload_n (x : Fin 4) : stepOK M pc n (.aload_n x) := by
  intro i f L st h Q k hd hc ho hs hk
  simp only [chk1, Bool.and_eq_true, Bool.or_eq_true, decide_eq_true_eq] at hc
  obtain ⟨rfl, rfl⟩ := hc
  obtain ⟨x, hx, hs⟩ := gA_sp hs
  intro p l e s m args below meth c H locs G cI cR σ N A lsA F D E
  exact lv_aload_n F.1 F.2.1 hd rfl (E.2.2.2 _ _ hx) (hk _ _ _ hs p l e s m args below meth c H locs G cI cR σ N A lsA F D E)
theorem so_aload (x : Nat) : stepOK M pc n (.aload x) := by
  intro i f L st h Q k hd hc ho hs hk
  simp only [chk1, Bool.and_eq_true, Bool.or_eq_true, decide_eq_true_eq] at hc
  obtain ⟨rfl, rfl⟩ := hc
  obtain ⟨x, hx, hs⟩ := gA_sp hs
  intro p l e s m args below meth c H locs G cI cR σ N A lsA F D E
  exact lv_aload F.1 F.2.1 hd (E.2.2.2 _ _ hx) (hk _ _ _ hs p l e s m args below meth c H locs G cI cR σ N A lsA F D E)
theorem so_istore_n (x : Fin 4) : stepOK M pc n (.istore_n x) := by
  intro i f L st h Q k hd hc ho hs hk
  simp only [chk1, Bool.and_eq_true, Bool.or_eq_true, decide_eq_true_eq] at hc
  obtain ⟨rfl, rfl, hx⟩ := hc
  obtain ⟨x, st, rfl, hs⟩ := p1_sp hs
  intro p l e s m args below meth c H locs G cI cR σ N A lsA F D E
  exact lv_istore_n F.1 F.2.1 hd rfl E.has hx rfl (fun lsB hB2 => hk _ _ _ hs p l e s m args below meth c H locs G cI cR σ N A lsB F D (E.st1 rfl hB2))
theorem so_istore (x : Nat) : stepOK M pc n (.istore x) := by
  intro i f L st h Q k hd hc ho hs hk
  simp only [chk1, Bool.and_eq_true, Bool.or_eq_true, decide_eq_true_eq] at hc
  obtain ⟨rfl, rfl, hx⟩ := hc
  obtain ⟨x, st, rfl, hs⟩ := p1_sp hs
  intro p l e s m args below meth c H locs G cI cR σ N A lsA F D E
  exact lv_istore F.1 F.2.1 hd E.has hx rfl (fun lsB hB2 => hk _ _ _ hs p l e s m args below meth c H locs G cI cR σ N A lsB F D (E.st1 rfl hB2))
theorem so_astore_n (x : Fin 4) : stepOK M pc n (.astore_n x) := by
  intro i f L st h Q k hd hc ho hs hk
  simp only [chk1, Bool.and_eq_true, Bool.or_eq_true, decide_eq_true_eq] at hc
  obtain ⟨rfl, rfl, hx⟩ := hc
  obtain ⟨x, st, rfl, hs⟩ := pA_sp hs
  intro p l e s m args below meth c H locs G cI cR σ N A lsA F D E
  exact lv_astore_n F.1 F.2.1 hd rfl E.has hx rfl (fun lsB hB2 => hk _ _ _ hs p l e s m args below meth c H locs G cI cR σ N A lsB F D (E.st1 rfl hB2))
theorem so_astore (x : Nat) : stepOK M pc n (.astore x) := by
  intro i f L st h Q k hd hc ho hs hk
  simp only [chk1, Bool.and_eq_true, Bool.or_eq_true, decide_eq_true_eq] at hc
  obtain ⟨rfl, rfl, hx⟩ := hc
  obtain ⟨x, st, rfl, hs⟩ := pA_sp hs
  intro p l e s m args below meth c H locs G cI cR σ N A lsA F D E
  exact lv_astore F.1 F.2.1 hd E.has hx rfl (fun lsB hB2 => hk _ _ _ hs p l e s m args below meth c H locs G cI cR σ N A lsB F D (E.st1 rfl hB2))
theorem so_lstore_n (x : Fin 4) : stepOK M pc n (.lstore_n x) := by
  intro i f L st h Q k hd hc ho hs hk
  simp only [chk1, Bool.and_eq_true, Bool.or_eq_true, decide_eq_true_eq] at hc
  obtain ⟨rfl, rfl, hx⟩ := hc
  obtain ⟨x, st, rfl, hs⟩ := pJ_sp hs
  intro p l e s m args below meth c H locs G cI cR σ N A lsA F D E
  exact lv_lstore_n F.1 F.2.1 hd rfl E.has hx rfl (fun lsB hB2 => hk _ _ _ hs p l e s m args below meth c H locs G cI cR σ N A lsB F D (E.st2 rfl hB2))
theorem so_lstore (x : Nat) : stepOK M pc n (.lstore x) := by
  intro i f L st h Q k hd hc ho hs hk
  simp only [chk1, Bool.and_eq_true, Bool.or_eq_true, decide_eq_true_eq] at hc
  obtain ⟨rfl, rfl, hx⟩ := hc
  obtain ⟨x, st, rfl, hs⟩ := pJ_sp hs
  intro p l e s m args below meth c H locs G cI cR σ N A lsA F D E
  exact lv_lstore F.1 F.2.1 hd E.has hx rfl (fun lsB hB2 => hk _ _ _ hs p l e s m args below meth c H locs G cI cR σ N A lsB F D (E.st2 rfl hB2))
theorem so_iinc (x : Nat) (z : Int) : stepOK M pc n (.iinc x z) := by
  intro i f L st h Q k hd hc ho hs hk
  simp only [chk1, Bool.and_eq_true, Bool.or_eq_true, decide_eq_true_eq] at hc
  obtain ⟨rfl, rfl, hx⟩ := hc
  obtain ⟨y, hy, hs⟩ := gI_sp hs
  intro p l e s m args below meth c H locs G cI cR σ N A lsA F D E
  have hm : (x, Value.int y) ∈ asc σ L := asc_mem.mpr ⟨.int y, hy, rfl⟩
  obtain ⟨j, hj⟩ := List.getElem?_of_mem hm
  exact lv_iinc (k := j) F.1 F.2.1 hd E.has hj rfl hx rfl (fun lsB hB2 => hk _ _ _ hs p l e s m args below meth c H locs G cI cR σ N A lsB F D (E.st1 rfl hB2))
theorem so_iconst (z : Int) : stepOK M pc n (.iconst z) := by
  intro i f L st h Q k hd hc ho hs hk
  simp only [chk1, Bool.and_eq_true, Bool.or_eq_true, decide_eq_true_eq] at hc
  obtain ⟨rfl, rfl⟩ := hc
  intro p l e s m args below meth c H locs G cI cR σ N A lsA F D E
  exact lv_iconst F.1 F.2.1 hd rfl (hk _ _ _ hs p l e s m args below meth c H locs G cI cR σ N A lsA F D E)
theorem so_bipush (z : Int) : stepOK M pc n (.bipush z) := by
  intro i f L st h Q k hd hc ho hs hk
  simp only [chk1, Bool.and_eq_true, Bool.or_eq_true, decide_eq_true_eq] at hc
  obtain ⟨rfl, rfl, hz⟩ := hc
  intro p l e s m args below meth c H locs G cI cR σ N A lsA F D E
  exact lv_bipush F.1 F.2.1 hd hz (hk _ _ _ hs p l e s m args below meth c H locs G cI cR σ N A lsA F D E)
theorem so_sipush (z : Int) : stepOK M pc n (.sipush z) := by
  intro i f L st h Q k hd hc ho hs hk
  simp only [chk1, Bool.and_eq_true, Bool.or_eq_true, decide_eq_true_eq] at hc
  obtain ⟨rfl, rfl, hz⟩ := hc
  intro p l e s m args below meth c H locs G cI cR σ N A lsA F D E
  exact lv_sipush F.1 F.2.1 hd hz (hk _ _ _ hs p l e s m args below meth c H locs G cI cR σ N A lsA F D E)
theorem so_ldc (x : Nat) : stepOK M pc n (.ldc x) := by
  intro i f L st h Q k hd hc ho hs hk
  simp only [chk1, Bool.and_eq_true, Bool.or_eq_true, decide_eq_true_eq] at hc
  obtain ⟨rfl, rfl⟩ := hc
  rcases f with ⟨a, b, z, l⟩ | q
  rotate_left
  · exact absurd hs id
  intro p l e s m args below meth c H locs G cI cR σ N A lsA F D E
  exact lv_ldc F.1 F.2.1 F.2.2.2.2.1 (F.2.2.2.2.2.2.1 _ ho) hd (hk _ _ _ hs p l e s m args below meth c H locs G cI cR σ N A lsA F D E)
theorem so_ldc_w (x : Nat) : stepOK M pc n (.ldc_w x) := by
  intro i f L st h Q k hd hc ho hs hk
  simp only [chk1, Bool.and_eq_true, Bool.or_eq_true, decide_eq_true_eq] at hc
  obtain ⟨rfl, rfl⟩ := hc
  rcases f with ⟨a, b, z, l⟩ | q
  rotate_left
  · exact absurd hs id
  intro p l e s m args below meth c H locs G cI cR σ N A lsA F D E
  exact lv_ldcw F.1 F.2.1 F.2.2.2.2.1 (F.2.2.2.2.2.2.1 _ ho) hd (hk _ _ _ hs p l e s m args below meth c H locs G cI cR σ N A lsA F D E)
theorem so_ldc2_w (x : Nat) : stepOK M pc n (.ldc2_w x) := by
  intro i f L st h Q k hd hc ho hs hk
  simp only [chk1, Bool.and_eq_true, Bool.or_eq_true, decide_eq_true_eq] at hc
  obtain ⟨rfl, rfl⟩ := hc
  rcases f with ⟨a, b, z, l⟩ | q
  rotate_left
  · exact absurd hs id
  intro p l e s m args below meth c H locs G cI cR σ N A lsA F D E
  exact lv_ldc2 F.1 F.2.1 F.2.2.2.2.1 (F.2.2.2.2.2.2.1 _ ho) hd (hk _ _ _ hs p l e s m args below meth c H locs G cI cR σ N A lsA F D E)
theorem so_lconst (x : Fin 2) : stepOK M pc n (.lconst x) := by
  intro i f L st h Q k hd hc ho hs hk
  simp only [chk1, Bool.and_eq_true, Bool.or_eq_true, decide_eq_true_eq] at hc
  obtain ⟨rfl, rfl, hz⟩ := hc
  rcases f with ⟨a, b, z, l⟩ | q
  rotate_left
  · exact absurd hs id
  simp only [decide_eq_true_eq] at hz
  intro p l e s m args below meth c H locs G cI cR σ N A lsA F D E
  exact lv_lconst F.1 F.2.1 hd hz (hk _ _ _ hs p l e s m args below meth c H locs G cI cR σ N A lsA F D E)
theorem so_iadd : stepOK M pc n .iadd := by
  intro i f L st h Q k hd hc ho hs hk
  simp only [chk1, Bool.and_eq_true, Bool.or_eq_true, decide_eq_true_eq] at hc
  obtain ⟨rfl, rfl⟩ := hc
  obtain ⟨x, y, st, rfl, hs⟩ := p2_sp hs
  intro p l e s m args below meth c H locs G cI cR σ N A lsA F D E
  exact lv_iadd F.1 F.2.1 hd (hk _ _ _ hs p l e s m args below meth c H locs G cI cR σ N A lsA F D E)
theorem so_isub : stepOK M pc n .isub := by
  intro i f L st h Q k hd hc ho hs hk
  simp only [chk1, Bool.and_eq_true, Bool.or_eq_true, decide_eq_true_eq] at hc
  obtain ⟨rfl, rfl⟩ := hc
  obtain ⟨x, y, st, rfl, hs⟩ := p2_sp hs
  intro p l e s m args below meth c H locs G cI cR σ N A lsA F D E
  exact lv_isub F.1 F.2.1 hd (hk _ _ _ hs p l e s m args below meth c H locs G cI cR σ N A lsA F D E)
theorem so_imul : stepOK M pc n .imul := by
  intro i f L st h Q k hd hc ho hs hk
  simp only [chk1, Bool.and_eq_true, Bool.or_eq_true, decide_eq_true_eq] at hc
  obtain ⟨rfl, rfl⟩ := hc
  obtain ⟨x, y, st, rfl, hs⟩ := p2_sp hs
  intro p l e s m args below meth c H locs G cI cR σ N A lsA F D E
  exact lv_imul F.1 F.2.1 hd (hk _ _ _ hs p l e s m args below meth c H locs G cI cR σ N A lsA F D E)
theorem so_iand : stepOK M pc n .iand := by
  intro i f L st h Q k hd hc ho hs hk
  simp only [chk1, Bool.and_eq_true, Bool.or_eq_true, decide_eq_true_eq] at hc
  obtain ⟨rfl, rfl⟩ := hc
  obtain ⟨x, y, st, rfl, hs⟩ := p2_sp hs
  intro p l e s m args below meth c H locs G cI cR σ N A lsA F D E
  exact lv_iand F.1 F.2.1 hd (hk _ _ _ hs p l e s m args below meth c H locs G cI cR σ N A lsA F D E)
theorem so_ior : stepOK M pc n .ior := by
  intro i f L st h Q k hd hc ho hs hk
  simp only [chk1, Bool.and_eq_true, Bool.or_eq_true, decide_eq_true_eq] at hc
  obtain ⟨rfl, rfl⟩ := hc
  obtain ⟨x, y, st, rfl, hs⟩ := p2_sp hs
  intro p l e s m args below meth c H locs G cI cR σ N A lsA F D E
  exact lv_ior F.1 F.2.1 hd (hk _ _ _ hs p l e s m args below meth c H locs G cI cR σ N A lsA F D E)
theorem so_ixor : stepOK M pc n .ixor := by
  intro i f L st h Q k hd hc ho hs hk
  simp only [chk1, Bool.and_eq_true, Bool.or_eq_true, decide_eq_true_eq] at hc
  obtain ⟨rfl, rfl⟩ := hc
  obtain ⟨x, y, st, rfl, hs⟩ := p2_sp hs
  intro p l e s m args below meth c H locs G cI cR σ N A lsA F D E
  exact lv_ixor F.1 F.2.1 hd (hk _ _ _ hs p l e s m args below meth c H locs G cI cR σ N A lsA F D E)
theorem so_ishl : stepOK M pc n .ishl := by
  intro i f L st h Q k hd hc ho hs hk
  simp only [chk1, Bool.and_eq_true, Bool.or_eq_true, decide_eq_true_eq] at hc
  obtain ⟨rfl, rfl⟩ := hc
  obtain ⟨x, y, st, rfl, hs⟩ := p2_sp hs
  intro p l e s m args below meth c H locs G cI cR σ N A lsA F D E
  exact lv_ishl F.1 F.2.1 hd (hk _ _ _ hs p l e s m args below meth c H locs G cI cR σ N A lsA F D E)
theorem so_ishr : stepOK M pc n .ishr := by
  intro i f L st h Q k hd hc ho hs hk
  simp only [chk1, Bool.and_eq_true, Bool.or_eq_true, decide_eq_true_eq] at hc
  obtain ⟨rfl, rfl⟩ := hc
  obtain ⟨x, y, st, rfl, hs⟩ := p2_sp hs
  intro p l e s m args below meth c H locs G cI cR σ N A lsA F D E
  exact lv_ishr F.1 F.2.1 hd (hk _ _ _ hs p l e s m args below meth c H locs G cI cR σ N A lsA F D E)
theorem so_ladd : stepOK M pc n .ladd := by
  intro i f L st h Q k hd hc ho hs hk
  simp only [chk1, Bool.and_eq_true, Bool.or_eq_true, decide_eq_true_eq] at hc
  obtain ⟨rfl, rfl⟩ := hc
  obtain ⟨x, y, st, rfl, hs⟩ := q2_sp hs
  intro p l e s m args below meth c H locs G cI cR σ N A lsA F D E
  exact lv_ladd F.1 F.2.1 hd (hk _ _ _ hs p l e s m args below meth c H locs G cI cR σ N A lsA F D E)
theorem so_lsub : stepOK M pc n .lsub := by
  intro i f L st h Q k hd hc ho hs hk
  simp only [chk1, Bool.and_eq_true, Bool.or_eq_true, decide_eq_true_eq] at hc
  obtain ⟨rfl, rfl⟩ := hc
  obtain ⟨x, y, st, rfl, hs⟩ := q2_sp hs
  intro p l e s m args below meth c H locs G cI cR σ N A lsA F D E
  exact lv_lsub F.1 F.2.1 hd (hk _ _ _ hs p l e s m args below meth c H locs G cI cR σ N A lsA F D E)
theorem so_lmul : stepOK M pc n .lmul := by
  intro i f L st h Q k hd hc ho hs hk
  simp only [chk1, Bool.and_eq_true, Bool.or_eq_true, decide_eq_true_eq] at hc
  obtain ⟨rfl, rfl⟩ := hc
  obtain ⟨x, y, st, rfl, hs⟩ := q2_sp hs
  intro p l e s m args below meth c H locs G cI cR σ N A lsA F D E
  exact lv_lmul F.1 F.2.1 hd (hk _ _ _ hs p l e s m args below meth c H locs G cI cR σ N A lsA F D E)
theorem so_iushr : stepOK M pc n .iushr := by
  intro i f L st h Q k hd hc ho hs hk
  simp only [chk1, Bool.and_eq_true, Bool.or_eq_true, decide_eq_true_eq] at hc
  obtain ⟨rfl, rfl⟩ := hc
  obtain ⟨x, y, st, rfl, hs⟩ := p2_sp hs
  intro p l e s m args below meth c H locs G cI cR σ N A lsA F D E
  exact lv_iushr F.1 F.2.1 hd rfl (hk _ _ _ hs p l e s m args below meth c H locs G cI cR σ N A lsA F D E)
theorem so_idiv : stepOK M pc n .idiv := by
  intro i f L st h Q k hd hc ho hs hk
  simp only [chk1, Bool.and_eq_true, Bool.or_eq_true, decide_eq_true_eq] at hc
  obtain ⟨rfl, rfl⟩ := hc
  obtain ⟨x, y, st, rfl, hz, hs⟩ := p2_sp hs
  intro p l e s m args below meth c H locs G cI cR σ N A lsA F D E
  exact lv_idiv F.1 F.2.1 hd (fun q => hz (by rw [q]; rfl)) (hk _ _ _ hs p l e s m args below meth c H locs G cI cR σ N A lsA F D E)
theorem so_irem : stepOK M pc n .irem := by
  intro i f L st h Q k hd hc ho hs hk
  simp only [chk1, Bool.and_eq_true, Bool.or_eq_true, decide_eq_true_eq] at hc
  obtain ⟨rfl, rfl⟩ := hc
  obtain ⟨x, y, st, rfl, hz, hs⟩ := p2_sp hs
  intro p l e s m args below meth c H locs G cI cR σ N A lsA F D E
  exact lv_irem F.1 F.2.1 hd (fun q => hz (by rw [q]; rfl)) (hk _ _ _ hs p l e s m args below meth c H locs G cI cR σ N A lsA F D E)
theorem so_ineg : stepOK M pc n .ineg := by
  intro i f L st h Q k hd hc ho hs hk
  simp only [chk1, Bool.and_eq_true, Bool.or_eq_true, decide_eq_true_eq] at hc
  obtain ⟨rfl, rfl⟩ := hc
  obtain ⟨x, st, rfl, hs⟩ := p1_sp hs
  intro p l e s m args below meth c H locs G cI cR σ N A lsA F D E
  exact lv_ineg F.1 F.2.1 hd (hk _ _ _ hs p l e s m args below meth c H locs G cI cR σ N A lsA F D E)
theorem so_i2l : stepOK M pc n .i2l := by
  intro i f L st h Q k hd hc ho hs hk
  simp only [chk1, Bool.and_eq_true, Bool.or_eq_true, decide_eq_true_eq] at hc
  obtain ⟨rfl, rfl⟩ := hc
  obtain ⟨x, st, rfl, hs⟩ := p1_sp hs
  intro p l e s m args below meth c H locs G cI cR σ N A lsA F D E
  exact lv_i2l F.1 F.2.1 hd rfl (hk _ _ _ hs p l e s m args below meth c H locs G cI cR σ N A lsA F D E)
theorem so_ldiv : stepOK M pc n .ldiv := by
  intro i f L st h Q k hd hc ho hs hk
  simp only [chk1, Bool.and_eq_true, Bool.or_eq_true, decide_eq_true_eq] at hc
  obtain ⟨rfl, rfl⟩ := hc
  obtain ⟨x, y, st, rfl, hz, hs⟩ := q2_sp hs
  intro p l e s m args below meth c H locs G cI cR σ N A lsA F D E
  exact lv_ldiv F.1 F.2.1 hd hz (hk _ _ _ hs p l e s m args below meth c H locs G cI cR σ N A lsA F D E)
theorem so_lrem : stepOK M pc n .lrem := by
  intro i f L st h Q k hd hc ho hs hk
  simp only [chk1, Bool.and_eq_true, Bool.or_eq_true, decide_eq_true_eq] at hc
  obtain ⟨rfl, rfl⟩ := hc
  obtain ⟨x, y, st, rfl, hz, hs⟩ := q2_sp hs
  intro p l e s m args below meth c H locs G cI cR σ N A lsA F D E
  exact lv_lrem F.1 F.2.1 hd hz (hk _ _ _ hs p l e s m args below meth c H locs G cI cR σ N A lsA F D E)
theorem so_lcmp : stepOK M pc n .lcmp := by
  intro i f L st h Q k hd hc ho hs hk
  simp only [chk1, Bool.and_eq_true, Bool.or_eq_true, decide_eq_true_eq] at hc
  obtain ⟨rfl, rfl⟩ := hc
  obtain ⟨x, y, st, rfl, hs⟩ := q2_sp hs
  intro p l e s m args below meth c H locs G cI cR σ N A lsA F D E
  exact W.lcmp F.1 F.2.1 hd (hk _ _ _ hs p l e s m args below meth c H locs G cI cR σ N A lsA F D E)
theorem so_dup : stepOK M pc n .dup := by
  intro i f L st h Q k hd hc ho hs hk
  simp only [chk1, Bool.and_eq_true, Bool.or_eq_true, decide_eq_true_eq] at hc
  obtain ⟨rfl, rfl⟩ := hc
  obtain ⟨v, st, rfl, hv, hs⟩ := pV_sp hs
  intro p l e s m args below meth c H locs G cI cR σ N A lsA F D E
  exact lv_dup F.1 F.2.1 hd (by rw [cv_cat]; exact hv) (hk _ _ _ hs p l e s m args below meth c H locs G cI cR σ N A lsA F D E)
theorem so_dup2 : stepOK M pc n .dup2 := by
  intro i f L st h Q k hd hc ho hs hk
  simp only [chk1, Bool.and_eq_true, Bool.or_eq_true, decide_eq_true_eq] at hc
  obtain ⟨rfl, rfl⟩ := hc
  obtain ⟨v, st, rfl, hv, hs⟩ := pV_sp hs
  obtain ⟨w, st, rfl, hw, hs⟩ := pV_sp hs
  intro p l e s m args below meth c H locs G cI cR σ N A lsA F D E
  exact lv_dup2_11 F.1 F.2.1 hd (by rw [cv_cat]; exact hv) (by rw [cv_cat]; exact hw) (hk _ _ _ hs p l e s m args below meth c H locs G cI cR σ N A lsA F D E)
theorem so_pop : stepOK M pc n .pop := by
  intro i f L st h Q k hd hc ho hs hk
  simp only [chk1, Bool.and_eq_true, Bool.or_eq_true, decide_eq_true_eq] at hc
  obtain ⟨rfl, rfl⟩ := hc
  obtain ⟨v, st, rfl, hv, hs⟩ := pV_sp hs
  intro p l e s m args below meth c H locs G cI cR σ N A lsA F D E
  exact lv_pop F.1 F.2.1 hd (by rw [cv_cat]; exact hv) (hk _ _ _ hs p l e s m args below meth c H locs G cI cR σ N A lsA F D E)
theorem so_arraylength : stepOK M pc n .arraylength := by
  intro i f L st h Q k hd hc ho hs hk
  simp only [chk1, Bool.and_eq_true, Bool.or_eq_true, decide_eq_true_eq] at hc
  obtain ⟨rfl, rfl⟩ := hc
  obtain ⟨a, st, rfl, hs⟩ := pA_sp hs
  obtain ⟨z, g, ha, hs⟩ := gArr_sp hs
  intro p l e s m args below meth c H locs G cI cR σ N A lsA F D E
  exact va_alen F.1 F.2.1 F.2.2.2.2.2.2.2.1 D.1 a 0 (wd_get D.2.2.2 ha) rfl rfl hd (hk _ _ _ hs p l e s m args below meth c H locs G cI cR σ N A lsA F D E)
theorem so_iaload : stepOK M pc n .iaload := by
  intro i f L st h Q k hd hc ho hs hk
  simp only [chk1, Bool.and_eq_true, Bool.or_eq_true, decide_eq_true_eq] at hc
  obtain ⟨rfl, rfl⟩ := hc
  obtain ⟨y, st, rfl, hs⟩ := p1_sp hs
  obtain ⟨a, st, rfl, hs⟩ := pA_sp hs
  obtain ⟨z, g, ha, hin, hs⟩ := gArr_sp hs
  intro p l e s m args below meth c H locs G cI cR σ N A lsA F D E
  exact va_iald F.1 F.2.1 F.2.2.2.2.2.2.2.1 D.1 a 0 (wd_get D.2.2.2 ha) rfl (vp_inI hin) hd (hk _ _ _ hs p l e s m args below meth c H locs G cI cR σ N A lsA F D E)
theorem so_iastore : stepOK M pc n .iastore := by
  intro i f L st h Q k hd hc ho hs hk
  simp only [chk1, Bool.and_eq_true, Bool.or_eq_true, decide_eq_true_eq] at hc
  obtain ⟨rfl, rfl⟩ := hc
  obtain ⟨x, st, rfl, hs⟩ := p1_sp hs
  obtain ⟨y, st, rfl, hs⟩ := p1_sp hs
  obtain ⟨a, st, rfl, hs⟩ := pA_sp hs
  obtain ⟨z, g, ha, hin, hs⟩ := gArr_sp hs
  intro p l e s m args below meth c H locs G cI cR σ N A lsA F D E
  refine va_iast F.1 F.2.1 F.2.2.2.2.2.2.2.1 D.1 D.2.1 D.2.2.1 a 0 (wd_get D.2.2.2 ha) rfl (vp_inI hin) hd (fun H1 locs1 hP hD hS => ?_)
  have e0 := wd_set (cI := cI) (cR := cR) (σ := σ) (N := N) (h := h) (.inl (z, upd g y.toInt.toNat x)) (hB_lt D.2.2.2 ha)
  refine hk _ _ _ hs p l e s m args below meth c H1 locs1 G cI cR σ N A lsA F ⟨?_, ?_, hS, hB_U D.2.2.2 (hB_lt D.2.2.2 ha)⟩ E
  · rw [← e0]; exact hP
  · rw [← e0]; exact hD
theorem so_aaload : stepOK M pc n .aaload := by
  intro i f L st h Q k hd hc ho hs hk
  simp only [chk1, Bool.and_eq_true, Bool.or_eq_true, decide_eq_true_eq] at hc
  obtain ⟨rfl, rfl⟩ := hc
  obtain ⟨y, st, rfl, hs⟩ := p1_sp hs
  obtain ⟨a, st, rfl, hs⟩ := pA_sp hs
  obtain ⟨z, g, ha, hin, hs⟩ := gRef_sp hs
  obtain ⟨r, hr, hs⟩ := gO_sp hs
  intro p l e s m args below meth c H locs G cI cR σ N A lsA F D E
  refine va_aldq F.1 F.2.1 F.2.2.2.2.2.2.2.1 D.1 a 1 (wd_get D.2.2.2 ha) rfl (vp_inI hin) hd ?_
  have hr : g y.toNatClampNeg = some r := hr
  simp only [hr, Option.map_some, va_rf]
  exact hk _ _ _ hs p l e s m args below meth c H locs G cI cR σ N A lsA F D E
theorem so_aastore : stepOK M pc n .aastore := by
  intro i f L st h Q k hd hc ho hs hk
  simp only [chk1, Bool.and_eq_true, Bool.or_eq_true, decide_eq_true_eq] at hc
  obtain ⟨rfl, rfl⟩ := hc
  obtain ⟨r, st, rfl, hs⟩ := pA_sp hs
  obtain ⟨y, st, rfl, hs⟩ := p1_sp hs
  obtain ⟨a, st, rfl, hs⟩ := pA_sp hs
  obtain ⟨z, g, ha, hin, hs⟩ := gRef_sp hs
  obtain ⟨ci, fs, hr, rfl, hs⟩ := gObj_sp hs
  intro p l e s m args below meth c H locs G cI cR σ N A lsA F D E
  refine va_astq F.1 F.2.1 F.2.2.2.2.2.2.2.1 D.1 D.2.1 D.2.2.1 a 1 r 4 (r := (RX4, TX4, 10)) (wd_get D.2.2.2 ha) rfl (wd_get D.2.2.2 hr) rfl (vp_inI hin) hd (fun H1 locs1 hP hD hS => ?_)
  have e0 := wd_set (cI := cI) (cR := cR) (σ := σ) (N := N) (h := h) (.inr (.inl (z, va_up g y.toInt.toNat (some r)))) (hB_lt D.2.2.2 ha)
  have e1 : (fun i => (va_up g y.toInt.toNat (some r) i).map σ) = va_up (fun i => (g i).map σ) y.toInt.toNat (some (σ r)) := by
    funext j; simp only [va_up]; split <;> rfl
  simp only [ce, e1] at e0
  refine hk _ _ _ hs p l e s m args below meth c H1 locs1 G cI cR σ N A lsA F ⟨?_, ?_, hS, hB_U D.2.2.2 (hB_lt D.2.2.2 ha)⟩ E
  · rw [← e0]; exact hP
  · rw [← e0]; exact hD
theorem so_goto (o : Int) : stepOK M pc n (.goto o) := by
  intro i f L st h Q k hd hc ho hs hk
  simp only [chk1, Bool.and_eq_true, Bool.or_eq_true, decide_eq_true_eq] at hc
  obtain ⟨rfl, rfl, ht⟩ := hc
  rcases f with ⟨a, b, z, l⟩ | q
  rotate_left
  · exact absurd hs id
  simp only [tgtI, decide_eq_true_eq] at ht
  intro p l e s m args below meth c H locs G cI cR σ N A lsA F D E
  exact lv_goto F.1 F.2.1 hd ht (hs p l e s m args below meth c H locs G cI cR σ N A lsA F D E)
theorem i32_0 (x : Int32) : x = 0 ↔ x.toInt = 0 := ⟨fun h => by rw [h]; rfl, fun h => Int32.toInt_inj.mp (by rw [h]; rfl)⟩
theorem so_ifCond (cd : ClassFile.Cond) (o : Int) : stepOK M pc n (.ifCond cd o) := by
  intro i f L st h Q k hd hc ho hs hk
  simp only [chk1, Bool.and_eq_true, Bool.or_eq_true, decide_eq_true_eq] at hc
  obtain ⟨rfl, rfl, ht⟩ := hc
  rcases f with ⟨a, b, z, l⟩ | q
  rotate_left
  · exact absurd hs id
  simp only [tgtI, decide_eq_true_eq] at ht
  obtain ⟨x, st, rfl, h1, h2⟩ := p1_sp hs
  intro p l e s m args below meth c H locs G cI cR σ N A lsA F D E
  have z0 : (0 : Int32).toInt = 0 := rfl
  cases cd
  · exact lv_if_eq F.1 F.2.1 hd ht (fun q => h1 ((i32_0 x).mp q) p l e s m args below meth c H locs G cI cR σ N A lsA F D E) (fun q => hk _ _ _ (h2 (fun w => q ((i32_0 x).mpr w))) p l e s m args below meth c H locs G cI cR σ N A lsA F D E)
  · exact lv_if_ne F.1 F.2.1 hd ht (fun q => h1 (fun w => q ((i32_0 x).mpr w)) p l e s m args below meth c H locs G cI cR σ N A lsA F D E) (fun q => hk _ _ _ (h2 (fun w => w ((i32_0 x).mp q))) p l e s m args below meth c H locs G cI cR σ N A lsA F D E)
  · exact lv_if_lt F.1 F.2.1 hd ht (fun q => h1 (Int32.lt_iff_toInt_lt.mp q) p l e s m args below meth c H locs G cI cR σ N A lsA F D E) (fun q => hk _ _ _ (h2 (fun w => q (Int32.lt_iff_toInt_lt.mpr w))) p l e s m args below meth c H locs G cI cR σ N A lsA F D E)
  · exact lv_if_ge F.1 F.2.1 hd ht (fun q => h1 (Int32.le_iff_toInt_le.mp q) p l e s m args below meth c H locs G cI cR σ N A lsA F D E) (fun q => hk _ _ _ (h2 (fun w => q (Int32.le_iff_toInt_le.mpr w))) p l e s m args below meth c H locs G cI cR σ N A lsA F D E)
  · exact lv_if_gt F.1 F.2.1 hd ht (fun q => h1 (Int32.lt_iff_toInt_lt.mp q) p l e s m args below meth c H locs G cI cR σ N A lsA F D E) (fun q => hk _ _ _ (h2 (fun w => q (Int32.lt_iff_toInt_lt.mpr w))) p l e s m args below meth c H locs G cI cR σ N A lsA F D E)
  · exact lv_if_le F.1 F.2.1 hd ht (fun q => h1 (Int32.le_iff_toInt_le.mp q) p l e s m args below meth c H locs G cI cR σ N A lsA F D E) (fun q => hk _ _ _ (h2 (fun w => q (Int32.le_iff_toInt_le.mpr w))) p l e s m args below meth c H locs G cI cR σ N A lsA F D E)
theorem so_if_icmp (cd : ClassFile.Cond) (o : Int) : stepOK M pc n (.if_icmp cd o) := by
  intro i f L st h Q k hd hc ho hs hk
  simp only [chk1, Bool.and_eq_true, Bool.or_eq_true, decide_eq_true_eq] at hc
  obtain ⟨rfl, rfl, ht⟩ := hc
  rcases f with ⟨a, b, z, l⟩ | q
  rotate_left
  · exact absurd hs id
  simp only [tgtI, decide_eq_true_eq] at ht
  obtain ⟨x, y, st, rfl, h1, h2⟩ := p2_sp hs
  intro p l e s m args below meth c H locs G cI cR σ N A lsA F D E
  cases cd
  · exact lv_icmp_eq F.1 F.2.1 hd ht (fun q => h1 (Int32.toInt_inj.mpr q) p l e s m args below meth c H locs G cI cR σ N A lsA F D E) (fun q => hk _ _ _ (h2 (fun w => q (Int32.toInt_inj.mp w))) p l e s m args below meth c H locs G cI cR σ N A lsA F D E)
  · exact lv_icmp_ne F.1 F.2.1 hd ht (fun q => h1 (fun w => q (Int32.toInt_inj.mp w)) p l e s m args below meth c H locs G cI cR σ N A lsA F D E) (fun q => hk _ _ _ (h2 (fun w => w (Int32.toInt_inj.mpr q))) p l e s m args below meth c H locs G cI cR σ N A lsA F D E)
  · exact lv_icmp_lt F.1 F.2.1 hd ht (fun q => h1 (Int32.lt_iff_toInt_lt.mp q) p l e s m args below meth c H locs G cI cR σ N A lsA F D E) (fun q => hk _ _ _ (h2 (fun w => q (Int32.lt_iff_toInt_lt.mpr w))) p l e s m args below meth c H locs G cI cR σ N A lsA F D E)
  · exact lv_icmp_ge F.1 F.2.1 hd ht (fun q => h1 (Int32.le_iff_toInt_le.mp q) p l e s m args below meth c H locs G cI cR σ N A lsA F D E) (fun q => hk _ _ _ (h2 (fun w => q (Int32.le_iff_toInt_le.mpr w))) p l e s m args below meth c H locs G cI cR σ N A lsA F D E)
  · exact lv_icmp_gt F.1 F.2.1 hd ht (fun q => h1 (Int32.lt_iff_toInt_lt.mp q) p l e s m args below meth c H locs G cI cR σ N A lsA F D E) (fun q => hk _ _ _ (h2 (fun w => q (Int32.lt_iff_toInt_lt.mpr w))) p l e s m args below meth c H locs G cI cR σ N A lsA F D E)
  · exact lv_icmp_le F.1 F.2.1 hd ht (fun q => h1 (Int32.le_iff_toInt_le.mp q) p l e s m args below meth c H locs G cI cR σ N A lsA F D E) (fun q => hk _ _ _ (h2 (fun w => q (Int32.le_iff_toInt_le.mpr w))) p l e s m args below meth c H locs G cI cR σ N A lsA F D E)
theorem so_ifnull (o : Int) : stepOK M pc n (.ifnull o) := by
  intro i f L st h Q k hd hc ho hs hk
  simp only [chk1, Bool.and_eq_true, Bool.or_eq_true, decide_eq_true_eq] at hc
  obtain ⟨rfl, rfl⟩ := hc
  obtain ⟨a, st, rfl, hs⟩ := pA_sp hs
  intro p l e s m args below meth c H locs G cI cR σ N A lsA F D E
  exact lv_ifnull F.1 F.2.1 hd (hk _ _ _ hs p l e s m args below meth c H locs G cI cR σ N A lsA F D E)
theorem so_ifnonnull (o : Int) : stepOK M pc n (.ifnonnull o) := by
  intro i f L st h Q k hd hc ho hs hk
  simp only [chk1, Bool.and_eq_true, Bool.or_eq_true, decide_eq_true_eq] at hc
  obtain ⟨rfl, rfl, ht⟩ := hc
  rcases f with ⟨a, b, z, l⟩ | q
  rotate_left
  · exact absurd hs id
  simp only [tgtI, decide_eq_true_eq] at ht
  obtain ⟨a, st, rfl, hs⟩ := pA_sp hs
  intro p l e s m args below meth c H locs G cI cR σ N A lsA F D E
  exact lv_ifnonnull F.1 F.2.1 hd ht (hs p l e s m args below meth c H locs G cI cR σ N A lsA F D E)
theorem swT_sp {L : List (Option Value)} {st : List Value} {h : AH} {Q : Option Value → AH → Prop} {x : Int} : ∀ {z : Int} {l : List Nat}, swT M L st h Q x z l → ∀ {j : Nat} {t : Nat}, l[j]? = some t → x = z + (j : Int) → J M t L st h Q
  | _, [], _, _, _, hj, _ => by simp at hj
  | z, t0 :: ts, hs, j, t, hj, hx => by
    cases j with
    | zero =>
      simp only [List.getElem?_cons_zero, Option.some.injEq] at hj
      subst hj
      exact hs.1 (by simpa using hx)
    | succ j => exact swT_sp (z := z + 1) (l := ts) hs.2 (by simpa using hj) (by rw [hx]; omega)
theorem so_tableswitch (d lo hi : Int) (os : Array Int) : stepOK M pc n (.tableswitch d lo hi os) := by
  intro i f L st h Q k hd hc ho hs hk
  simp only [chk1, Bool.and_eq_true, Bool.or_eq_true, decide_eq_true_eq] at hc
  obtain ⟨rfl, ht, hr⟩ := hc
  rcases f with ⟨a, b, z, tl⟩ | q
  rotate_left
  · exact absurd hs id
  simp only [tgtI, decide_eq_true_eq] at ht
  simp only [Bool.and_eq_true, decide_eq_true_eq] at hr
  obtain ⟨rfl, hz, hl⟩ := hr
  obtain ⟨x, st, rfl, h1, h2⟩ := p1_sp hs
  intro p l e s m args below meth c H locs G cI cR σ N A lsA F D E
  by_cases hx : x.toInt < z ∨ hi < x.toInt
  · exact lv_tableOut F.1 F.2.1 hd hx ht (h2 (by omega) p l e s m args below meth c H locs G cI cR σ N A lsA F D E)
  · have hj : (x.toInt - z).toNat < tl.length := by omega
    have hlo : tl[(x.toInt - z).toNat]? = some (tl[(x.toInt - z).toNat]) := List.getElem?_eq_getElem hj
    have hm : (os.toList.map (fun q => (pc : Int) + q))[(x.toInt - z).toNat]? = some ((tl[(x.toInt - z).toNat] : Nat) : Int) := by rw [hl]; simp [hlo]
    obtain ⟨off, ho1, ho2⟩ : ∃ off, os[(x.toInt - z).toNat]? = some off ∧ (pc : Int) + off = ((tl[(x.toInt - z).toNat] : Nat) : Int) := by
      rw [List.getElem?_map] at hm
      cases hq : os.toList[(x.toInt - z).toNat]? with
      | none => rw [hq] at hm; cases hm
      | some off =>
        rw [hq] at hm
        exact ⟨off, by rw [← Array.getElem?_toList]; exact hq, Option.some.inj hm⟩
    exact lv_tableIn F.1 F.2.1 hd (by omega) (by omega) ho1 ho2 (swT_sp h1 hlo (by omega) p l e s m args below meth c H locs G cI cR σ N A lsA F D E)
theorem qc_ret {M : MD} {p : Program} {s : State} {m : MethodId} {args : Array Value} {meth : Method} {c : Code} {G : va_G} {cI cR : ClassId} {A : Nat → Prop} {σ : Nat → Nat} {N : Nat} {h : AH} {H : Heap} {locs : List Loc} {Q : Option Value → AH → Prop} (F : Fix M p s m args meth c G cI cR A) (D : Dyn s G cI cR σ N A h H locs) {v : Option Value} (hq : Q v h) : ∀ t : State, t.heap = H → s.WarmedH t.vm → QC G cI cR σ N A Q args s (.returned (v.map (cv σ))) t := by
  intro t ht hW
  exact ⟨⟨v, h, hq, rfl, by rw [ht]; exact D.1, va_K.moved hW.alike F.2.2.2.2.2.2.2.1, D.2.1, D.2.2.2⟩, D.2.2.1.F ht⟩
theorem so_ireturn : stepOK M pc n .ireturn := by
  intro i f L st h Q k hd hc ho hs hk
  simp only [chk1, Bool.and_eq_true, Bool.or_eq_true, decide_eq_true_eq] at hc
  obtain ⟨rfl, rfl, hr⟩ := hc
  rcases f with ⟨a, b, z, l⟩ | q
  rotate_left
  · exact absurd hs id
  obtain ⟨x, st, rfl, rfl, hx, hs2⟩ := p1_sp hs
  intro p l e s m args below meth c H locs G cI cR σ N A lsA F D E
  have hlocks := F.2.2.2.2.2.1
  simp only [Bool.and_eq_true, Bool.or_eq_true, decide_eq_true_eq] at hr
  rcases hr with ⟨-, hr⟩ | ⟨rfl, hr⟩
  · exact W.iret F.1 F.2.1 (F.2.2.1.trans hr) (qc_ret (v := some (.int x)) F D hs2) D.2.2.1.2.2 hd
  · refine W.zret (ty := .boolean) F.1 F.2.1 (F.2.2.1.trans hr) ?_ (qc_ret (v := some (.int x)) F D hs2) D.2.2.1.2.2 hd
    rcases hx with hx | hx | hx
    · cases hx
    · rw [(i32_0 x).mpr hx]; rfl
    · rw [show x = 1 from Int32.toInt_inj.mp (by rw [hx]; rfl)]; rfl
theorem so_lreturn : stepOK M pc n .lreturn := by
  intro i f L st h Q k hd hc ho hs hk
  simp only [chk1, Bool.and_eq_true, Bool.or_eq_true, decide_eq_true_eq] at hc
  obtain ⟨rfl, rfl, hr⟩ := hc
  obtain ⟨x, st, rfl, rfl, hs2⟩ := pJ_sp hs
  intro p l e s m args below meth c H locs G cI cR σ N A lsA F D E
  have hlocks := F.2.2.2.2.2.1
  exact W.lret F.1 F.2.1 (F.2.2.1.trans hr) (qc_ret (v := some (.long x)) F D hs2) D.2.2.1.2.2 hd
theorem so_return_ : stepOK M pc n .return_ := by
  intro i f L st h Q k hd hc ho hs hk
  simp only [chk1, Bool.and_eq_true, Bool.or_eq_true, decide_eq_true_eq] at hc
  obtain ⟨rfl, rfl, hr⟩ := hc
  obtain ⟨rfl, hs2⟩ := hs
  intro p l e s m args below meth c H locs G cI cR σ N A lsA F D E
  have hlocks := F.2.2.2.2.2.1
  exact W.vret F.1 F.2.1 (F.2.2.1.trans hr) (qc_ret (v := none) F D hs2) D.2.2.1.2.2 hd
end SO
