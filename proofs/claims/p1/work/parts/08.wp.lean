/-! ===== a stretch, instruction by instruction ===== -/
def kI (o : Option Value) (M : MD) (pc : Nat) (b : List BI) (L : List (Option Value)) (st : List Value) (h : AH) (Q : Option Value → AH → Prop) : Prop := gI o fun x => wpL M pc b L (.int x :: st) h Q
def kJ (o : Option Value) (M : MD) (pc : Nat) (b : List BI) (L : List (Option Value)) (st : List Value) (h : AH) (Q : Option Value → AH → Prop) : Prop := gJ o fun x => wpL M pc b L (.long x :: st) h Q
def kA (o : Option Value) (M : MD) (pc : Nat) (b : List BI) (L : List (Option Value)) (st : List Value) (h : AH) (Q : Option Value → AH → Prop) : Prop := gA o fun x => wpL M pc b L (.ref x :: st) h Q
def kN (o : Option Value) (i : Nat) (z : Int) (M : MD) (pc : Nat) (b : List BI) (L : List (Option Value)) (st : List Value) (h : AH) (Q : Option Value → AH → Prop) : Prop := gI o fun x => wpL M pc b (stL L i (.int (x + zI z))) st h Q
def kF (fs : List Value) (sl : Nat) (M : MD) (pc : Nat) (b : List BI) (L : List (Option Value)) (st : List Value) (h : AH) (Q : Option Value → AH → Prop) : Prop := gF fs sl fun v => wpL M pc b L (v :: st) h Q
def kG (c : Option AC) (ci sl : Nat) (M : MD) (pc : Nat) (b : List BI) (L : List (Option Value)) (st : List Value) (h : AH) (Q : Option Value → AH → Prop) : Prop := gObj c fun cj fs => cj = ci ∧ kF fs sl M pc b L st h Q
def kP (c : Option AC) (ci sl : Nat) (z : Int) (r : Nat) (v : Value) (M : MD) (pc : Nat) (b : List BI) (L : List (Option Value)) (st : List Value) (h : AH) (Q : Option Value → AH → Prop) : Prop := gObj c fun cj fs => cj = ci ∧ sl < fs.length ∧ fitV z v ∧ wpL M pc b L st (hU h r (.inr (.inr (ci, sF fs sl v)))) Q
def kL (c : Option AC) (x : Int32) (M : MD) (pc : Nat) (b : List BI) (L : List (Option Value)) (st : List Value) (h : AH) (Q : Option Value → AH → Prop) : Prop := gArr c fun z g => (0 ≤ x.toInt ∧ x.toInt < z) ∧ wpL M pc b L (.int (g x.toInt.toNat) :: st) h Q
def kS (c : Option AC) (a : Nat) (x y : Int32) (M : MD) (pc : Nat) (b : List BI) (L : List (Option Value)) (st : List Value) (h : AH) (Q : Option Value → AH → Prop) : Prop := gArr c fun z g => (0 ≤ x.toInt ∧ x.toInt < z) ∧ wpL M pc b L st (hU h a (.inl (z, upd g x.toInt.toNat y))) Q
def kO (o : Option Nat) (M : MD) (pc : Nat) (b : List BI) (L : List (Option Value)) (st : List Value) (h : AH) (Q : Option Value → AH → Prop) : Prop := gO o fun r => wpL M pc b L (.ref r :: st) h Q
def kQ (c : Option AC) (x : Int32) (M : MD) (pc : Nat) (b : List BI) (L : List (Option Value)) (st : List Value) (h : AH) (Q : Option Value → AH → Prop) : Prop := gRef c fun z g => (0 ≤ x.toInt ∧ x.toInt < z) ∧ kO (g x.toInt.toNat) M pc b L st h Q
def kT (c c2 : Option AC) (a r : Nat) (x : Int32) (M : MD) (pc : Nat) (b : List BI) (L : List (Option Value)) (st : List Value) (h : AH) (Q : Option Value → AH → Prop) : Prop := gRef c fun z g => (0 ≤ x.toInt ∧ x.toInt < z) ∧ gObj c2 fun ci _ => ci = 4 ∧ wpL M pc b L st (hU h a (.inr (.inl (z, va_up g x.toInt.toNat (some r))))) Q
def kLen (c : Option AC) (M : MD) (pc : Nat) (b : List BI) (L : List (Option Value)) (st : List Value) (h : AH) (Q : Option Value → AH → Prop) : Prop := gArr c fun z _ => wpL M pc b L (.int (zI z) :: st) h Q
def kY (c0 c : Option AC) (a : Nat) (sp dp nn : Int32) (M : MD) (pc : Nat) (b : List BI) (L : List (Option Value)) (st : List Value) (h : AH) (Q : Option Value → AH → Prop) : Prop := gArr c0 fun n0 g => gArr c fun n1 _ => st.length ≤ 4 ∧ sp.toInt = 0 ∧ dp.toInt = 0 ∧ nn.toInt = n0 ∧ n0 = n1 ∧ wpL M pc b L st (hU h a (.inl (n1, g))) Q
def kRet (M : MD) (pc : Nat) (b : List BI) (L : List (Option Value)) (st : List Value) (Q : Option Value → AH → Prop) : Option Value → AH → Prop := fun v h' => wpL M pc b L (pushO v st) h' Q
def kC (c : Option AC) (ci : Nat) (Y : MD) (as : List Value) (M : MD) (pc : Nat) (b : List BI) (L : List (Option Value)) (st : List Value) (h : AH) (Q : Option Value → AH → Prop) : Prop := gObj c fun cj _ => cj = ci ∧ st.length ≤ 4 ∧ Con Y as h (kRet M pc b L st Q)
section WP
variable {M : MD} {pc n : Nat} {f : INF} {b : List BI} {L : List (Option Value)} {st : List Value} {h : AH} {Q : Option Value → AH → Prop}
theorem wp_nil : wpL M pc [] L st h Q = J M pc L st h Q := id rfl
theorem wp_iload {i : Nat} : wpL M pc ((.iload i, n, f) :: b) L st h Q = kI (ldV L i) M (pc + n) b L st h Q := id rfl
theorem wp_lload {i : Nat} : wpL M pc ((.lload i, n, f) :: b) L st h Q = kJ (ldV L i) M (pc + n) b L st h Q := id rfl
theorem wp_aload {i : Nat} : wpL M pc ((.aload i, n, f) :: b) L st h Q = kA (ldV L i) M (pc + n) b L st h Q := id rfl
theorem wp_istore {i : Nat} {x : Int32} : wpL M pc ((.istore i, n, f) :: b) L (.int x :: st) h Q = wpL M (pc + n) b (stL L i (.int x)) st h Q := id rfl
theorem wp_lstore {i : Nat} {x : Int64} : wpL M pc ((.lstore i, n, f) :: b) L (.long x :: st) h Q = wpL M (pc + n) b (clL (stL L i (.long x)) (i + 1)) st h Q := id rfl
theorem wp_astore {i : Nat} {x : Nat} : wpL M pc ((.astore i, n, f) :: b) L (.ref x :: st) h Q = wpL M (pc + n) b (stL L i (.ref x)) st h Q := id rfl
theorem wp_iinc {i : Nat} {z : Int} : wpL M pc ((.iinc i z, n, f) :: b) L st h Q = kN (ldV L i) i z M (pc + n) b L st h Q := id rfl
theorem wp_bipush {z : Int} : wpL M pc ((.bipush z, n, f) :: b) L st h Q = wpL M (pc + n) b L (.int (zI z) :: st) h Q := id rfl
theorem wp_ldc {i x y : Nat} {z : Int} {l : List Nat} : wpL M pc ((.ldc i, n, .inl (x, y, z, l)) :: b) L st h Q = wpL M (pc + n) b L (.int (zI z) :: st) h Q := id rfl
theorem wp_ldc2 {i x y : Nat} {z : Int} {l : List Nat} : wpL M pc ((.ldc2_w i, n, .inl (x, y, z, l)) :: b) L st h Q = wpL M (pc + n) b L (.long (zJ z) :: st) h Q := id rfl
theorem wp_lconst {i : Fin 2} {x y : Nat} {z : Int} {l : List Nat} : wpL M pc ((.lconst i, n, .inl (x, y, z, l)) :: b) L st h Q = wpL M (pc + n) b L (.long (zJ z) :: st) h Q := id rfl
section BIN
variable {x y : Int32} {u v : Int64}
theorem wp_iadd : wpL M pc ((.iadd, n, f) :: b) L (.int y :: .int x :: st) h Q = wpL M (pc + n) b L (.int (x + y) :: st) h Q := id rfl
theorem wp_isub : wpL M pc ((.isub, n, f) :: b) L (.int y :: .int x :: st) h Q = wpL M (pc + n) b L (.int (x - y) :: st) h Q := id rfl
theorem wp_imul : wpL M pc ((.imul, n, f) :: b) L (.int y :: .int x :: st) h Q = wpL M (pc + n) b L (.int (x * y) :: st) h Q := id rfl
theorem wp_iand : wpL M pc ((.iand, n, f) :: b) L (.int y :: .int x :: st) h Q = wpL M (pc + n) b L (.int (x &&& y) :: st) h Q := id rfl
theorem wp_ior : wpL M pc ((.ior, n, f) :: b) L (.int y :: .int x :: st) h Q = wpL M (pc + n) b L (.int (x ||| y) :: st) h Q := id rfl
theorem wp_ixor : wpL M pc ((.ixor, n, f) :: b) L (.int y :: .int x :: st) h Q = wpL M (pc + n) b L (.int (x ^^^ y) :: st) h Q := id rfl
theorem wp_ishl : wpL M pc ((.ishl, n, f) :: b) L (.int y :: .int x :: st) h Q = wpL M (pc + n) b L (.int (x <<< (y &&& 31)) :: st) h Q := id rfl
theorem wp_ishr : wpL M pc ((.ishr, n, f) :: b) L (.int y :: .int x :: st) h Q = wpL M (pc + n) b L (.int (x >>> (y &&& 31)) :: st) h Q := id rfl
theorem wp_iushr : wpL M pc ((.iushr, n, f) :: b) L (.int y :: .int x :: st) h Q = wpL M (pc + n) b L (.int ((x.toUInt32 >>> (y.toUInt32 &&& Int32.toUInt32 31)).toInt32) :: st) h Q := id rfl
theorem wp_idiv : wpL M pc ((.idiv, n, f) :: b) L (.int y :: .int x :: st) h Q = (y.toInt ≠ 0 ∧ wpL M (pc + n) b L (.int (x / y) :: st) h Q) := id rfl
theorem wp_irem : wpL M pc ((.irem, n, f) :: b) L (.int y :: .int x :: st) h Q = (y.toInt ≠ 0 ∧ wpL M (pc + n) b L (.int (x - x / y * y) :: st) h Q) := id rfl
theorem wp_ineg : wpL M pc ((.ineg, n, f) :: b) L (.int x :: st) h Q = wpL M (pc + n) b L (.int (-x) :: st) h Q := id rfl
theorem wp_i2l : wpL M pc ((.i2l, n, f) :: b) L (.int x :: st) h Q = wpL M (pc + n) b L (.long x.toInt64 :: st) h Q := id rfl
theorem wp_ladd : wpL M pc ((.ladd, n, f) :: b) L (.long v :: .long u :: st) h Q = wpL M (pc + n) b L (.long (u + v) :: st) h Q := id rfl
theorem wp_lsub : wpL M pc ((.lsub, n, f) :: b) L (.long v :: .long u :: st) h Q = wpL M (pc + n) b L (.long (u - v) :: st) h Q := id rfl
theorem wp_lmul : wpL M pc ((.lmul, n, f) :: b) L (.long v :: .long u :: st) h Q = wpL M (pc + n) b L (.long (u * v) :: st) h Q := id rfl
theorem wp_ldiv : wpL M pc ((.ldiv, n, f) :: b) L (.long v :: .long u :: st) h Q = (v ≠ 0 ∧ wpL M (pc + n) b L (.long (u / v) :: st) h Q) := id rfl
theorem wp_lrem : wpL M pc ((.lrem, n, f) :: b) L (.long v :: .long u :: st) h Q = (v ≠ 0 ∧ wpL M (pc + n) b L (.long (u - u / v * v) :: st) h Q) := id rfl
theorem wp_lcmp : wpL M pc ((.lcmp, n, f) :: b) L (.long v :: .long u :: st) h Q = wpL M (pc + n) b L (.int (lg_cmp u v) :: st) h Q := id rfl
theorem wp_dupI : wpL M pc ((.dup, n, f) :: b) L (.int x :: st) h Q = wpL M (pc + n) b L (.int x :: .int x :: st) h Q := id rfl
theorem wp_dupA {r : Nat} : wpL M pc ((.dup, n, f) :: b) L (.ref r :: st) h Q = wpL M (pc + n) b L (.ref r :: .ref r :: st) h Q := id rfl
theorem wp_dup2 {r : Nat} : wpL M pc ((.dup2, n, f) :: b) L (.int x :: .ref r :: st) h Q = wpL M (pc + n) b L (.int x :: .ref r :: .int x :: .ref r :: st) h Q := id rfl
theorem wp_popI : wpL M pc ((.pop, n, f) :: b) L (.int x :: st) h Q = wpL M (pc + n) b L st h Q := id rfl
theorem wp_popA {r : Nat} : wpL M pc ((.pop, n, f) :: b) L (.ref r :: st) h Q = wpL M (pc + n) b L st h Q := id rfl
theorem wp_arraylength {a : Nat} : wpL M pc ((.arraylength, n, f) :: b) L (.ref a :: st) h Q = kLen (h a) M (pc + n) b L st h Q := id rfl
theorem wp_iaload {a : Nat} : wpL M pc ((.iaload, n, f) :: b) L (.int x :: .ref a :: st) h Q = kL (h a) x M (pc + n) b L st h Q := id rfl
theorem wp_iastore {a : Nat} : wpL M pc ((.iastore, n, f) :: b) L (.int y :: .int x :: .ref a :: st) h Q = kS (h a) a x y M (pc + n) b L st h Q := id rfl
theorem wp_aaload {a : Nat} : wpL M pc ((.aaload, n, f) :: b) L (.int x :: .ref a :: st) h Q = kQ (h a) x M (pc + n) b L st h Q := id rfl
theorem wp_aastore {a r : Nat} : wpL M pc ((.aastore, n, f) :: b) L (.ref r :: .int x :: .ref a :: st) h Q = kT (h a) (h r) a r x M (pc + n) b L st h Q := id rfl
theorem wp_getfield {i ci sl r : Nat} {z : Int} {l : List Nat} : wpL M pc ((.getfield i, n, .inl (ci, sl, z, l)) :: b) L (.ref r :: st) h Q = kG (h r) ci sl M (pc + n) b L st h Q := id rfl
theorem wp_putI {i ci sl r : Nat} {z : Int} {l : List Nat} : wpL M pc ((.putfield i, n, .inl (ci, sl, z, l)) :: b) L (.int x :: .ref r :: st) h Q = kP (h r) ci sl z r (.int x) M (pc + n) b L st h Q := id rfl
theorem wp_putA {i ci sl r q : Nat} {z : Int} {l : List Nat} : wpL M pc ((.putfield i, n, .inl (ci, sl, z, l)) :: b) L (.ref q :: .ref r :: st) h Q = kP (h r) ci sl z r (.ref q) M (pc + n) b L st h Q := id rfl
theorem wp_goto {o z : Int} {t y : Nat} {l : List Nat} : wpL M pc ((.goto o, n, .inl (t, y, z, l)) :: b) L st h Q = J M t L st h Q := id rfl
theorem wp_if {c : ClassFile.Cond} {o z : Int} {t w : Nat} {l : List Nat} : wpL M pc ((.ifCond c o, n, .inl (t, w, z, l)) :: b) L (.int x :: st) h Q = ((icC c x.toInt 0 → J M t L st h Q) ∧ (¬ icC c x.toInt 0 → wpL M (pc + n) b L st h Q)) := id rfl
theorem wp_icmp {c : ClassFile.Cond} {o z : Int} {t w : Nat} {l : List Nat} : wpL M pc ((.if_icmp c o, n, .inl (t, w, z, l)) :: b) L (.int y :: .int x :: st) h Q = ((icC c x.toInt y.toInt → J M t L st h Q) ∧ (¬ icC c x.toInt y.toInt → wpL M (pc + n) b L st h Q)) := id rfl
theorem wp_ifnull {o : Int} {r : Nat} : wpL M pc ((.ifnull o, n, f) :: b) L (.ref r :: st) h Q = wpL M (pc + n) b L st h Q := id rfl
theorem wp_ifnonnull {o z : Int} {t w r : Nat} {l : List Nat} : wpL M pc ((.ifnonnull o, n, .inl (t, w, z, l)) :: b) L (.ref r :: st) h Q = J M t L st h Q := id rfl
theorem wp_table {d lo hi z : Int} {os : Array Int} {t w : Nat} {l : List Nat} : wpL M pc ((.tableswitch d lo hi os, n, .inl (t, w, z, l)) :: b) L (.int x :: st) h Q = (swT M L st h Q x.toInt z l ∧ ((x.toInt < z ∨ z + (l.length : Int) ≤ x.toInt) → J M t L st h Q)) := id rfl
theorem wp_iret0 {w : Nat} {z : Int} {l : List Nat} : wpL M pc ((.ireturn, n, .inl (0, w, z, l)) :: b) L [.int x] h Q = Q (some (.int x)) h := by
  show ([] = [] ∧ (0 = 0 ∨ _) ∧ _) = _
  simp
theorem wp_iret1 {w : Nat} {z : Int} {l : List Nat} : wpL M pc ((.ireturn, n, .inl (1, w, z, l)) :: b) L [.int x] h Q = ((x.toInt = 0 ∨ x.toInt = 1) ∧ Q (some (.int x)) h) := by
  show ([] = [] ∧ (1 = 0 ∨ _) ∧ _) = _
  simp
theorem wp_lret : wpL M pc ((.lreturn, n, f) :: b) L [.long u] h Q = Q (some (.long u)) h := by
  show ([] = [] ∧ _) = _
  simp
theorem wp_ret : wpL M pc ((.return_, n, f) :: b) L [] h Q = Q none h := by
  show ([] = [] ∧ _) = _
  simp
theorem wp_invV0 {i ci r : Nat} {Y : MD} : wpL M pc ((.invokevirtual i, n, .inr (0, ci, Y)) :: b) L (.ref r :: st) h Q = kC (h r) ci Y [.ref r] M (pc + n) b L st h Q := id rfl
theorem wp_invV1 {i ci r : Nat} {Y : MD} {u1 : Value} : wpL M pc ((.invokevirtual i, n, .inr (1, ci, Y)) :: b) L (u1 :: .ref r :: st) h Q = kC (h r) ci Y [.ref r, u1] M (pc + n) b L st h Q := id rfl
theorem wp_invV2 {i ci r : Nat} {Y : MD} {u1 : Value} {u2 : Value} : wpL M pc ((.invokevirtual i, n, .inr (2, ci, Y)) :: b) L (u2 :: u1 :: .ref r :: st) h Q = kC (h r) ci Y [.ref r, u1, u2] M (pc + n) b L st h Q := id rfl
theorem wp_invV3 {i ci r : Nat} {Y : MD} {u1 : Value} {u2 : Value} {u3 : Value} : wpL M pc ((.invokevirtual i, n, .inr (3, ci, Y)) :: b) L (u3 :: u2 :: u1 :: .ref r :: st) h Q = kC (h r) ci Y [.ref r, u1, u2, u3] M (pc + n) b L st h Q := id rfl
theorem wp_invV4 {i ci r : Nat} {Y : MD} {u1 : Value} {u2 : Value} {u3 : Value} {u4 : Value} : wpL M pc ((.invokevirtual i, n, .inr (4, ci, Y)) :: b) L (u4 :: u3 :: u2 :: u1 :: .ref r :: st) h Q = kC (h r) ci Y [.ref r, u1, u2, u3, u4] M (pc + n) b L st h Q := id rfl
theorem wp_invS0 {i ci : Nat} {Y : MD} : wpL M pc ((.invokestatic i, n, .inr (0, ci, Y)) :: b) L (st) h Q = (st.length ≤ 4 ∧ Con Y [] h (kRet M (pc + n) b L st Q)) := id rfl
theorem wp_invS1 {i ci : Nat} {Y : MD} {u1 : Value} : wpL M pc ((.invokestatic i, n, .inr (1, ci, Y)) :: b) L (u1 :: st) h Q = (st.length ≤ 4 ∧ Con Y [u1] h (kRet M (pc + n) b L st Q)) := id rfl
theorem wp_invS2 {i ci : Nat} {Y : MD} {u1 : Value} {u2 : Value} : wpL M pc ((.invokestatic i, n, .inr (2, ci, Y)) :: b) L (u2 :: u1 :: st) h Q = (st.length ≤ 4 ∧ Con Y [u1, u2] h (kRet M (pc + n) b L st Q)) := id rfl
theorem wp_invS3 {i ci : Nat} {Y : MD} {u1 : Value} {u2 : Value} {u3 : Value} : wpL M pc ((.invokestatic i, n, .inr (3, ci, Y)) :: b) L (u3 :: u2 :: u1 :: st) h Q = (st.length ≤ 4 ∧ Con Y [u1, u2, u3] h (kRet M (pc + n) b L st Q)) := id rfl
theorem wp_max {i w : Nat} {z : Int} {l : List Nat} : wpL M pc ((.invokestatic i, n, .inl (1, w, z, l)) :: b) L (.int y :: .int x :: st) h Q = (st.length ≤ 4 ∧ wpL M (pc + n) b L (.int (zI (max x.toInt y.toInt)) :: st) h Q) := id rfl
theorem wp_min {i w : Nat} {z : Int} {l : List Nat} : wpL M pc ((.invokestatic i, n, .inl (2, w, z, l)) :: b) L (.int y :: .int x :: st) h Q = (st.length ≤ 4 ∧ wpL M (pc + n) b L (.int (zI (min x.toInt y.toInt)) :: st) h Q) := id rfl
theorem wp_cpy {i w a a0 : Nat} {sp dp nn : Int32} {z : Int} {l : List Nat} : wpL M pc ((.invokestatic i, n, .inl (3, w, z, l)) :: b) L (.int nn :: .int dp :: .ref a :: .int sp :: .ref a0 :: st) h Q = kY (h a0) (h a) a sp dp nn M (pc + n) b L st h Q := id rfl
end BIN
end WP
theorem ldV_0 {x : Option Value} {t : List (Option Value)} : ldV (x :: t) 0 = x := id rfl
theorem ldV_s {x : Option Value} {t : List (Option Value)} {n : Nat} : ldV (x :: t) (n + 1) = ldV t n := id rfl
theorem stL_0 {x : Option Value} {t : List (Option Value)} {v : Value} : stL (x :: t) 0 v = some v :: t := id rfl
theorem stL_1 {x y : Option Value} {t : List (Option Value)} {v : Value} : stL (x :: y :: t) 1 v = killL x :: some v :: t := id rfl
theorem stL_s {x y : Option Value} {t : List (Option Value)} {n : Nat} {v : Value} : stL (x :: y :: t) (n + 2) v = x :: stL (y :: t) (n + 1) v := id rfl
theorem killL_n : killL none = none := id rfl
theorem killL_i {x : Int32} : killL (some (.int x)) = some (.int x) := id rfl
theorem killL_a {x : Nat} : killL (some (.ref x)) = some (.ref x) := id rfl
theorem killL_l {x : Int64} : killL (some (.long x)) = none := id rfl
theorem clL_0 {x : Option Value} {t : List (Option Value)} : clL (x :: t) 0 = none :: t := id rfl
theorem clL_s {x : Option Value} {t : List (Option Value)} {n : Nat} : clL (x :: t) (n + 1) = x :: clL t n := id rfl
theorem sF_0 {v w : Value} {t : List Value} : sF (w :: t) 0 v = v :: t := id rfl
theorem sF_s {v w : Value} {t : List Value} {n : Nat} : sF (w :: t) (n + 1) v = w :: sF t n v := id rfl
theorem kI_i {M : MD} {pc : Nat} {b : List BI} {L : List (Option Value)} {st : List Value} {h : AH} {Q : Option Value → AH → Prop} {x : Int32} : kI (some (.int x)) M pc b L st h Q = wpL M pc b L (.int x :: st) h Q := id rfl
theorem kJ_i {M : MD} {pc : Nat} {b : List BI} {L : List (Option Value)} {st : List Value} {h : AH} {Q : Option Value → AH → Prop} {x : Int64} : kJ (some (.long x)) M pc b L st h Q = wpL M pc b L (.long x :: st) h Q := id rfl
theorem kA_i {M : MD} {pc : Nat} {b : List BI} {L : List (Option Value)} {st : List Value} {h : AH} {Q : Option Value → AH → Prop} {x : Nat} : kA (some (.ref x)) M pc b L st h Q = wpL M pc b L (.ref x :: st) h Q := id rfl
theorem kN_i {M : MD} {pc : Nat} {b : List BI} {L : List (Option Value)} {st : List Value} {h : AH} {Q : Option Value → AH → Prop} {x : Int32} {i : Nat} {z : Int} : kN (some (.int x)) i z M pc b L st h Q = wpL M pc b (stL L i (.int (x + zI z))) st h Q := id rfl
theorem kF_0 {M : MD} {pc : Nat} {b : List BI} {L : List (Option Value)} {st : List Value} {h : AH} {Q : Option Value → AH → Prop} {v : Value} {t : List Value} : kF (v :: t) 0 M pc b L st h Q = wpL M pc b L (v :: st) h Q := id rfl
theorem kF_s {M : MD} {pc : Nat} {b : List BI} {L : List (Option Value)} {st : List Value} {h : AH} {Q : Option Value → AH → Prop} {v : Value} {t : List Value} {m : Nat} : kF (v :: t) (m + 1) M pc b L st h Q = kF t m M pc b L st h Q := id rfl
theorem kG_i {M : MD} {pc : Nat} {b : List BI} {L : List (Option Value)} {st : List Value} {h : AH} {Q : Option Value → AH → Prop} {cj ci sl : Nat} {fs : List Value} : kG (some (.inr (.inr (cj, fs)))) ci sl M pc b L st h Q = (cj = ci ∧ kF fs sl M pc b L st h Q) := id rfl
theorem kP_i {M : MD} {pc : Nat} {b : List BI} {L : List (Option Value)} {st : List Value} {h : AH} {Q : Option Value → AH → Prop} {cj ci sl r : Nat} {fs : List Value} {z : Int} {v : Value} : kP (some (.inr (.inr (cj, fs)))) ci sl z r v M pc b L st h Q = (cj = ci ∧ sl < fs.length ∧ fitV z v ∧ wpL M pc b L st (hU h r (.inr (.inr (ci, sF fs sl v)))) Q) := id rfl
theorem kL_i {M : MD} {pc : Nat} {b : List BI} {L : List (Option Value)} {st : List Value} {h : AH} {Q : Option Value → AH → Prop} {z : Nat} {g : Nat → Int32} {x : Int32} : kL (some (.inl (z, g))) x M pc b L st h Q = ((0 ≤ x.toInt ∧ x.toInt < z) ∧ wpL M pc b L (.int (g x.toInt.toNat) :: st) h Q) := id rfl
theorem kS_i {M : MD} {pc : Nat} {b : List BI} {L : List (Option Value)} {st : List Value} {h : AH} {Q : Option Value → AH → Prop} {z a : Nat} {g : Nat → Int32} {x y : Int32} : kS (some (.inl (z, g))) a x y M pc b L st h Q = ((0 ≤ x.toInt ∧ x.toInt < z) ∧ wpL M pc b L st (hU h a (.inl (z, upd g x.toInt.toNat y))) Q) := id rfl
theorem kO_i {M : MD} {pc : Nat} {b : List BI} {L : List (Option Value)} {st : List Value} {h : AH} {Q : Option Value → AH → Prop} {r : Nat} : kO (some r) M pc b L st h Q = wpL M pc b L (.ref r :: st) h Q := id rfl
theorem kQ_i {M : MD} {pc : Nat} {b : List BI} {L : List (Option Value)} {st : List Value} {h : AH} {Q : Option Value → AH → Prop} {z : Nat} {g : Nat → Option Nat} {x : Int32} : kQ (some (.inr (.inl (z, g)))) x M pc b L st h Q = ((0 ≤ x.toInt ∧ x.toInt < z) ∧ kO (g x.toInt.toNat) M pc b L st h Q) := id rfl
theorem kT_i {M : MD} {pc : Nat} {b : List BI} {L : List (Option Value)} {st : List Value} {h : AH} {Q : Option Value → AH → Prop} {z a r ci : Nat} {fs : List Value} {g : Nat → Option Nat} {x : Int32} : kT (some (.inr (.inl (z, g)))) (some (.inr (.inr (ci, fs)))) a r x M pc b L st h Q = ((0 ≤ x.toInt ∧ x.toInt < z) ∧ ci = 4 ∧ wpL M pc b L st (hU h a (.inr (.inl (z, va_up g x.toInt.toNat (some r))))) Q) := id rfl
theorem kLen_i {M : MD} {pc : Nat} {b : List BI} {L : List (Option Value)} {st : List Value} {h : AH} {Q : Option Value → AH → Prop} {z : Nat} {g : Nat → Int32} : kLen (some (.inl (z, g))) M pc b L st h Q = wpL M pc b L (.int (zI z) :: st) h Q := id rfl
theorem kY_i {M : MD} {pc : Nat} {b : List BI} {L : List (Option Value)} {st : List Value} {h : AH} {Q : Option Value → AH → Prop} {n0 n1 a : Nat} {g g1 : Nat → Int32} {sp dp nn : Int32} : kY (some (.inl (n0, g))) (some (.inl (n1, g1))) a sp dp nn M pc b L st h Q = (st.length ≤ 4 ∧ sp.toInt = 0 ∧ dp.toInt = 0 ∧ nn.toInt = n0 ∧ n0 = n1 ∧ wpL M pc b L st (hU h a (.inl (n1, g))) Q) := id rfl
theorem kC_i {M : MD} {pc : Nat} {b : List BI} {L : List (Option Value)} {st : List Value} {h : AH} {Q : Option Value → AH → Prop} {cj ci : Nat} {fs : List Value} {Y : MD} {as : List Value} : kC (some (.inr (.inr (cj, fs)))) ci Y as M pc b L st h Q = (cj = ci ∧ st.length ≤ 4 ∧ Con Y as h (kRet M pc b L st Q)) := id rfl
theorem kRet_i {M : MD} {pc : Nat} {b : List BI} {L : List (Option Value)} {st : List Value} {h : AH} {Q : Option Value → AH → Prop} {v : Option Value} : kRet M pc b L st Q v h = wpL M pc b L (pushO v st) h Q := id rfl
theorem pushO_n {st : List Value} : pushO none st = st := id rfl
theorem pushO_s {st : List Value} {v : Value} : pushO (some v) st = v :: st := id rfl
theorem fitV_0 {x : Int32} : fitV 0 (.int x) = True := id rfl
theorem fitV_1 {x : Int32} : fitV 1 (.int x) = (x.toInt = 0 ∨ x.toInt = 1) := id rfl
theorem fitV_2 {x : Nat} : fitV 2 (.ref x) = True := id rfl
theorem icC_eq {a b : Int} : icC .eq a b = (a = b) := id rfl
theorem icC_ne {a b : Int} : icC .ne a b = (¬ a = b) := id rfl
theorem icC_lt {a b : Int} : icC .lt a b = (a < b) := id rfl
theorem icC_ge {a b : Int} : icC .ge a b = (b ≤ a) := id rfl
theorem icC_gt {a b : Int} : icC .gt a b = (b < a) := id rfl
theorem icC_le {a b : Int} : icC .le a b = (a ≤ b) := id rfl
theorem swT_n {M : MD} {L : List (Option Value)} {st : List Value} {h : AH} {Q : Option Value → AH → Prop} {x z : Int} : swT M L st h Q x z [] = True := id rfl
theorem swT_c {M : MD} {L : List (Option Value)} {st : List Value} {h : AH} {Q : Option Value → AH → Prop} {x z : Int} {t : Nat} {ts : List Nat} : swT M L st h Q x z (t :: ts) = ((x = z → J M t L st h Q) ∧ swT M L st h Q x (z + 1) ts) := id rfl
/-! numbers -/
theorem zI_add (a b : Int) : zI a + zI b = zI (a + b) := (Int32.ofInt_add a b).symm
theorem zI_sub (a b : Int) : zI a - zI b = zI (a - b) := (Int32.ofInt_sub a b).symm
theorem zI_mul (a b : Int) : zI a * zI b = zI (a * b) := (Int32.ofInt_mul a b).symm
theorem zI_neg (a : Int) : - zI a = zI (-a) := (Int32.ofInt_neg a).symm
theorem zI_toInt {a : Int} (h1 : -2147483648 ≤ a) (h2 : a < 2147483648) : (zI a).toInt = a := Int32.toInt_ofInt_of_le h1 h2
theorem zI_of (x : Int32) : zI x.toInt = x := Int32.ofInt_toInt x
theorem zI_rng (x : Int32) : -2147483648 ≤ x.toInt ∧ x.toInt < 2147483648 := ⟨Int32.le_toInt x, Int32.toInt_lt x⟩
