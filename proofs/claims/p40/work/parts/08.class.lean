/-! wp -/
section
/-! ===== a stretch, instruction by instruction ===== -/
def kI (o : Option Value) (M : MD) (pc : Nat) (b : List BI) (L : List (Option Value)) (st : List Value) (h : AH) (Q : Option Value → AH → Prop) : Prop := gI o fun x => wpL M pc b L (.int x :: st) h Q
def kJ (o : Option Value) (M : MD) (pc : Nat) (b : List BI) (L : List (Option Value)) (st : List Value) (h : AH) (Q : Option Value → AH → Prop) : Prop := gJ o fun x => wpL M pc b L (.long x :: st) h Q
def kA (o : Option Value) (M : MD) (pc : Nat) (b : List BI) (L : List (Option Value)) (st : List Value) (h : AH) (Q : Option Value → AH → Prop) : Prop := gA o fun x => wpL M pc b L (.ref x :: st) h Q
def kN (o : Option Value) (i : Nat) (z : Int) (M : MD) (pc : Nat) (b : List BI) (L : List (Option Value)) (st : List Value) (h : AH) (Q : Option Value → AH → Prop) : Prop := gI o fun x => wpL M pc b (stL L i (.int (x + zI z))) st h Q
def kF (fs : List Value) (sl : Nat) (M : MD) (pc : Nat) (b : List BI) (L : List (Option Value)) (st : List Value) (h : AH) (Q : Option Value → AH → Prop) : Prop := gF fs sl fun v => wpL M pc b L (v :: st) h Q
def kG (c : Option AC) (ci sl : Nat) (M : MD) (pc : Nat) (b : List BI) (L : List (Option Value)) (st : List Value) (h : AH) (Q : Option Value → AH → Prop) : Prop := gObj c fun cj fs => cj = ci ∧ kF fs sl M pc b L st h Q
def kP (c : Option AC) (ci sl : Nat) (z : Int) (r : Nat) (v : Value) (M : MD) (pc : Nat) (b : List BI) (L : List (Option Value)) (st : List Value) (h : AH) (Q : Option Value → AH → Prop) : Prop := gObj c fun cj fs => cj = ci ∧ sl < fs.length ∧ fitV z v ∧ wpL M pc b L st (hU h r (.inr (.inr (ci, sF fs sl v)))) Q
def kL (c : Option AC) (x : Int32) (M : MD) (pc : Nat) (b : List BI) (L : List (Option Value)) (st : List Value) (h : AH) (Q : Option Value → AH → Prop) : Prop := gArr c fun z g => (0 ≤ x.toInt ∧ x.toInt < z) ∧ wpL M pc b L (.int (g x.toInt.toNat) :: st) h Q
def kS (c : Option AC) (a : Nat) (x y : Int32) (M : MD) (pc : Nat) (b : List BI) (L : List (Option Value)) (st : List Value) (h : AH) (Q : Option Value → AH → Prop) : Prop := gArr c fun z g => (0 ≤ x.toInt ∧ x.toInt < z) ∧ wpL M pc b L st (hU h a (.inl (z, upd g x.toInt.toNat y))) Q
def kO (o : Option Nat) (M : MD) (pc : Nat) (b : List BI) (L : List (Option Value)) (st : List Value) (h : AH) (Q : Option Value → AH → Prop) : Prop := gO o fun r => wpL M pc b L (.ref r :: st) h Q
def kQ (c : Option AC) (x : Int32) (M : MD) (pc : Nat) (b : List BI) (L : List (Option Value)) (st : List Value) (h : AH) (Q : Option Value → AH → Prop) : Prop := gRef c fun z g => (0 ≤ x.toInt ∧ x.toInt < z) ∧ kO (g x.toInt.toNat) M pc b L st h Q
def kT (c c2 : Option AC) (a r : Nat) (x : Int32) (M : MD) (pc : Nat) (b : List BI) (L : List (Option Value)) (st : List Value) (h : AH) (Q : Option Value → AH → Prop) : Prop := gRef c fun z g => (0 ≤ x.toInt ∧ x.toInt < z) ∧ gObj c2 fun ci _ => ci = 4 ∧ wpL M pc b L st (hU h a (.inr (.inl (z, va_up g x.toInt.toNat (some r))))) Q
def kLen (c : Option AC) (M : MD) (pc : Nat) (b : List BI) (L : List (Option Value)) (st : List Value) (h : AH) (Q : Option Value → AH → Prop) : Prop := gArr c fun z _ => wpL M pc b L (.int (zI z) :: st) h Q
def kY (c0 c : Option AC) (a : Nat) (sp dp nn : Int32) (M : MD) (pc : Nat) (b : List BI) (L : List (Option Value)) (st : List Value) (h : AH) (Q : Option Value → AH → Prop) : Prop := gArr c0 fun n0 g => gArr c fun n1 _ => st.length ≤ 4 ∧ sp.toInt = 0 ∧ dp.toInt = 0 ∧ nn.toInt = n0 ∧ n0 = n1 ∧ wpL M pc b L st (hU h a (.inl (n1, g))) Q
def kRet (M : MD) (pc : Nat) (b : List BI) (L : List (Option Value)) (st : List Value) (Q : Option Value → AH → Prop) : Option Value → AH → Prop := fun v h' => wpL M pc b L (pushO v st) h' Q
def kC (c : Option AC) (ci : Nat) (Y : MD) (as : List Value) (M : MD) (pc : Nat) (b : List BI) (L : List (Option Value)) (st : List Value) (h : AH) (Q : Option Value → AH → Prop) : Prop := gObj c fun cj _ => cj = ci ∧ st.length ≤ 4 ∧ Con Y as h (kRet M pc b L st Q)
section WP
variable {M : MD} {pc n : Nat} {f : INF} {b : List BI} {L : List (Option Value)} {st : List Value} {h : AH} {Q : Option Value → AH → Prop}
theorem cm_ : wpL M pc [] L st h Q = J M pc L st h Q := id rfl
theorem aq_ {i : Nat} : wpL M pc ((.iload i, n, f) :: b) L st h Q = kI (ldV L i) M (pc + n) b L st h Q := id rfl
theorem a1_ {i : Nat} : wpL M pc ((.lload i, n, f) :: b) L st h Q = kJ (ldV L i) M (pc + n) b L st h Q := id rfl
theorem ay_ {i : Nat} : wpL M pc ((.aload i, n, f) :: b) L st h Q = kA (ldV L i) M (pc + n) b L st h Q := id rfl
theorem ag_ {i : Nat} {x : Int32} : wpL M pc ((.istore i, n, f) :: b) L (.int x :: st) h Q = wpL M (pc + n) b (stL L i (.int x)) st h Q := id rfl
theorem aj_ {i : Nat} {x : Int64} : wpL M pc ((.lstore i, n, f) :: b) L (.long x :: st) h Q = wpL M (pc + n) b (clL (stL L i (.long x)) (i + 1)) st h Q := id rfl
theorem ak_ {i : Nat} {x : Nat} : wpL M pc ((.astore i, n, f) :: b) L (.ref x :: st) h Q = wpL M (pc + n) b (stL L i (.ref x)) st h Q := id rfl
theorem b8_ {i : Nat} {z : Int} : wpL M pc ((.iinc i z, n, f) :: b) L st h Q = kN (ldV L i) i z M (pc + n) b L st h Q := id rfl
theorem af_ {z : Int} : wpL M pc ((.bipush z, n, f) :: b) L st h Q = wpL M (pc + n) b L (.int (zI z) :: st) h Q := id rfl
theorem cg_ {i x y : Nat} {z : Int} {l : List Nat} : wpL M pc ((.ldc i, n, .inl (x, y, z, l)) :: b) L st h Q = wpL M (pc + n) b L (.int (zI z) :: st) h Q := id rfl
theorem bm_ {i x y : Nat} {z : Int} {l : List Nat} : wpL M pc ((.ldc2_w i, n, .inl (x, y, z, l)) :: b) L st h Q = wpL M (pc + n) b L (.long (zJ z) :: st) h Q := id rfl
theorem ah_ {i : Fin 2} {x y : Nat} {z : Int} {l : List Nat} : wpL M pc ((.lconst i, n, .inl (x, y, z, l)) :: b) L st h Q = wpL M (pc + n) b L (.long (zJ z) :: st) h Q := id rfl
section BIN
variable {x y : Int32} {u v : Int64}
theorem ba_ : wpL M pc ((.iadd, n, f) :: b) L (.int y :: .int x :: st) h Q = wpL M (pc + n) b L (.int (x + y) :: st) h Q := id rfl
theorem bc_ : wpL M pc ((.isub, n, f) :: b) L (.int y :: .int x :: st) h Q = wpL M (pc + n) b L (.int (x - y) :: st) h Q := id rfl
theorem bx_ : wpL M pc ((.imul, n, f) :: b) L (.int y :: .int x :: st) h Q = wpL M (pc + n) b L (.int (x * y) :: st) h Q := id rfl
theorem bb_ : wpL M pc ((.iand, n, f) :: b) L (.int y :: .int x :: st) h Q = wpL M (pc + n) b L (.int (x &&& y) :: st) h Q := id rfl
theorem cp_ : wpL M pc ((.ior, n, f) :: b) L (.int y :: .int x :: st) h Q = wpL M (pc + n) b L (.int (x ||| y) :: st) h Q := id rfl
theorem bf_ : wpL M pc ((.ixor, n, f) :: b) L (.int y :: .int x :: st) h Q = wpL M (pc + n) b L (.int (x ^^^ y) :: st) h Q := id rfl
theorem b3_ : wpL M pc ((.ishl, n, f) :: b) L (.int y :: .int x :: st) h Q = wpL M (pc + n) b L (.int (x <<< (y &&& 31)) :: st) h Q := id rfl
theorem bv_ : wpL M pc ((.ishr, n, f) :: b) L (.int y :: .int x :: st) h Q = wpL M (pc + n) b L (.int (x >>> (y &&& 31)) :: st) h Q := id rfl
theorem ap_ : wpL M pc ((.iushr, n, f) :: b) L (.int y :: .int x :: st) h Q = wpL M (pc + n) b L (.int ((x.toUInt32 >>> (y.toUInt32 &&& Int32.toUInt32 31)).toInt32) :: st) h Q := id rfl
theorem bh_ : wpL M pc ((.idiv, n, f) :: b) L (.int y :: .int x :: st) h Q = (y.toInt ≠ 0 ∧ wpL M (pc + n) b L (.int (x / y) :: st) h Q) := id rfl
theorem bl_ : wpL M pc ((.irem, n, f) :: b) L (.int y :: .int x :: st) h Q = (y.toInt ≠ 0 ∧ wpL M (pc + n) b L (.int (x - x / y * y) :: st) h Q) := id rfl
theorem bo_ : wpL M pc ((.ineg, n, f) :: b) L (.int x :: st) h Q = wpL M (pc + n) b L (.int (-x) :: st) h Q := id rfl
theorem c0_ : wpL M pc ((.i2l, n, f) :: b) L (.int x :: st) h Q = wpL M (pc + n) b L (.long x.toInt64 :: st) h Q := id rfl
theorem bp_ : wpL M pc ((.ladd, n, f) :: b) L (.long v :: .long u :: st) h Q = wpL M (pc + n) b L (.long (u + v) :: st) h Q := id rfl
theorem bw_ : wpL M pc ((.lsub, n, f) :: b) L (.long v :: .long u :: st) h Q = wpL M (pc + n) b L (.long (u - v) :: st) h Q := id rfl
theorem b0_ : wpL M pc ((.lmul, n, f) :: b) L (.long v :: .long u :: st) h Q = wpL M (pc + n) b L (.long (u * v) :: st) h Q := id rfl
theorem bi_ : wpL M pc ((.ldiv, n, f) :: b) L (.long v :: .long u :: st) h Q = (v ≠ 0 ∧ wpL M (pc + n) b L (.long (u / v) :: st) h Q) := id rfl
theorem br_ : wpL M pc ((.lrem, n, f) :: b) L (.long v :: .long u :: st) h Q = (v ≠ 0 ∧ wpL M (pc + n) b L (.long (u - u / v * v) :: st) h Q) := id rfl
theorem bz_ : wpL M pc ((.lcmp, n, f) :: b) L (.long v :: .long u :: st) h Q = wpL M (pc + n) b L (.int (lg_cmp u v) :: st) h Q := id rfl
theorem bk_ : wpL M pc ((.dup, n, f) :: b) L (.int x :: st) h Q = wpL M (pc + n) b L (.int x :: .int x :: st) h Q := id rfl
theorem bg_ {r : Nat} : wpL M pc ((.dup, n, f) :: b) L (.ref r :: st) h Q = wpL M (pc + n) b L (.ref r :: .ref r :: st) h Q := id rfl
theorem bu_ {r : Nat} : wpL M pc ((.dup2, n, f) :: b) L (.int x :: .ref r :: st) h Q = wpL M (pc + n) b L (.int x :: .ref r :: .int x :: .ref r :: st) h Q := id rfl
theorem b4_ : wpL M pc ((.pop, n, f) :: b) L (.int x :: st) h Q = wpL M (pc + n) b L st h Q := id rfl
theorem be_ {r : Nat} : wpL M pc ((.pop, n, f) :: b) L (.ref r :: st) h Q = wpL M (pc + n) b L st h Q := id rfl
theorem aa_ {a : Nat} : wpL M pc ((.arraylength, n, f) :: b) L (.ref a :: st) h Q = kLen (h a) M (pc + n) b L st h Q := id rfl
theorem am_ {a : Nat} : wpL M pc ((.iaload, n, f) :: b) L (.int x :: .ref a :: st) h Q = kL (h a) x M (pc + n) b L st h Q := id rfl
theorem ae_ {a : Nat} : wpL M pc ((.iastore, n, f) :: b) L (.int y :: .int x :: .ref a :: st) h Q = kS (h a) a x y M (pc + n) b L st h Q := id rfl
theorem ai_ {a : Nat} : wpL M pc ((.aaload, n, f) :: b) L (.int x :: .ref a :: st) h Q = kQ (h a) x M (pc + n) b L st h Q := id rfl
theorem ad_ {a r : Nat} : wpL M pc ((.aastore, n, f) :: b) L (.ref r :: .int x :: .ref a :: st) h Q = kT (h a) (h r) a r x M (pc + n) b L st h Q := id rfl
theorem ac_ {i ci sl r : Nat} {z : Int} {l : List Nat} : wpL M pc ((.getfield i, n, .inl (ci, sl, z, l)) :: b) L (.ref r :: st) h Q = kG (h r) ci sl M (pc + n) b L st h Q := id rfl
theorem b2_ {i ci sl r : Nat} {z : Int} {l : List Nat} : wpL M pc ((.putfield i, n, .inl (ci, sl, z, l)) :: b) L (.int x :: .ref r :: st) h Q = kP (h r) ci sl z r (.int x) M (pc + n) b L st h Q := id rfl
theorem bj_ {i ci sl r q : Nat} {z : Int} {l : List Nat} : wpL M pc ((.putfield i, n, .inl (ci, sl, z, l)) :: b) L (.ref q :: .ref r :: st) h Q = kP (h r) ci sl z r (.ref q) M (pc + n) b L st h Q := id rfl
theorem bq_ {o z : Int} {t y : Nat} {l : List Nat} : wpL M pc ((.goto o, n, .inl (t, y, z, l)) :: b) L st h Q = J M t L st h Q := id rfl
theorem ed_ {c : ClassFile.Cond} {o z : Int} {t w : Nat} {l : List Nat} : wpL M pc ((.ifCond c o, n, .inl (t, w, z, l)) :: b) L (.int x :: st) h Q = ((icC c x.toInt 0 → J M t L st h Q) ∧ (¬ icC c x.toInt 0 → wpL M (pc + n) b L st h Q)) := id rfl
theorem bs_ {c : ClassFile.Cond} {o z : Int} {t w : Nat} {l : List Nat} : wpL M pc ((.if_icmp c o, n, .inl (t, w, z, l)) :: b) L (.int y :: .int x :: st) h Q = ((icC c x.toInt y.toInt → J M t L st h Q) ∧ (¬ icC c x.toInt y.toInt → wpL M (pc + n) b L st h Q)) := id rfl
theorem al_ {o : Int} {r : Nat} : wpL M pc ((.ifnull o, n, f) :: b) L (.ref r :: st) h Q = wpL M (pc + n) b L st h Q := id rfl
theorem ab_ {o z : Int} {t w r : Nat} {l : List Nat} : wpL M pc ((.ifnonnull o, n, .inl (t, w, z, l)) :: b) L (.ref r :: st) h Q = J M t L st h Q := id rfl
theorem a0_ {d lo hi z : Int} {os : Array Int} {t w : Nat} {l : List Nat} : wpL M pc ((.tableswitch d lo hi os, n, .inl (t, w, z, l)) :: b) L (.int x :: st) h Q = (swT M L st h Q x.toInt z l ∧ ((x.toInt < z ∨ z + (l.length : Int) ≤ x.toInt) → J M t L st h Q)) := id rfl
theorem ao_ {w : Nat} {z : Int} {l : List Nat} : wpL M pc ((.ireturn, n, .inl (0, w, z, l)) :: b) L [.int x] h Q = Q (some (.int x)) h := by
  show ([] = [] ∧ (0 = 0 ∨ _) ∧ _) = _
  simp
theorem as_ {w : Nat} {z : Int} {l : List Nat} : wpL M pc ((.ireturn, n, .inl (1, w, z, l)) :: b) L [.int x] h Q = ((x.toInt = 0 ∨ x.toInt = 1) ∧ Q (some (.int x)) h) := by
  show ([] = [] ∧ (1 = 0 ∨ _) ∧ _) = _
  simp
theorem b6_ : wpL M pc ((.lreturn, n, f) :: b) L [.long u] h Q = Q (some (.long u)) h := by
  show ([] = [] ∧ _) = _
  simp
theorem c4_ : wpL M pc ((.return_, n, f) :: b) L [] h Q = Q none h := by
  show ([] = [] ∧ _) = _
  simp
theorem a2_ {i ci r : Nat} {Y : MD} : wpL M pc ((.invokevirtual i, n, .inr (0, ci, Y)) :: b) L (.ref r :: st) h Q = kC (h r) ci Y [.ref r] M (pc + n) b L st h Q := id rfl
theorem az_ {i ci r : Nat} {Y : MD} {u1 : Value} : wpL M pc ((.invokevirtual i, n, .inr (1, ci, Y)) :: b) L (u1 :: .ref r :: st) h Q = kC (h r) ci Y [.ref r, u1] M (pc + n) b L st h Q := id rfl
theorem ar_ {i ci r : Nat} {Y : MD} {u1 : Value} {u2 : Value} : wpL M pc ((.invokevirtual i, n, .inr (2, ci, Y)) :: b) L (u2 :: u1 :: .ref r :: st) h Q = kC (h r) ci Y [.ref r, u1, u2] M (pc + n) b L st h Q := id rfl
theorem au_ {i ci r : Nat} {Y : MD} {u1 : Value} {u2 : Value} {u3 : Value} : wpL M pc ((.invokevirtual i, n, .inr (3, ci, Y)) :: b) L (u3 :: u2 :: u1 :: .ref r :: st) h Q = kC (h r) ci Y [.ref r, u1, u2, u3] M (pc + n) b L st h Q := id rfl
theorem a3_ {i ci r : Nat} {Y : MD} {u1 : Value} {u2 : Value} {u3 : Value} {u4 : Value} : wpL M pc ((.invokevirtual i, n, .inr (4, ci, Y)) :: b) L (u4 :: u3 :: u2 :: u1 :: .ref r :: st) h Q = kC (h r) ci Y [.ref r, u1, u2, u3, u4] M (pc + n) b L st h Q := id rfl
theorem ax_ {i ci : Nat} {Y : MD} : wpL M pc ((.invokestatic i, n, .inr (0, ci, Y)) :: b) L (st) h Q = (st.length ≤ 4 ∧ Con Y [] h (kRet M (pc + n) b L st Q)) := id rfl
theorem av_ {i ci : Nat} {Y : MD} {u1 : Value} : wpL M pc ((.invokestatic i, n, .inr (1, ci, Y)) :: b) L (u1 :: st) h Q = (st.length ≤ 4 ∧ Con Y [u1] h (kRet M (pc + n) b L st Q)) := id rfl
theorem a4_ {i ci : Nat} {Y : MD} {u1 : Value} {u2 : Value} : wpL M pc ((.invokestatic i, n, .inr (2, ci, Y)) :: b) L (u2 :: u1 :: st) h Q = (st.length ≤ 4 ∧ Con Y [u1, u2] h (kRet M (pc + n) b L st Q)) := id rfl
theorem aw_ {i ci : Nat} {Y : MD} {u1 : Value} {u2 : Value} {u3 : Value} : wpL M pc ((.invokestatic i, n, .inr (3, ci, Y)) :: b) L (u3 :: u2 :: u1 :: st) h Q = (st.length ≤ 4 ∧ Con Y [u1, u2, u3] h (kRet M (pc + n) b L st Q)) := id rfl
theorem c1_ {i w : Nat} {z : Int} {l : List Nat} : wpL M pc ((.invokestatic i, n, .inl (1, w, z, l)) :: b) L (.int y :: .int x :: st) h Q = (st.length ≤ 4 ∧ wpL M (pc + n) b L (.int (zI (max x.toInt y.toInt)) :: st) h Q) := id rfl
theorem cw_ {i w : Nat} {z : Int} {l : List Nat} : wpL M pc ((.invokestatic i, n, .inl (2, w, z, l)) :: b) L (.int y :: .int x :: st) h Q = (st.length ≤ 4 ∧ wpL M (pc + n) b L (.int (zI (min x.toInt y.toInt)) :: st) h Q) := id rfl
theorem cn_ {i w a a0 : Nat} {sp dp nn : Int32} {z : Int} {l : List Nat} : wpL M pc ((.invokestatic i, n, .inl (3, w, z, l)) :: b) L (.int nn :: .int dp :: .ref a :: .int sp :: .ref a0 :: st) h Q = kY (h a0) (h a) a sp dp nn M (pc + n) b L st h Q := id rfl
end BIN
end WP
theorem dw_ {x : Option Value} {t : List (Option Value)} : ldV (x :: t) 0 = x := id rfl
theorem d6_ {x : Option Value} {t : List (Option Value)} {n : Nat} : ldV (x :: t) (n + 1) = ldV t n := id rfl
theorem dx_ {x : Option Value} {t : List (Option Value)} {v : Value} : stL (x :: t) 0 v = some v :: t := id rfl
theorem ea_ {x y : Option Value} {t : List (Option Value)} {v : Value} : stL (x :: y :: t) 1 v = killL x :: some v :: t := id rfl
theorem d3_ {x y : Option Value} {t : List (Option Value)} {n : Nat} {v : Value} : stL (x :: y :: t) (n + 2) v = x :: stL (y :: t) (n + 1) v := id rfl
theorem bn_ : killL none = none := id rfl
theorem b5_ {x : Int32} : killL (some (.int x)) = some (.int x) := id rfl
theorem b1_ {x : Nat} : killL (some (.ref x)) = some (.ref x) := id rfl
theorem b7_ {x : Int64} : killL (some (.long x)) = none := id rfl
theorem d9_ {x : Option Value} {t : List (Option Value)} : clL (x :: t) 0 = none :: t := id rfl
theorem d7_ {x : Option Value} {t : List (Option Value)} {n : Nat} : clL (x :: t) (n + 1) = x :: clL t n := id rfl
theorem fl_ {v w : Value} {t : List Value} : sF (w :: t) 0 v = v :: t := id rfl
theorem fn_ {v w : Value} {t : List Value} {n : Nat} : sF (w :: t) (n + 1) v = w :: sF t n v := id rfl
theorem fh_ {M : MD} {pc : Nat} {b : List BI} {L : List (Option Value)} {st : List Value} {h : AH} {Q : Option Value → AH → Prop} {x : Int32} : kI (some (.int x)) M pc b L st h Q = wpL M pc b L (.int x :: st) h Q := id rfl
theorem fw_ {M : MD} {pc : Nat} {b : List BI} {L : List (Option Value)} {st : List Value} {h : AH} {Q : Option Value → AH → Prop} {x : Int64} : kJ (some (.long x)) M pc b L st h Q = wpL M pc b L (.long x :: st) h Q := id rfl
theorem fu_ {M : MD} {pc : Nat} {b : List BI} {L : List (Option Value)} {st : List Value} {h : AH} {Q : Option Value → AH → Prop} {x : Nat} : kA (some (.ref x)) M pc b L st h Q = wpL M pc b L (.ref x :: st) h Q := id rfl
theorem fp_ {M : MD} {pc : Nat} {b : List BI} {L : List (Option Value)} {st : List Value} {h : AH} {Q : Option Value → AH → Prop} {x : Int32} {i : Nat} {z : Int} : kN (some (.int x)) i z M pc b L st h Q = wpL M pc b (stL L i (.int (x + zI z))) st h Q := id rfl
theorem fz_ {M : MD} {pc : Nat} {b : List BI} {L : List (Option Value)} {st : List Value} {h : AH} {Q : Option Value → AH → Prop} {v : Value} {t : List Value} : kF (v :: t) 0 M pc b L st h Q = wpL M pc b L (v :: st) h Q := id rfl
theorem fq_ {M : MD} {pc : Nat} {b : List BI} {L : List (Option Value)} {st : List Value} {h : AH} {Q : Option Value → AH → Prop} {v : Value} {t : List Value} {m : Nat} : kF (v :: t) (m + 1) M pc b L st h Q = kF t m M pc b L st h Q := id rfl
theorem fk_ {M : MD} {pc : Nat} {b : List BI} {L : List (Option Value)} {st : List Value} {h : AH} {Q : Option Value → AH → Prop} {cj ci sl : Nat} {fs : List Value} : kG (some (.inr (.inr (cj, fs)))) ci sl M pc b L st h Q = (cj = ci ∧ kF fs sl M pc b L st h Q) := id rfl
theorem fr_ {M : MD} {pc : Nat} {b : List BI} {L : List (Option Value)} {st : List Value} {h : AH} {Q : Option Value → AH → Prop} {cj ci sl r : Nat} {fs : List Value} {z : Int} {v : Value} : kP (some (.inr (.inr (cj, fs)))) ci sl z r v M pc b L st h Q = (cj = ci ∧ sl < fs.length ∧ fitV z v ∧ wpL M pc b L st (hU h r (.inr (.inr (ci, sF fs sl v)))) Q) := id rfl
theorem ft_ {M : MD} {pc : Nat} {b : List BI} {L : List (Option Value)} {st : List Value} {h : AH} {Q : Option Value → AH → Prop} {z : Nat} {g : Nat → Int32} {x : Int32} : kL (some (.inl (z, g))) x M pc b L st h Q = ((0 ≤ x.toInt ∧ x.toInt < z) ∧ wpL M pc b L (.int (g x.toInt.toNat) :: st) h Q) := id rfl
theorem fs_ {M : MD} {pc : Nat} {b : List BI} {L : List (Option Value)} {st : List Value} {h : AH} {Q : Option Value → AH → Prop} {z a : Nat} {g : Nat → Int32} {x y : Int32} : kS (some (.inl (z, g))) a x y M pc b L st h Q = ((0 ≤ x.toInt ∧ x.toInt < z) ∧ wpL M pc b L st (hU h a (.inl (z, upd g x.toInt.toNat y))) Q) := id rfl
theorem fj_ {M : MD} {pc : Nat} {b : List BI} {L : List (Option Value)} {st : List Value} {h : AH} {Q : Option Value → AH → Prop} {r : Nat} : kO (some r) M pc b L st h Q = wpL M pc b L (.ref r :: st) h Q := id rfl
theorem fi_ {M : MD} {pc : Nat} {b : List BI} {L : List (Option Value)} {st : List Value} {h : AH} {Q : Option Value → AH → Prop} {z : Nat} {g : Nat → Option Nat} {x : Int32} : kQ (some (.inr (.inl (z, g)))) x M pc b L st h Q = ((0 ≤ x.toInt ∧ x.toInt < z) ∧ kO (g x.toInt.toNat) M pc b L st h Q) := id rfl
theorem fx_ {M : MD} {pc : Nat} {b : List BI} {L : List (Option Value)} {st : List Value} {h : AH} {Q : Option Value → AH → Prop} {z a r ci : Nat} {fs : List Value} {g : Nat → Option Nat} {x : Int32} : kT (some (.inr (.inl (z, g)))) (some (.inr (.inr (ci, fs)))) a r x M pc b L st h Q = ((0 ≤ x.toInt ∧ x.toInt < z) ∧ ci = 4 ∧ wpL M pc b L st (hU h a (.inr (.inl (z, va_up g x.toInt.toNat (some r))))) Q) := id rfl
theorem cu_ {M : MD} {pc : Nat} {b : List BI} {L : List (Option Value)} {st : List Value} {h : AH} {Q : Option Value → AH → Prop} {z : Nat} {g : Nat → Int32} : kLen (some (.inl (z, g))) M pc b L st h Q = wpL M pc b L (.int (zI z) :: st) h Q := id rfl
theorem fo_ {M : MD} {pc : Nat} {b : List BI} {L : List (Option Value)} {st : List Value} {h : AH} {Q : Option Value → AH → Prop} {n0 n1 a : Nat} {g g1 : Nat → Int32} {sp dp nn : Int32} : kY (some (.inl (n0, g))) (some (.inl (n1, g1))) a sp dp nn M pc b L st h Q = (st.length ≤ 4 ∧ sp.toInt = 0 ∧ dp.toInt = 0 ∧ nn.toInt = n0 ∧ n0 = n1 ∧ wpL M pc b L st (hU h a (.inl (n1, g))) Q) := id rfl
theorem f0_ {M : MD} {pc : Nat} {b : List BI} {L : List (Option Value)} {st : List Value} {h : AH} {Q : Option Value → AH → Prop} {cj ci : Nat} {fs : List Value} {Y : MD} {as : List Value} : kC (some (.inr (.inr (cj, fs)))) ci Y as M pc b L st h Q = (cj = ci ∧ st.length ≤ 4 ∧ Con Y as h (kRet M pc b L st Q)) := id rfl
theorem c5_ {M : MD} {pc : Nat} {b : List BI} {L : List (Option Value)} {st : List Value} {h : AH} {Q : Option Value → AH → Prop} {v : Option Value} : kRet M pc b L st Q v h = wpL M pc b L (pushO v st) h Q := id rfl
theorem bt_ {st : List Value} : pushO none st = st := id rfl
theorem bd_ {st : List Value} {v : Value} : pushO (some v) st = v :: st := id rfl
theorem c3_ {x : Int32} : fitV 0 (.int x) = True := id rfl
theorem ck_ {x : Int32} : fitV 1 (.int x) = (x.toInt = 0 ∨ x.toInt = 1) := id rfl
theorem c2_ {x : Nat} : fitV 2 (.ref x) = True := id rfl
theorem ct_ {a b : Int} : icC .eq a b = (a = b) := id rfl
theorem cx_ {a b : Int} : icC .ne a b = (¬ a = b) := id rfl
theorem co_ {a b : Int} : icC .lt a b = (a < b) := id rfl
theorem cr_ {a b : Int} : icC .ge a b = (b ≤ a) := id rfl
theorem cz_ {a b : Int} : icC .gt a b = (b < a) := id rfl
theorem cj_ {a b : Int} : icC .le a b = (a ≤ b) := id rfl
theorem eb_ {M : MD} {L : List (Option Value)} {st : List Value} {h : AH} {Q : Option Value → AH → Prop} {x z : Int} : swT M L st h Q x z [] = True := id rfl
theorem d5_ {M : MD} {L : List (Option Value)} {st : List Value} {h : AH} {Q : Option Value → AH → Prop} {x z : Int} {t : Nat} {ts : List Nat} : swT M L st h Q x z (t :: ts) = ((x = z → J M t L st h Q) ∧ swT M L st h Q x (z + 1) ts) := id rfl
/-! numbers -/
theorem cf_ (a b : Int) : zI a + zI b = zI (a + b) := (Int32.ofInt_add a b).symm
theorem ch_ (a b : Int) : zI a - zI b = zI (a - b) := (Int32.ofInt_sub a b).symm
theorem ci_ (a b : Int) : zI a * zI b = zI (a * b) := (Int32.ofInt_mul a b).symm
theorem cy_ (a : Int) : - zI a = zI (-a) := (Int32.ofInt_neg a).symm
theorem an_ {a : Int} (h1 : -2147483648 ≤ a) (h2 : a < 2147483648) : (zI a).toInt = a := Int32.toInt_ofInt_of_le h1 h2
theorem zI_of (x : Int32) : zI x.toInt = x := Int32.ofInt_toInt x
theorem zI_rng (x : Int32) : -2147483648 ≤ x.toInt ∧ x.toInt < 2147483648 := ⟨Int32.le_toInt x, Int32.toInt_lt x⟩
end
/-! realm -/
section
/-! ===== the realm: what its six cells hold ===== -/
abbrev RR : Type := (Nat → Int) × (Nat → Int) × (Nat → Int) × (Nat → Int) × (Nat → Int) × Int × Int × Int × Int × Int
def mkR (sl ki fi fa wo : Nat → Int) (men king load snow day : Int) : RR := (sl, ki, fi, fa, wo, men, king, load, snow, day)
def rSl (R : RR) : Nat → Int := R.1
def rKi (R : RR) : Nat → Int := R.2.1
def rFi (R : RR) : Nat → Int := R.2.2.1
def rFa (R : RR) : Nat → Int := R.2.2.2.1
def rWo (R : RR) : Nat → Int := R.2.2.2.2.1
def rMen (R : RR) : Int := R.2.2.2.2.2.1
def hd_ (R : RR) : Int := R.2.2.2.2.2.2.1
def rLoad (R : RR) : Int := R.2.2.2.2.2.2.2.1
def rSnow (R : RR) : Int := R.2.2.2.2.2.2.2.2.1
def hh_ (R : RR) : Int := R.2.2.2.2.2.2.2.2.2
section RP
variable {sl ki fi fa wo : Nat → Int} {men king load snow day : Int}
theorem dt_ : rSl (mkR sl ki fi fa wo men king load snow day) = sl := id rfl
theorem dv_ : rKi (mkR sl ki fi fa wo men king load snow day) = ki := id rfl
theorem du_ : rFi (mkR sl ki fi fa wo men king load snow day) = fi := id rfl
theorem dr_ : rFa (mkR sl ki fi fa wo men king load snow day) = fa := id rfl
theorem ds_ : rWo (mkR sl ki fi fa wo men king load snow day) = wo := id rfl
theorem cd_ : rMen (mkR sl ki fi fa wo men king load snow day) = men := id rfl
theorem a9_ : hd_ (mkR sl ki fi fa wo men king load snow day) = king := id rfl
theorem a8_ : rLoad (mkR sl ki fi fa wo men king load snow day) = load := id rfl
theorem a7_ : rSnow (mkR sl ki fi fa wo men king load snow day) = snow := id rfl
theorem ce_ : hh_ (mkR sl ki fi fa wo men king load snow day) = day := id rfl
end RP
theorem f4_ (R : RR) : mkR (rSl R) (rKi R) (rFi R) (rFa R) (rWo R) (rMen R) (hd_ R) (rLoad R) (rSnow R) (hh_ R) = R := rfl
def upI (f : Nat → Int) (k : Nat) (x : Int) : Nat → Int := fun j => if j = k then x else f j
theorem cl_ (f : Nat → Int) (k : Nat) (x : Int) : upd (fun j => zI (f j)) k (zI x) = fun j => zI (upI f k x j) := by
  funext j
  simp only [upd, upI]
  split <;> rfl
def he_ (h : AH) (r : Nat) (R : RR) : AH := fun k =>
  if k = r then some (.inr (.inr (4, [.ref (r + 1), .ref (r + 2), .ref (r + 3), .ref (r + 4), .ref (r + 5), .int (zI (rMen R)), .int (zI (hd_ R)), .int (zI (rLoad R)), .int (zI (rSnow R)), .int (zI (hh_ R))])))
  else if k = r + 1 then some (.inl (12, fun j => zI (rSl R j)))
  else if k = r + 2 then some (.inl (8, fun j => zI (rKi R j)))
  else if k = r + 3 then some (.inl (8, fun j => zI (rFi R j)))
  else if k = r + 4 then some (.inl (8, fun j => zI (rFa R j)))
  else if k = r + 5 then some (.inl (8, fun j => zI (rWo R j)))
  else h k
section SR
variable {h : AH} {r : Nat} {R : RR}
theorem fb_ : he_ h r R r = some (.inr (.inr (4, [.ref (r + 1), .ref (r + 2), .ref (r + 3), .ref (r + 4), .ref (r + 5), .int (zI (rMen R)), .int (zI (hd_ R)), .int (zI (rLoad R)), .int (zI (rSnow R)), .int (zI (hh_ R))]))) := by simp [he_]
theorem fe_ : he_ h r R (r + 1) = some (.inl (12, fun j => zI (rSl R j))) := by simp [he_]
theorem ff_ : he_ h r R (r + 2) = some (.inl (8, fun j => zI (rKi R j))) := by simp [he_]
theorem fg_ : he_ h r R (r + 3) = some (.inl (8, fun j => zI (rFi R j))) := by simp [he_]
theorem fc_ : he_ h r R (r + 4) = some (.inl (8, fun j => zI (rFa R j))) := by simp [he_]
theorem fd_ : he_ h r R (r + 5) = some (.inl (8, fun j => zI (rWo R j))) := by simp [he_]
theorem sR_o {k : Nat} (hk : k < r ∨ r + 5 < k) : he_ h r R k = h k := by
  simp only [he_]
  rw [if_neg (by omega), if_neg (by omega), if_neg (by omega), if_neg (by omega), if_neg (by omega), if_neg (by omega)]
theorem ec_ {R2 : RR} : he_ (he_ h r R) r R2 = he_ h r R2 := by
  funext k
  by_cases e0 : k = r
  · subst e0; simp [ he_]
  by_cases e1 : k = r + 1
  · subst e1; simp [ he_]
  by_cases e2 : k = r + 2
  · subst e2; simp [ he_]
  by_cases e3 : k = r + 3
  · subst e3; simp [ he_]
  by_cases e4 : k = r + 4
  · subst e4; simp [ he_]
  by_cases e5 : k = r + 5
  · subst e5; simp [ he_]
  simp [ he_, e0, e1, e2, e3, e4, e5]
theorem sR_comm {r2 : Nat} {R2 : RR} (hr : r + 5 < r2 ∨ r2 + 5 < r) : he_ (he_ h r R) r2 R2 = he_ (he_ h r2 R2) r R := by
  funext k
  by_cases h1 : r ≤ k ∧ k ≤ r + 5
  · rw [sR_o (by omega)]
    have e : k = r ∨ k = r + 1 ∨ k = r + 2 ∨ k = r + 3 ∨ k = r + 4 ∨ k = r + 5 := by omega
    rcases e with rfl | rfl | rfl | rfl | rfl | rfl
    · rw [fb_, fb_]
    · rw [fe_, fe_]
    · rw [ff_, ff_]
    · rw [fg_, fg_]
    · rw [fc_, fc_]
    · rw [fd_, fd_]
  · rw [sR_o (r := r) (by omega)]
    by_cases h2 : r2 ≤ k ∧ k ≤ r2 + 5
    · have e : k = r2 ∨ k = r2 + 1 ∨ k = r2 + 2 ∨ k = r2 + 3 ∨ k = r2 + 4 ∨ k = r2 + 5 := by omega
      rcases e with rfl | rfl | rfl | rfl | rfl | rfl
      · rw [fb_, fb_]
      · rw [fe_, fe_]
      · rw [ff_, ff_]
      · rw [fg_, fg_]
      · rw [fc_, fc_]
      · rw [fd_, fd_]
    · rw [sR_o (by omega), sR_o (by omega), sR_o (by omega)]
theorem dy_ {a b c d e : Int} : hU (he_ h r R) r (.inr (.inr (4, [.ref (r + 1), .ref (r + 2), .ref (r + 3), .ref (r + 4), .ref (r + 5), .int (zI a), .int (zI b), .int (zI c), .int (zI d), .int (zI e)]))) = he_ h r (mkR (rSl R) (rKi R) (rFi R) (rFa R) (rWo R) a b c d e) := by
  funext k
  by_cases e0 : k = r
  · subst e0; simp [ hU, he_, dt_, dv_, du_, dr_, ds_, cd_, a9_, a8_, a7_, ce_]
  by_cases e1 : k = r + 1
  · subst e1; simp [ hU, he_, dt_, dv_, du_, dr_, ds_, cd_, a9_, a8_, a7_, ce_]
  by_cases e2 : k = r + 2
  · subst e2; simp [ hU, he_, dt_, dv_, du_, dr_, ds_, cd_, a9_, a8_, a7_, ce_]
  by_cases e3 : k = r + 3
  · subst e3; simp [ hU, he_, dt_, dv_, du_, dr_, ds_, cd_, a9_, a8_, a7_, ce_]
  by_cases e4 : k = r + 4
  · subst e4; simp [ hU, he_, dt_, dv_, du_, dr_, ds_, cd_, a9_, a8_, a7_, ce_]
  by_cases e5 : k = r + 5
  · subst e5; simp [ hU, he_, dt_, dv_, du_, dr_, ds_, cd_, a9_, a8_, a7_, ce_]
  simp [ hU, he_, dt_, dv_, du_, dr_, ds_, cd_, a9_, a8_, a7_, ce_, e0, e1, e2, e3, e4, e5]
theorem d2_ {f : Nat → Int} : hU (he_ h r R) (r + 1) (.inl (12, fun j => zI (f j))) = he_ h r (mkR f (rKi R) (rFi R) (rFa R) (rWo R) (rMen R) (hd_ R) (rLoad R) (rSnow R) (hh_ R)) := by
  funext k
  by_cases e0 : k = r
  · subst e0; simp [ hU, he_, dt_, dv_, du_, dr_, ds_, cd_, a9_, a8_, a7_, ce_]
  by_cases e1 : k = r + 1
  · subst e1; simp [ hU, he_, dt_, dv_, du_, dr_, ds_, cd_, a9_, a8_, a7_, ce_]
  by_cases e2 : k = r + 2
  · subst e2; simp [ hU, he_, dt_, dv_, du_, dr_, ds_, cd_, a9_, a8_, a7_, ce_]
  by_cases e3 : k = r + 3
  · subst e3; simp [ hU, he_, dt_, dv_, du_, dr_, ds_, cd_, a9_, a8_, a7_, ce_]
  by_cases e4 : k = r + 4
  · subst e4; simp [ hU, he_, dt_, dv_, du_, dr_, ds_, cd_, a9_, a8_, a7_, ce_]
  by_cases e5 : k = r + 5
  · subst e5; simp [ hU, he_, dt_, dv_, du_, dr_, ds_, cd_, a9_, a8_, a7_, ce_]
  simp [ hU, he_, dt_, dv_, du_, dr_, ds_, cd_, a9_, a8_, a7_, ce_, e0, e1, e2, e3, e4, e5]
theorem d4_ {f : Nat → Int} : hU (he_ h r R) (r + 2) (.inl (8, fun j => zI (f j))) = he_ h r (mkR (rSl R) f (rFi R) (rFa R) (rWo R) (rMen R) (hd_ R) (rLoad R) (rSnow R) (hh_ R)) := by
  funext k
  by_cases e0 : k = r
  · subst e0; simp [ hU, he_, dt_, dv_, du_, dr_, ds_, cd_, a9_, a8_, a7_, ce_]
  by_cases e1 : k = r + 1
  · subst e1; simp [ hU, he_, dt_, dv_, du_, dr_, ds_, cd_, a9_, a8_, a7_, ce_]
  by_cases e2 : k = r + 2
  · subst e2; simp [ hU, he_, dt_, dv_, du_, dr_, ds_, cd_, a9_, a8_, a7_, ce_]
  by_cases e3 : k = r + 3
  · subst e3; simp [ hU, he_, dt_, dv_, du_, dr_, ds_, cd_, a9_, a8_, a7_, ce_]
  by_cases e4 : k = r + 4
  · subst e4; simp [ hU, he_, dt_, dv_, du_, dr_, ds_, cd_, a9_, a8_, a7_, ce_]
  by_cases e5 : k = r + 5
  · subst e5; simp [ hU, he_, dt_, dv_, du_, dr_, ds_, cd_, a9_, a8_, a7_, ce_]
  simp [ hU, he_, dt_, dv_, du_, dr_, ds_, cd_, a9_, a8_, a7_, ce_, e0, e1, e2, e3, e4, e5]
theorem ee_ {f : Nat → Int} : hU (he_ h r R) (r + 3) (.inl (8, fun j => zI (f j))) = he_ h r (mkR (rSl R) (rKi R) f (rFa R) (rWo R) (rMen R) (hd_ R) (rLoad R) (rSnow R) (hh_ R)) := by
  funext k
  by_cases e0 : k = r
  · subst e0; simp [ hU, he_, dt_, dv_, du_, dr_, ds_, cd_, a9_, a8_, a7_, ce_]
  by_cases e1 : k = r + 1
  · subst e1; simp [ hU, he_, dt_, dv_, du_, dr_, ds_, cd_, a9_, a8_, a7_, ce_]
  by_cases e2 : k = r + 2
  · subst e2; simp [ hU, he_, dt_, dv_, du_, dr_, ds_, cd_, a9_, a8_, a7_, ce_]
  by_cases e3 : k = r + 3
  · subst e3; simp [ hU, he_, dt_, dv_, du_, dr_, ds_, cd_, a9_, a8_, a7_, ce_]
  by_cases e4 : k = r + 4
  · subst e4; simp [ hU, he_, dt_, dv_, du_, dr_, ds_, cd_, a9_, a8_, a7_, ce_]
  by_cases e5 : k = r + 5
  · subst e5; simp [ hU, he_, dt_, dv_, du_, dr_, ds_, cd_, a9_, a8_, a7_, ce_]
  simp [ hU, he_, dt_, dv_, du_, dr_, ds_, cd_, a9_, a8_, a7_, ce_, e0, e1, e2, e3, e4, e5]
theorem eg_ {f : Nat → Int} : hU (he_ h r R) (r + 4) (.inl (8, fun j => zI (f j))) = he_ h r (mkR (rSl R) (rKi R) (rFi R) f (rWo R) (rMen R) (hd_ R) (rLoad R) (rSnow R) (hh_ R)) := by
  funext k
  by_cases e0 : k = r
  · subst e0; simp [ hU, he_, dt_, dv_, du_, dr_, ds_, cd_, a9_, a8_, a7_, ce_]
  by_cases e1 : k = r + 1
  · subst e1; simp [ hU, he_, dt_, dv_, du_, dr_, ds_, cd_, a9_, a8_, a7_, ce_]
  by_cases e2 : k = r + 2
  · subst e2; simp [ hU, he_, dt_, dv_, du_, dr_, ds_, cd_, a9_, a8_, a7_, ce_]
  by_cases e3 : k = r + 3
  · subst e3; simp [ hU, he_, dt_, dv_, du_, dr_, ds_, cd_, a9_, a8_, a7_, ce_]
  by_cases e4 : k = r + 4
  · subst e4; simp [ hU, he_, dt_, dv_, du_, dr_, ds_, cd_, a9_, a8_, a7_, ce_]
  by_cases e5 : k = r + 5
  · subst e5; simp [ hU, he_, dt_, dv_, du_, dr_, ds_, cd_, a9_, a8_, a7_, ce_]
  simp [ hU, he_, dt_, dv_, du_, dr_, ds_, cd_, a9_, a8_, a7_, ce_, e0, e1, e2, e3, e4, e5]
theorem d8_ {f : Nat → Int} : hU (he_ h r R) (r + 5) (.inl (8, fun j => zI (f j))) = he_ h r (mkR (rSl R) (rKi R) (rFi R) (rFa R) f (rMen R) (hd_ R) (rLoad R) (rSnow R) (hh_ R)) := by
  funext k
  by_cases e0 : k = r
  · subst e0; simp [ hU, he_, dt_, dv_, du_, dr_, ds_, cd_, a9_, a8_, a7_, ce_]
  by_cases e1 : k = r + 1
  · subst e1; simp [ hU, he_, dt_, dv_, du_, dr_, ds_, cd_, a9_, a8_, a7_, ce_]
  by_cases e2 : k = r + 2
  · subst e2; simp [ hU, he_, dt_, dv_, du_, dr_, ds_, cd_, a9_, a8_, a7_, ce_]
  by_cases e3 : k = r + 3
  · subst e3; simp [ hU, he_, dt_, dv_, du_, dr_, ds_, cd_, a9_, a8_, a7_, ce_]
  by_cases e4 : k = r + 4
  · subst e4; simp [ hU, he_, dt_, dv_, du_, dr_, ds_, cd_, a9_, a8_, a7_, ce_]
  by_cases e5 : k = r + 5
  · subst e5; simp [ hU, he_, dt_, dv_, du_, dr_, ds_, cd_, a9_, a8_, a7_, ce_]
  simp [ hU, he_, dt_, dv_, du_, dr_, ds_, cd_, a9_, a8_, a7_, ce_, e0, e1, e2, e3, e4, e5]
end SR
def inI (a : Int) : Prop := -2147483648 ≤ a ∧ a < 2147483648
def b2i (b : Bool) : Int := if b then 1 else 0
theorem b2i_t : b2i true = 1 := id rfl
theorem b2i_f : b2i false = 0 := id rfl
theorem cv_ (b : Bool) : (zI (b2i b)).toInt = b2i b := by cases b <;> rfl
/-- numbers in their bounds -/
def GR (R : RR) : Prop := (0 ≤ rMen R ∧ rMen R ≤ 8) ∧ (0 ≤ hd_ R ∧ hd_ R ≤ 12) ∧ (1 ≤ rLoad R ∧ rLoad R ≤ 60) ∧ (0 ≤ rSnow R ∧ rSnow R ≤ 9) ∧ (∀ k, 0 ≤ rSl R k ∧ rSl R k ≤ 9) ∧ (∀ k, 0 ≤ rKi R k ∧ rKi R k ≤ 5) ∧ (∀ k, 0 ≤ rFi R k ∧ rFi R k ≤ 9) ∧ (∀ k, 0 ≤ rFa R k ∧ rFa R k ≤ 2) ∧ (∀ k, 0 ≤ rWo R k ∧ rWo R k ≤ 99)
theorem fy_ : ((4 : Nat) : Int) = 4 := id rfl
theorem fm_ : ((7 : Nat) : Int) = 7 := id rfl
theorem fv_ : ((8 : Nat) : Int) = 8 := id rfl
theorem d1_ : ((12 : Nat) : Int) = 12 := id rfl
theorem d0_ : ((49 : Nat) : Int) = 49 := id rfl
theorem dz_ : ((96 : Nat) : Int) = 96 := id rfl
theorem ef_ : ((98 : Nat) : Int) = 98 := id rfl
theorem cs_ : ((392 : Nat) : Int) = 392 := id rfl
end
/-! small -/
section
/-! ===== the realm's small methods ===== -/
theorem cq_ {a b : Int} (h1 : 0 ≤ a) (h2 : a < 2147483648) (h3 : 0 < b) (h4 : b < 2147483648) : zI a / zI b = zI (a / b) := by
  apply Int32.toInt_inj.mp
  have e1 := an_ (a := a) (by omega) h2
  have e2 := an_ (a := b) (by omega) h4
  have e3 : a / b ≤ a := Int.ediv_le_self b h1
  have e4 : 0 ≤ a / b := Int.ediv_nonneg h1 (by omega)
  rw [an_ (by omega) (by omega), Int32.toInt_div, e1, e2, Int.tdiv_eq_ediv_of_nonneg h1]
  exact Int.bmod_eq_of_le (by omega) (by omega)
theorem GR.men {R : RR} (h : GR R) : 0 ≤ rMen R ∧ rMen R ≤ 8 := h.1
theorem GR.king {R : RR} (h : GR R) : 0 ≤ hd_ R ∧ hd_ R ≤ 12 := h.2.1
theorem GR.load {R : RR} (h : GR R) : 1 ≤ rLoad R ∧ rLoad R ≤ 60 := h.2.2.1
theorem GR.snow {R : RR} (h : GR R) : 0 ≤ rSnow R ∧ rSnow R ≤ 9 := h.2.2.2.1
theorem GR.sl {R : RR} (h : GR R) (k : Nat) : 0 ≤ rSl R k ∧ rSl R k ≤ 9 := h.2.2.2.2.1 k
theorem GR.ki {R : RR} (h : GR R) (k : Nat) : 0 ≤ rKi R k ∧ rKi R k ≤ 5 := h.2.2.2.2.2.1 k
theorem GR.fi {R : RR} (h : GR R) (k : Nat) : 0 ≤ rFi R k ∧ rFi R k ≤ 9 := h.2.2.2.2.2.2.1 k
theorem GR.fa {R : RR} (h : GR R) (k : Nat) : 0 ≤ rFa R k ∧ rFa R k ≤ 2 := h.2.2.2.2.2.2.2.1 k
theorem GR.wo {R : RR} (h : GR R) (k : Nat) : 0 ≤ rWo R k ∧ rWo R k ≤ 99 := h.2.2.2.2.2.2.2.2 k
section C1
variable {h : AH} {r : Nat} {R : RR} {Q : Option Value → AH → Prop}
abbrev g7_ (R : RR) (m : Int) : Prop := 0 ≤ m ∧ m < rMen R
theorem con_has {m : Int} (hm : inI m) (hG : GR R) (h1 : g7_ R m → Q (some (.int (zI 1))) (he_ h r R)) (h0 : ¬ g7_ R m → Q (some (.int (zI 0))) (he_ h r R)) : Con M_Re_has [.ref r, .int (zI m)] (he_ h r R) Q := by
  have gm := hG.men
  obtain ⟨m1, m2⟩ := hm
  refine g8_ (L := [some (.ref r), some (.int (zI m))]) ok_Re_has (Nat.le_of_ble_eq_true rfl) rfl ?_
  refine w_Re_has_0 ?_
  simp (disch := omega) only [cm_,aq_,ay_,af_,ba_,bg_,am_,ae_,ac_,b2_,bq_,ed_,bs_,ao_,as_,c4_,az_,av_,cw_,dw_,d6_,fl_,fn_,fh_,fu_,fz_,fq_,fk_,fr_,ft_,fs_,f0_,c5_,bd_,c3_,ct_,cx_,co_,cr_,cj_,cf_,an_,fb_,fe_,ff_,fg_,fc_,fd_,dy_,d2_,d4_,ee_,eg_,d8_,cl_,dt_,dv_,du_,dr_,ds_,cd_,a9_,a8_,a7_,ce_,fv_,d1_,cq_,Int.toNat_natCast,Nat.reduceAdd,Nat.reduceMul,Int.reduceNeg,Nat.reduceLeDiff,List.length_cons,List.length_nil,true_and,and_true,Nat.zero_add,eq_self,Nat.reduceEqDiff,Int.reduceAdd,Int.reduceSub,Int.reduceMul,not_true_eq_false,not_false_eq_true,Nat.reduceLT,Int.reduceEq,Int.reduceNe,Int.reduceLT,Int.reduceLE,or_true,or_false,false_implies,true_implies]
  repeat' (first | with_reducible refine And.intro ?_ ?_ | with_reducible intro _ | ((first | with_reducible refine w_Re_has_22 ?_ | with_reducible refine w_Re_has_23 ?_); simp (disch := omega) only [cm_,aq_,ay_,af_,ba_,bg_,am_,ae_,ac_,b2_,bq_,ed_,bs_,ao_,as_,c4_,az_,av_,cw_,dw_,d6_,fl_,fn_,fh_,fu_,fz_,fq_,fk_,fr_,ft_,fs_,f0_,c5_,bd_,c3_,ct_,cx_,co_,cr_,cj_,cf_,an_,fb_,fe_,ff_,fg_,fc_,fd_,dy_,d2_,d4_,ee_,eg_,d8_,cl_,dt_,dv_,du_,dr_,ds_,cd_,a9_,a8_,a7_,ce_,fv_,d1_,cq_,Int.toNat_natCast,Nat.reduceAdd,Nat.reduceMul,Int.reduceNeg,Nat.reduceLeDiff,List.length_cons,List.length_nil,true_and,and_true,Nat.zero_add,eq_self,Nat.reduceEqDiff,Int.reduceAdd,Int.reduceSub,Int.reduceMul,not_true_eq_false,not_false_eq_true,Nat.reduceLT,Int.reduceEq,Int.reduceNe,Int.reduceLT,Int.reduceLE,or_true,or_false,false_implies,true_implies]))
  all_goals first | omega | (exact h1 (by omega)) | (exact h0 (by omega))
theorem con_kindOf {m : Int} (hm : inI m) (hG : GR R) (h1 : g7_ R m → Q (some (.int (zI (rKi R m.toNat)))) (he_ h r R)) (h0 : ¬ g7_ R m → Q (some (.int (zI (-9)))) (he_ h r R)) : Con M_Re_kindOf [.ref r, .int (zI m)] (he_ h r R) Q := by
  have gm := hG.men
  obtain ⟨m1, m2⟩ := id hm
  refine g8_ (L := [some (.ref r), some (.int (zI m))]) ok_Re_kindOf (Nat.le_of_ble_eq_true rfl) rfl ?_
  refine w_Re_kindOf_0 ?_
  simp (disch := omega) only [cm_,aq_,ay_,af_,ba_,bg_,am_,ae_,ac_,b2_,bq_,ed_,bs_,ao_,as_,c4_,az_,av_,cw_,dw_,d6_,fl_,fn_,fh_,fu_,fz_,fq_,fk_,fr_,ft_,fs_,f0_,c5_,bd_,c3_,ct_,cx_,co_,cr_,cj_,cf_,an_,fb_,fe_,ff_,fg_,fc_,fd_,dy_,d2_,d4_,ee_,eg_,d8_,cl_,dt_,dv_,du_,dr_,ds_,cd_,a9_,a8_,a7_,ce_,fv_,d1_,cq_,Int.toNat_natCast,Nat.reduceAdd,Nat.reduceMul,Int.reduceNeg,Nat.reduceLeDiff,List.length_cons,List.length_nil,true_and,and_true,Nat.zero_add,eq_self,Nat.reduceEqDiff,Int.reduceAdd,Int.reduceSub,Int.reduceMul,not_true_eq_false,not_false_eq_true,Nat.reduceLT,Int.reduceEq,Int.reduceNe,Int.reduceLT,Int.reduceLE,or_true,or_false,false_implies,true_implies]
  refine con_has hm hG (fun c => ?_) (fun c => ?_)
  · simp (disch := omega) only [cm_,aq_,ay_,af_,ba_,bg_,am_,ae_,ac_,b2_,bq_,ed_,bs_,ao_,as_,c4_,az_,av_,cw_,dw_,d6_,fl_,fn_,fh_,fu_,fz_,fq_,fk_,fr_,ft_,fs_,f0_,c5_,bd_,c3_,ct_,cx_,co_,cr_,cj_,cf_,an_,fb_,fe_,ff_,fg_,fc_,fd_,dy_,d2_,d4_,ee_,eg_,d8_,cl_,dt_,dv_,du_,dr_,ds_,cd_,a9_,a8_,a7_,ce_,fv_,d1_,cq_,Int.toNat_natCast,Nat.reduceAdd,Nat.reduceMul,Int.reduceNeg,Nat.reduceLeDiff,List.length_cons,List.length_nil,true_and,and_true,Nat.zero_add,eq_self,Nat.reduceEqDiff,Int.reduceAdd,Int.reduceSub,Int.reduceMul,not_true_eq_false,not_false_eq_true,Nat.reduceLT,Int.reduceEq,Int.reduceNe,Int.reduceLT,Int.reduceLE,or_true,or_false,false_implies,true_implies]
    repeat' (first | with_reducible refine And.intro ?_ ?_ | with_reducible intro _ | ((first | with_reducible refine w_Re_kindOf_17 ?_ | with_reducible refine w_Re_kindOf_19 ?_); simp (disch := omega) only [cm_,aq_,ay_,af_,ba_,bg_,am_,ae_,ac_,b2_,bq_,ed_,bs_,ao_,as_,c4_,az_,av_,cw_,dw_,d6_,fl_,fn_,fh_,fu_,fz_,fq_,fk_,fr_,ft_,fs_,f0_,c5_,bd_,c3_,ct_,cx_,co_,cr_,cj_,cf_,an_,fb_,fe_,ff_,fg_,fc_,fd_,dy_,d2_,d4_,ee_,eg_,d8_,cl_,dt_,dv_,du_,dr_,ds_,cd_,a9_,a8_,a7_,ce_,fv_,d1_,cq_,Int.toNat_natCast,Nat.reduceAdd,Nat.reduceMul,Int.reduceNeg,Nat.reduceLeDiff,List.length_cons,List.length_nil,true_and,and_true,Nat.zero_add,eq_self,Nat.reduceEqDiff,Int.reduceAdd,Int.reduceSub,Int.reduceMul,not_true_eq_false,not_false_eq_true,Nat.reduceLT,Int.reduceEq,Int.reduceNe,Int.reduceLT,Int.reduceLE,or_true,or_false,false_implies,true_implies]))
    all_goals first | omega | (exact h1 c)
  · simp (disch := omega) only [cm_,aq_,ay_,af_,ba_,bg_,am_,ae_,ac_,b2_,bq_,ed_,bs_,ao_,as_,c4_,az_,av_,cw_,dw_,d6_,fl_,fn_,fh_,fu_,fz_,fq_,fk_,fr_,ft_,fs_,f0_,c5_,bd_,c3_,ct_,cx_,co_,cr_,cj_,cf_,an_,fb_,fe_,ff_,fg_,fc_,fd_,dy_,d2_,d4_,ee_,eg_,d8_,cl_,dt_,dv_,du_,dr_,ds_,cd_,a9_,a8_,a7_,ce_,fv_,d1_,cq_,Int.toNat_natCast,Nat.reduceAdd,Nat.reduceMul,Int.reduceNeg,Nat.reduceLeDiff,List.length_cons,List.length_nil,true_and,and_true,Nat.zero_add,eq_self,Nat.reduceEqDiff,Int.reduceAdd,Int.reduceSub,Int.reduceMul,not_true_eq_false,not_false_eq_true,Nat.reduceLT,Int.reduceEq,Int.reduceNe,Int.reduceLT,Int.reduceLE,or_true,or_false,false_implies,true_implies]
    repeat' (first | with_reducible refine And.intro ?_ ?_ | with_reducible intro _ | ((first | with_reducible refine w_Re_kindOf_17 ?_ | with_reducible refine w_Re_kindOf_19 ?_); simp (disch := omega) only [cm_,aq_,ay_,af_,ba_,bg_,am_,ae_,ac_,b2_,bq_,ed_,bs_,ao_,as_,c4_,az_,av_,cw_,dw_,d6_,fl_,fn_,fh_,fu_,fz_,fq_,fk_,fr_,ft_,fs_,f0_,c5_,bd_,c3_,ct_,cx_,co_,cr_,cj_,cf_,an_,fb_,fe_,ff_,fg_,fc_,fd_,dy_,d2_,d4_,ee_,eg_,d8_,cl_,dt_,dv_,du_,dr_,ds_,cd_,a9_,a8_,a7_,ce_,fv_,d1_,cq_,Int.toNat_natCast,Nat.reduceAdd,Nat.reduceMul,Int.reduceNeg,Nat.reduceLeDiff,List.length_cons,List.length_nil,true_and,and_true,Nat.zero_add,eq_self,Nat.reduceEqDiff,Int.reduceAdd,Int.reduceSub,Int.reduceMul,not_true_eq_false,not_false_eq_true,Nat.reduceLT,Int.reduceEq,Int.reduceNe,Int.reduceLT,Int.reduceLE,or_true,or_false,false_implies,true_implies]))
    all_goals first | omega | (exact h0 c)
theorem con_figureOf {m : Int} (hm : inI m) (hG : GR R) (h1 : g7_ R m → Q (some (.int (zI (rFi R m.toNat)))) (he_ h r R)) (h0 : ¬ g7_ R m → Q (some (.int (zI (-9)))) (he_ h r R)) : Con M_Re_figureOf [.ref r, .int (zI m)] (he_ h r R) Q := by
  have gm := hG.men
  obtain ⟨m1, m2⟩ := id hm
  refine g8_ (L := [some (.ref r), some (.int (zI m))]) ok_Re_figureOf (Nat.le_of_ble_eq_true rfl) rfl ?_
  refine w_Re_figureOf_0 ?_
  simp (disch := omega) only [cm_,aq_,ay_,af_,ba_,bg_,am_,ae_,ac_,b2_,bq_,ed_,bs_,ao_,as_,c4_,az_,av_,cw_,dw_,d6_,fl_,fn_,fh_,fu_,fz_,fq_,fk_,fr_,ft_,fs_,f0_,c5_,bd_,c3_,ct_,cx_,co_,cr_,cj_,cf_,an_,fb_,fe_,ff_,fg_,fc_,fd_,dy_,d2_,d4_,ee_,eg_,d8_,cl_,dt_,dv_,du_,dr_,ds_,cd_,a9_,a8_,a7_,ce_,fv_,d1_,cq_,Int.toNat_natCast,Nat.reduceAdd,Nat.reduceMul,Int.reduceNeg,Nat.reduceLeDiff,List.length_cons,List.length_nil,true_and,and_true,Nat.zero_add,eq_self,Nat.reduceEqDiff,Int.reduceAdd,Int.reduceSub,Int.reduceMul,not_true_eq_false,not_false_eq_true,Nat.reduceLT,Int.reduceEq,Int.reduceNe,Int.reduceLT,Int.reduceLE,or_true,or_false,false_implies,true_implies]
  refine con_has hm hG (fun c => ?_) (fun c => ?_)
  · simp (disch := omega) only [cm_,aq_,ay_,af_,ba_,bg_,am_,ae_,ac_,b2_,bq_,ed_,bs_,ao_,as_,c4_,az_,av_,cw_,dw_,d6_,fl_,fn_,fh_,fu_,fz_,fq_,fk_,fr_,ft_,fs_,f0_,c5_,bd_,c3_,ct_,cx_,co_,cr_,cj_,cf_,an_,fb_,fe_,ff_,fg_,fc_,fd_,dy_,d2_,d4_,ee_,eg_,d8_,cl_,dt_,dv_,du_,dr_,ds_,cd_,a9_,a8_,a7_,ce_,fv_,d1_,cq_,Int.toNat_natCast,Nat.reduceAdd,Nat.reduceMul,Int.reduceNeg,Nat.reduceLeDiff,List.length_cons,List.length_nil,true_and,and_true,Nat.zero_add,eq_self,Nat.reduceEqDiff,Int.reduceAdd,Int.reduceSub,Int.reduceMul,not_true_eq_false,not_false_eq_true,Nat.reduceLT,Int.reduceEq,Int.reduceNe,Int.reduceLT,Int.reduceLE,or_true,or_false,false_implies,true_implies]
    repeat' (first | with_reducible refine And.intro ?_ ?_ | with_reducible intro _ | ((first | with_reducible refine w_Re_figureOf_17 ?_ | with_reducible refine w_Re_figureOf_19 ?_); simp (disch := omega) only [cm_,aq_,ay_,af_,ba_,bg_,am_,ae_,ac_,b2_,bq_,ed_,bs_,ao_,as_,c4_,az_,av_,cw_,dw_,d6_,fl_,fn_,fh_,fu_,fz_,fq_,fk_,fr_,ft_,fs_,f0_,c5_,bd_,c3_,ct_,cx_,co_,cr_,cj_,cf_,an_,fb_,fe_,ff_,fg_,fc_,fd_,dy_,d2_,d4_,ee_,eg_,d8_,cl_,dt_,dv_,du_,dr_,ds_,cd_,a9_,a8_,a7_,ce_,fv_,d1_,cq_,Int.toNat_natCast,Nat.reduceAdd,Nat.reduceMul,Int.reduceNeg,Nat.reduceLeDiff,List.length_cons,List.length_nil,true_and,and_true,Nat.zero_add,eq_self,Nat.reduceEqDiff,Int.reduceAdd,Int.reduceSub,Int.reduceMul,not_true_eq_false,not_false_eq_true,Nat.reduceLT,Int.reduceEq,Int.reduceNe,Int.reduceLT,Int.reduceLE,or_true,or_false,false_implies,true_implies]))
    all_goals first | omega | (exact h1 c)
  · simp (disch := omega) only [cm_,aq_,ay_,af_,ba_,bg_,am_,ae_,ac_,b2_,bq_,ed_,bs_,ao_,as_,c4_,az_,av_,cw_,dw_,d6_,fl_,fn_,fh_,fu_,fz_,fq_,fk_,fr_,ft_,fs_,f0_,c5_,bd_,c3_,ct_,cx_,co_,cr_,cj_,cf_,an_,fb_,fe_,ff_,fg_,fc_,fd_,dy_,d2_,d4_,ee_,eg_,d8_,cl_,dt_,dv_,du_,dr_,ds_,cd_,a9_,a8_,a7_,ce_,fv_,d1_,cq_,Int.toNat_natCast,Nat.reduceAdd,Nat.reduceMul,Int.reduceNeg,Nat.reduceLeDiff,List.length_cons,List.length_nil,true_and,and_true,Nat.zero_add,eq_self,Nat.reduceEqDiff,Int.reduceAdd,Int.reduceSub,Int.reduceMul,not_true_eq_false,not_false_eq_true,Nat.reduceLT,Int.reduceEq,Int.reduceNe,Int.reduceLT,Int.reduceLE,or_true,or_false,false_implies,true_implies]
    repeat' (first | with_reducible refine And.intro ?_ ?_ | with_reducible intro _ | ((first | with_reducible refine w_Re_figureOf_17 ?_ | with_reducible refine w_Re_figureOf_19 ?_); simp (disch := omega) only [cm_,aq_,ay_,af_,ba_,bg_,am_,ae_,ac_,b2_,bq_,ed_,bs_,ao_,as_,c4_,az_,av_,cw_,dw_,d6_,fl_,fn_,fh_,fu_,fz_,fq_,fk_,fr_,ft_,fs_,f0_,c5_,bd_,c3_,ct_,cx_,co_,cr_,cj_,cf_,an_,fb_,fe_,ff_,fg_,fc_,fd_,dy_,d2_,d4_,ee_,eg_,d8_,cl_,dt_,dv_,du_,dr_,ds_,cd_,a9_,a8_,a7_,ce_,fv_,d1_,cq_,Int.toNat_natCast,Nat.reduceAdd,Nat.reduceMul,Int.reduceNeg,Nat.reduceLeDiff,List.length_cons,List.length_nil,true_and,and_true,Nat.zero_add,eq_self,Nat.reduceEqDiff,Int.reduceAdd,Int.reduceSub,Int.reduceMul,not_true_eq_false,not_false_eq_true,Nat.reduceLT,Int.reduceEq,Int.reduceNe,Int.reduceLT,Int.reduceLE,or_true,or_false,false_implies,true_implies]))
    all_goals first | omega | (exact h0 c)
theorem con_fateOf {m : Int} (hm : inI m) (hG : GR R) (h1 : g7_ R m → Q (some (.int (zI (rFa R m.toNat)))) (he_ h r R)) (h0 : ¬ g7_ R m → Q (some (.int (zI (-9)))) (he_ h r R)) : Con M_Re_fateOf [.ref r, .int (zI m)] (he_ h r R) Q := by
  have gm := hG.men
  obtain ⟨m1, m2⟩ := id hm
  refine g8_ (L := [some (.ref r), some (.int (zI m))]) ok_Re_fateOf (Nat.le_of_ble_eq_true rfl) rfl ?_
  refine w_Re_fateOf_0 ?_
  simp (disch := omega) only [cm_,aq_,ay_,af_,ba_,bg_,am_,ae_,ac_,b2_,bq_,ed_,bs_,ao_,as_,c4_,az_,av_,cw_,dw_,d6_,fl_,fn_,fh_,fu_,fz_,fq_,fk_,fr_,ft_,fs_,f0_,c5_,bd_,c3_,ct_,cx_,co_,cr_,cj_,cf_,an_,fb_,fe_,ff_,fg_,fc_,fd_,dy_,d2_,d4_,ee_,eg_,d8_,cl_,dt_,dv_,du_,dr_,ds_,cd_,a9_,a8_,a7_,ce_,fv_,d1_,cq_,Int.toNat_natCast,Nat.reduceAdd,Nat.reduceMul,Int.reduceNeg,Nat.reduceLeDiff,List.length_cons,List.length_nil,true_and,and_true,Nat.zero_add,eq_self,Nat.reduceEqDiff,Int.reduceAdd,Int.reduceSub,Int.reduceMul,not_true_eq_false,not_false_eq_true,Nat.reduceLT,Int.reduceEq,Int.reduceNe,Int.reduceLT,Int.reduceLE,or_true,or_false,false_implies,true_implies]
  refine con_has hm hG (fun c => ?_) (fun c => ?_)
  · simp (disch := omega) only [cm_,aq_,ay_,af_,ba_,bg_,am_,ae_,ac_,b2_,bq_,ed_,bs_,ao_,as_,c4_,az_,av_,cw_,dw_,d6_,fl_,fn_,fh_,fu_,fz_,fq_,fk_,fr_,ft_,fs_,f0_,c5_,bd_,c3_,ct_,cx_,co_,cr_,cj_,cf_,an_,fb_,fe_,ff_,fg_,fc_,fd_,dy_,d2_,d4_,ee_,eg_,d8_,cl_,dt_,dv_,du_,dr_,ds_,cd_,a9_,a8_,a7_,ce_,fv_,d1_,cq_,Int.toNat_natCast,Nat.reduceAdd,Nat.reduceMul,Int.reduceNeg,Nat.reduceLeDiff,List.length_cons,List.length_nil,true_and,and_true,Nat.zero_add,eq_self,Nat.reduceEqDiff,Int.reduceAdd,Int.reduceSub,Int.reduceMul,not_true_eq_false,not_false_eq_true,Nat.reduceLT,Int.reduceEq,Int.reduceNe,Int.reduceLT,Int.reduceLE,or_true,or_false,false_implies,true_implies]
    repeat' (first | with_reducible refine And.intro ?_ ?_ | with_reducible intro _ | ((first | with_reducible refine w_Re_fateOf_17 ?_ | with_reducible refine w_Re_fateOf_19 ?_); simp (disch := omega) only [cm_,aq_,ay_,af_,ba_,bg_,am_,ae_,ac_,b2_,bq_,ed_,bs_,ao_,as_,c4_,az_,av_,cw_,dw_,d6_,fl_,fn_,fh_,fu_,fz_,fq_,fk_,fr_,ft_,fs_,f0_,c5_,bd_,c3_,ct_,cx_,co_,cr_,cj_,cf_,an_,fb_,fe_,ff_,fg_,fc_,fd_,dy_,d2_,d4_,ee_,eg_,d8_,cl_,dt_,dv_,du_,dr_,ds_,cd_,a9_,a8_,a7_,ce_,fv_,d1_,cq_,Int.toNat_natCast,Nat.reduceAdd,Nat.reduceMul,Int.reduceNeg,Nat.reduceLeDiff,List.length_cons,List.length_nil,true_and,and_true,Nat.zero_add,eq_self,Nat.reduceEqDiff,Int.reduceAdd,Int.reduceSub,Int.reduceMul,not_true_eq_false,not_false_eq_true,Nat.reduceLT,Int.reduceEq,Int.reduceNe,Int.reduceLT,Int.reduceLE,or_true,or_false,false_implies,true_implies]))
    all_goals first | omega | (exact h1 c)
  · simp (disch := omega) only [cm_,aq_,ay_,af_,ba_,bg_,am_,ae_,ac_,b2_,bq_,ed_,bs_,ao_,as_,c4_,az_,av_,cw_,dw_,d6_,fl_,fn_,fh_,fu_,fz_,fq_,fk_,fr_,ft_,fs_,f0_,c5_,bd_,c3_,ct_,cx_,co_,cr_,cj_,cf_,an_,fb_,fe_,ff_,fg_,fc_,fd_,dy_,d2_,d4_,ee_,eg_,d8_,cl_,dt_,dv_,du_,dr_,ds_,cd_,a9_,a8_,a7_,ce_,fv_,d1_,cq_,Int.toNat_natCast,Nat.reduceAdd,Nat.reduceMul,Int.reduceNeg,Nat.reduceLeDiff,List.length_cons,List.length_nil,true_and,and_true,Nat.zero_add,eq_self,Nat.reduceEqDiff,Int.reduceAdd,Int.reduceSub,Int.reduceMul,not_true_eq_false,not_false_eq_true,Nat.reduceLT,Int.reduceEq,Int.reduceNe,Int.reduceLT,Int.reduceLE,or_true,or_false,false_implies,true_implies]
    repeat' (first | with_reducible refine And.intro ?_ ?_ | with_reducible intro _ | ((first | with_reducible refine w_Re_fateOf_17 ?_ | with_reducible refine w_Re_fateOf_19 ?_); simp (disch := omega) only [cm_,aq_,ay_,af_,ba_,bg_,am_,ae_,ac_,b2_,bq_,ed_,bs_,ao_,as_,c4_,az_,av_,cw_,dw_,d6_,fl_,fn_,fh_,fu_,fz_,fq_,fk_,fr_,ft_,fs_,f0_,c5_,bd_,c3_,ct_,cx_,co_,cr_,cj_,cf_,an_,fb_,fe_,ff_,fg_,fc_,fd_,dy_,d2_,d4_,ee_,eg_,d8_,cl_,dt_,dv_,du_,dr_,ds_,cd_,a9_,a8_,a7_,ce_,fv_,d1_,cq_,Int.toNat_natCast,Nat.reduceAdd,Nat.reduceMul,Int.reduceNeg,Nat.reduceLeDiff,List.length_cons,List.length_nil,true_and,and_true,Nat.zero_add,eq_self,Nat.reduceEqDiff,Int.reduceAdd,Int.reduceSub,Int.reduceMul,not_true_eq_false,not_false_eq_true,Nat.reduceLT,Int.reduceEq,Int.reduceNe,Int.reduceLT,Int.reduceLE,or_true,or_false,false_implies,true_implies]))
    all_goals first | omega | (exact h0 c)
theorem con_wornOf {m : Int} (hm : inI m) (hG : GR R) (h1 : g7_ R m → Q (some (.int (zI (rWo R m.toNat)))) (he_ h r R)) (h0 : ¬ g7_ R m → Q (some (.int (zI (-9)))) (he_ h r R)) : Con M_Re_wornOf [.ref r, .int (zI m)] (he_ h r R) Q := by
  have gm := hG.men
  obtain ⟨m1, m2⟩ := id hm
  refine g8_ (L := [some (.ref r), some (.int (zI m))]) ok_Re_wornOf (Nat.le_of_ble_eq_true rfl) rfl ?_
  refine w_Re_wornOf_0 ?_
  simp (disch := omega) only [cm_,aq_,ay_,af_,ba_,bg_,am_,ae_,ac_,b2_,bq_,ed_,bs_,ao_,as_,c4_,az_,av_,cw_,dw_,d6_,fl_,fn_,fh_,fu_,fz_,fq_,fk_,fr_,ft_,fs_,f0_,c5_,bd_,c3_,ct_,cx_,co_,cr_,cj_,cf_,an_,fb_,fe_,ff_,fg_,fc_,fd_,dy_,d2_,d4_,ee_,eg_,d8_,cl_,dt_,dv_,du_,dr_,ds_,cd_,a9_,a8_,a7_,ce_,fv_,d1_,cq_,Int.toNat_natCast,Nat.reduceAdd,Nat.reduceMul,Int.reduceNeg,Nat.reduceLeDiff,List.length_cons,List.length_nil,true_and,and_true,Nat.zero_add,eq_self,Nat.reduceEqDiff,Int.reduceAdd,Int.reduceSub,Int.reduceMul,not_true_eq_false,not_false_eq_true,Nat.reduceLT,Int.reduceEq,Int.reduceNe,Int.reduceLT,Int.reduceLE,or_true,or_false,false_implies,true_implies]
  refine con_has hm hG (fun c => ?_) (fun c => ?_)
  · simp (disch := omega) only [cm_,aq_,ay_,af_,ba_,bg_,am_,ae_,ac_,b2_,bq_,ed_,bs_,ao_,as_,c4_,az_,av_,cw_,dw_,d6_,fl_,fn_,fh_,fu_,fz_,fq_,fk_,fr_,ft_,fs_,f0_,c5_,bd_,c3_,ct_,cx_,co_,cr_,cj_,cf_,an_,fb_,fe_,ff_,fg_,fc_,fd_,dy_,d2_,d4_,ee_,eg_,d8_,cl_,dt_,dv_,du_,dr_,ds_,cd_,a9_,a8_,a7_,ce_,fv_,d1_,cq_,Int.toNat_natCast,Nat.reduceAdd,Nat.reduceMul,Int.reduceNeg,Nat.reduceLeDiff,List.length_cons,List.length_nil,true_and,and_true,Nat.zero_add,eq_self,Nat.reduceEqDiff,Int.reduceAdd,Int.reduceSub,Int.reduceMul,not_true_eq_false,not_false_eq_true,Nat.reduceLT,Int.reduceEq,Int.reduceNe,Int.reduceLT,Int.reduceLE,or_true,or_false,false_implies,true_implies]
    repeat' (first | with_reducible refine And.intro ?_ ?_ | with_reducible intro _ | ((first | with_reducible refine w_Re_wornOf_17 ?_ | with_reducible refine w_Re_wornOf_19 ?_); simp (disch := omega) only [cm_,aq_,ay_,af_,ba_,bg_,am_,ae_,ac_,b2_,bq_,ed_,bs_,ao_,as_,c4_,az_,av_,cw_,dw_,d6_,fl_,fn_,fh_,fu_,fz_,fq_,fk_,fr_,ft_,fs_,f0_,c5_,bd_,c3_,ct_,cx_,co_,cr_,cj_,cf_,an_,fb_,fe_,ff_,fg_,fc_,fd_,dy_,d2_,d4_,ee_,eg_,d8_,cl_,dt_,dv_,du_,dr_,ds_,cd_,a9_,a8_,a7_,ce_,fv_,d1_,cq_,Int.toNat_natCast,Nat.reduceAdd,Nat.reduceMul,Int.reduceNeg,Nat.reduceLeDiff,List.length_cons,List.length_nil,true_and,and_true,Nat.zero_add,eq_self,Nat.reduceEqDiff,Int.reduceAdd,Int.reduceSub,Int.reduceMul,not_true_eq_false,not_false_eq_true,Nat.reduceLT,Int.reduceEq,Int.reduceNe,Int.reduceLT,Int.reduceLE,or_true,or_false,false_implies,true_implies]))
    all_goals first | omega | (exact h1 c)
  · simp (disch := omega) only [cm_,aq_,ay_,af_,ba_,bg_,am_,ae_,ac_,b2_,bq_,ed_,bs_,ao_,as_,c4_,az_,av_,cw_,dw_,d6_,fl_,fn_,fh_,fu_,fz_,fq_,fk_,fr_,ft_,fs_,f0_,c5_,bd_,c3_,ct_,cx_,co_,cr_,cj_,cf_,an_,fb_,fe_,ff_,fg_,fc_,fd_,dy_,d2_,d4_,ee_,eg_,d8_,cl_,dt_,dv_,du_,dr_,ds_,cd_,a9_,a8_,a7_,ce_,fv_,d1_,cq_,Int.toNat_natCast,Nat.reduceAdd,Nat.reduceMul,Int.reduceNeg,Nat.reduceLeDiff,List.length_cons,List.length_nil,true_and,and_true,Nat.zero_add,eq_self,Nat.reduceEqDiff,Int.reduceAdd,Int.reduceSub,Int.reduceMul,not_true_eq_false,not_false_eq_true,Nat.reduceLT,Int.reduceEq,Int.reduceNe,Int.reduceLT,Int.reduceLE,or_true,or_false,false_implies,true_implies]
    repeat' (first | with_reducible refine And.intro ?_ ?_ | with_reducible intro _ | ((first | with_reducible refine w_Re_wornOf_17 ?_ | with_reducible refine w_Re_wornOf_19 ?_); simp (disch := omega) only [cm_,aq_,ay_,af_,ba_,bg_,am_,ae_,ac_,b2_,bq_,ed_,bs_,ao_,as_,c4_,az_,av_,cw_,dw_,d6_,fl_,fn_,fh_,fu_,fz_,fq_,fk_,fr_,ft_,fs_,f0_,c5_,bd_,c3_,ct_,cx_,co_,cr_,cj_,cf_,an_,fb_,fe_,ff_,fg_,fc_,fd_,dy_,d2_,d4_,ee_,eg_,d8_,cl_,dt_,dv_,du_,dr_,ds_,cd_,a9_,a8_,a7_,ce_,fv_,d1_,cq_,Int.toNat_natCast,Nat.reduceAdd,Nat.reduceMul,Int.reduceNeg,Nat.reduceLeDiff,List.length_cons,List.length_nil,true_and,and_true,Nat.zero_add,eq_self,Nat.reduceEqDiff,Int.reduceAdd,Int.reduceSub,Int.reduceMul,not_true_eq_false,not_false_eq_true,Nat.reduceLT,Int.reduceEq,Int.reduceNe,Int.reduceLT,Int.reduceLE,or_true,or_false,false_implies,true_implies]))
    all_goals first | omega | (exact h0 c)
abbrev sSl (R : RR) (f : Nat → Int) : RR := mkR f (rKi R) (rFi R) (rFa R) (rWo R) (rMen R) (hd_ R) (rLoad R) (rSnow R) (hh_ R)
abbrev sKi (R : RR) (f : Nat → Int) : RR := mkR (rSl R) f (rFi R) (rFa R) (rWo R) (rMen R) (hd_ R) (rLoad R) (rSnow R) (hh_ R)
abbrev sFi (R : RR) (f : Nat → Int) : RR := mkR (rSl R) (rKi R) f (rFa R) (rWo R) (rMen R) (hd_ R) (rLoad R) (rSnow R) (hh_ R)
abbrev sFa (R : RR) (f : Nat → Int) : RR := mkR (rSl R) (rKi R) (rFi R) f (rWo R) (rMen R) (hd_ R) (rLoad R) (rSnow R) (hh_ R)
abbrev sWo (R : RR) (f : Nat → Int) : RR := mkR (rSl R) (rKi R) (rFi R) (rFa R) f (rMen R) (hd_ R) (rLoad R) (rSnow R) (hh_ R)
abbrev sKing (R : RR) (x : Int) : RR := mkR (rSl R) (rKi R) (rFi R) (rFa R) (rWo R) (rMen R) x (rLoad R) (rSnow R) (hh_ R)
abbrev sLoad (R : RR) (x : Int) : RR := mkR (rSl R) (rKi R) (rFi R) (rFa R) (rWo R) (rMen R) (hd_ R) x (rSnow R) (hh_ R)
abbrev sSnow (R : RR) (x : Int) : RR := mkR (rSl R) (rKi R) (rFi R) (rFa R) (rWo R) (rMen R) (hd_ R) (rLoad R) x (hh_ R)
abbrev sDay (R : RR) (x : Int) : RR := mkR (rSl R) (rKi R) (rFi R) (rFa R) (rWo R) (rMen R) (hd_ R) (rLoad R) (rSnow R) x
theorem con_makeKind {m x : Int} (hm : inI m) (hG : GR R) (h1 : g7_ R m → Q none (he_ h r (sKi R (upI (rKi R) m.toNat x)))) (h0 : ¬ g7_ R m → Q none (he_ h r R)) : Con M_Re_makeKind [.ref r, .int (zI m), .int (zI x)] (he_ h r R) Q := by
  have gm := hG.men
  obtain ⟨m1, m2⟩ := id hm
  refine g8_ (L := [some (.ref r), some (.int (zI m)), some (.int (zI x))]) ok_Re_makeKind (Nat.le_of_ble_eq_true rfl) rfl ?_
  refine w_Re_makeKind_0 ?_
  simp (disch := omega) only [cm_,aq_,ay_,af_,ba_,bg_,am_,ae_,ac_,b2_,bq_,ed_,bs_,ao_,as_,c4_,az_,av_,cw_,dw_,d6_,fl_,fn_,fh_,fu_,fz_,fq_,fk_,fr_,ft_,fs_,f0_,c5_,bd_,c3_,ct_,cx_,co_,cr_,cj_,cf_,an_,fb_,fe_,ff_,fg_,fc_,fd_,dy_,d2_,d4_,ee_,eg_,d8_,cl_,dt_,dv_,du_,dr_,ds_,cd_,a9_,a8_,a7_,ce_,fv_,d1_,cq_,Int.toNat_natCast,Nat.reduceAdd,Nat.reduceMul,Int.reduceNeg,Nat.reduceLeDiff,List.length_cons,List.length_nil,true_and,and_true,Nat.zero_add,eq_self,Nat.reduceEqDiff,Int.reduceAdd,Int.reduceSub,Int.reduceMul,not_true_eq_false,not_false_eq_true,Nat.reduceLT,Int.reduceEq,Int.reduceNe,Int.reduceLT,Int.reduceLE,or_true,or_false,false_implies,true_implies]
  refine con_has hm hG (fun c => ?_) (fun c => ?_)
  · simp (disch := omega) only [cm_,aq_,ay_,af_,ba_,bg_,am_,ae_,ac_,b2_,bq_,ed_,bs_,ao_,as_,c4_,az_,av_,cw_,dw_,d6_,fl_,fn_,fh_,fu_,fz_,fq_,fk_,fr_,ft_,fs_,f0_,c5_,bd_,c3_,ct_,cx_,co_,cr_,cj_,cf_,an_,fb_,fe_,ff_,fg_,fc_,fd_,dy_,d2_,d4_,ee_,eg_,d8_,cl_,dt_,dv_,du_,dr_,ds_,cd_,a9_,a8_,a7_,ce_,fv_,d1_,cq_,Int.toNat_natCast,Nat.reduceAdd,Nat.reduceMul,Int.reduceNeg,Nat.reduceLeDiff,List.length_cons,List.length_nil,true_and,and_true,Nat.zero_add,eq_self,Nat.reduceEqDiff,Int.reduceAdd,Int.reduceSub,Int.reduceMul,not_true_eq_false,not_false_eq_true,Nat.reduceLT,Int.reduceEq,Int.reduceNe,Int.reduceLT,Int.reduceLE,or_true,or_false,false_implies,true_implies]
    repeat' (first | with_reducible refine And.intro ?_ ?_ | with_reducible intro _ | ((first | with_reducible refine w_Re_makeKind_15 ?_); simp (disch := omega) only [cm_,aq_,ay_,af_,ba_,bg_,am_,ae_,ac_,b2_,bq_,ed_,bs_,ao_,as_,c4_,az_,av_,cw_,dw_,d6_,fl_,fn_,fh_,fu_,fz_,fq_,fk_,fr_,ft_,fs_,f0_,c5_,bd_,c3_,ct_,cx_,co_,cr_,cj_,cf_,an_,fb_,fe_,ff_,fg_,fc_,fd_,dy_,d2_,d4_,ee_,eg_,d8_,cl_,dt_,dv_,du_,dr_,ds_,cd_,a9_,a8_,a7_,ce_,fv_,d1_,cq_,Int.toNat_natCast,Nat.reduceAdd,Nat.reduceMul,Int.reduceNeg,Nat.reduceLeDiff,List.length_cons,List.length_nil,true_and,and_true,Nat.zero_add,eq_self,Nat.reduceEqDiff,Int.reduceAdd,Int.reduceSub,Int.reduceMul,not_true_eq_false,not_false_eq_true,Nat.reduceLT,Int.reduceEq,Int.reduceNe,Int.reduceLT,Int.reduceLE,or_true,or_false,false_implies,true_implies]))
    all_goals first | omega | (exact h1 c)
  · simp (disch := omega) only [cm_,aq_,ay_,af_,ba_,bg_,am_,ae_,ac_,b2_,bq_,ed_,bs_,ao_,as_,c4_,az_,av_,cw_,dw_,d6_,fl_,fn_,fh_,fu_,fz_,fq_,fk_,fr_,ft_,fs_,f0_,c5_,bd_,c3_,ct_,cx_,co_,cr_,cj_,cf_,an_,fb_,fe_,ff_,fg_,fc_,fd_,dy_,d2_,d4_,ee_,eg_,d8_,cl_,dt_,dv_,du_,dr_,ds_,cd_,a9_,a8_,a7_,ce_,fv_,d1_,cq_,Int.toNat_natCast,Nat.reduceAdd,Nat.reduceMul,Int.reduceNeg,Nat.reduceLeDiff,List.length_cons,List.length_nil,true_and,and_true,Nat.zero_add,eq_self,Nat.reduceEqDiff,Int.reduceAdd,Int.reduceSub,Int.reduceMul,not_true_eq_false,not_false_eq_true,Nat.reduceLT,Int.reduceEq,Int.reduceNe,Int.reduceLT,Int.reduceLE,or_true,or_false,false_implies,true_implies]
    repeat' (first | with_reducible refine And.intro ?_ ?_ | with_reducible intro _ | ((first | with_reducible refine w_Re_makeKind_15 ?_); simp (disch := omega) only [cm_,aq_,ay_,af_,ba_,bg_,am_,ae_,ac_,b2_,bq_,ed_,bs_,ao_,as_,c4_,az_,av_,cw_,dw_,d6_,fl_,fn_,fh_,fu_,fz_,fq_,fk_,fr_,ft_,fs_,f0_,c5_,bd_,c3_,ct_,cx_,co_,cr_,cj_,cf_,an_,fb_,fe_,ff_,fg_,fc_,fd_,dy_,d2_,d4_,ee_,eg_,d8_,cl_,dt_,dv_,du_,dr_,ds_,cd_,a9_,a8_,a7_,ce_,fv_,d1_,cq_,Int.toNat_natCast,Nat.reduceAdd,Nat.reduceMul,Int.reduceNeg,Nat.reduceLeDiff,List.length_cons,List.length_nil,true_and,and_true,Nat.zero_add,eq_self,Nat.reduceEqDiff,Int.reduceAdd,Int.reduceSub,Int.reduceMul,not_true_eq_false,not_false_eq_true,Nat.reduceLT,Int.reduceEq,Int.reduceNe,Int.reduceLT,Int.reduceLE,or_true,or_false,false_implies,true_implies]))
    all_goals first | omega | (exact h0 c)
theorem con_makeFigure {m x : Int} (hm : inI m) (hG : GR R) (h1 : g7_ R m → Q none (he_ h r (sFi R (upI (rFi R) m.toNat x)))) (h0 : ¬ g7_ R m → Q none (he_ h r R)) : Con M_Re_makeFigure [.ref r, .int (zI m), .int (zI x)] (he_ h r R) Q := by
  have gm := hG.men
  obtain ⟨m1, m2⟩ := id hm
  refine g8_ (L := [some (.ref r), some (.int (zI m)), some (.int (zI x))]) ok_Re_makeFigure (Nat.le_of_ble_eq_true rfl) rfl ?_
  refine w_Re_makeFigure_0 ?_
  simp (disch := omega) only [cm_,aq_,ay_,af_,ba_,bg_,am_,ae_,ac_,b2_,bq_,ed_,bs_,ao_,as_,c4_,az_,av_,cw_,dw_,d6_,fl_,fn_,fh_,fu_,fz_,fq_,fk_,fr_,ft_,fs_,f0_,c5_,bd_,c3_,ct_,cx_,co_,cr_,cj_,cf_,an_,fb_,fe_,ff_,fg_,fc_,fd_,dy_,d2_,d4_,ee_,eg_,d8_,cl_,dt_,dv_,du_,dr_,ds_,cd_,a9_,a8_,a7_,ce_,fv_,d1_,cq_,Int.toNat_natCast,Nat.reduceAdd,Nat.reduceMul,Int.reduceNeg,Nat.reduceLeDiff,List.length_cons,List.length_nil,true_and,and_true,Nat.zero_add,eq_self,Nat.reduceEqDiff,Int.reduceAdd,Int.reduceSub,Int.reduceMul,not_true_eq_false,not_false_eq_true,Nat.reduceLT,Int.reduceEq,Int.reduceNe,Int.reduceLT,Int.reduceLE,or_true,or_false,false_implies,true_implies]
  refine con_has hm hG (fun c => ?_) (fun c => ?_)
  · simp (disch := omega) only [cm_,aq_,ay_,af_,ba_,bg_,am_,ae_,ac_,b2_,bq_,ed_,bs_,ao_,as_,c4_,az_,av_,cw_,dw_,d6_,fl_,fn_,fh_,fu_,fz_,fq_,fk_,fr_,ft_,fs_,f0_,c5_,bd_,c3_,ct_,cx_,co_,cr_,cj_,cf_,an_,fb_,fe_,ff_,fg_,fc_,fd_,dy_,d2_,d4_,ee_,eg_,d8_,cl_,dt_,dv_,du_,dr_,ds_,cd_,a9_,a8_,a7_,ce_,fv_,d1_,cq_,Int.toNat_natCast,Nat.reduceAdd,Nat.reduceMul,Int.reduceNeg,Nat.reduceLeDiff,List.length_cons,List.length_nil,true_and,and_true,Nat.zero_add,eq_self,Nat.reduceEqDiff,Int.reduceAdd,Int.reduceSub,Int.reduceMul,not_true_eq_false,not_false_eq_true,Nat.reduceLT,Int.reduceEq,Int.reduceNe,Int.reduceLT,Int.reduceLE,or_true,or_false,false_implies,true_implies]
    repeat' (first | with_reducible refine And.intro ?_ ?_ | with_reducible intro _ | ((first | with_reducible refine w_Re_makeFigure_15 ?_); simp (disch := omega) only [cm_,aq_,ay_,af_,ba_,bg_,am_,ae_,ac_,b2_,bq_,ed_,bs_,ao_,as_,c4_,az_,av_,cw_,dw_,d6_,fl_,fn_,fh_,fu_,fz_,fq_,fk_,fr_,ft_,fs_,f0_,c5_,bd_,c3_,ct_,cx_,co_,cr_,cj_,cf_,an_,fb_,fe_,ff_,fg_,fc_,fd_,dy_,d2_,d4_,ee_,eg_,d8_,cl_,dt_,dv_,du_,dr_,ds_,cd_,a9_,a8_,a7_,ce_,fv_,d1_,cq_,Int.toNat_natCast,Nat.reduceAdd,Nat.reduceMul,Int.reduceNeg,Nat.reduceLeDiff,List.length_cons,List.length_nil,true_and,and_true,Nat.zero_add,eq_self,Nat.reduceEqDiff,Int.reduceAdd,Int.reduceSub,Int.reduceMul,not_true_eq_false,not_false_eq_true,Nat.reduceLT,Int.reduceEq,Int.reduceNe,Int.reduceLT,Int.reduceLE,or_true,or_false,false_implies,true_implies]))
    all_goals first | omega | (exact h1 c)
  · simp (disch := omega) only [cm_,aq_,ay_,af_,ba_,bg_,am_,ae_,ac_,b2_,bq_,ed_,bs_,ao_,as_,c4_,az_,av_,cw_,dw_,d6_,fl_,fn_,fh_,fu_,fz_,fq_,fk_,fr_,ft_,fs_,f0_,c5_,bd_,c3_,ct_,cx_,co_,cr_,cj_,cf_,an_,fb_,fe_,ff_,fg_,fc_,fd_,dy_,d2_,d4_,ee_,eg_,d8_,cl_,dt_,dv_,du_,dr_,ds_,cd_,a9_,a8_,a7_,ce_,fv_,d1_,cq_,Int.toNat_natCast,Nat.reduceAdd,Nat.reduceMul,Int.reduceNeg,Nat.reduceLeDiff,List.length_cons,List.length_nil,true_and,and_true,Nat.zero_add,eq_self,Nat.reduceEqDiff,Int.reduceAdd,Int.reduceSub,Int.reduceMul,not_true_eq_false,not_false_eq_true,Nat.reduceLT,Int.reduceEq,Int.reduceNe,Int.reduceLT,Int.reduceLE,or_true,or_false,false_implies,true_implies]
    repeat' (first | with_reducible refine And.intro ?_ ?_ | with_reducible intro _ | ((first | with_reducible refine w_Re_makeFigure_15 ?_); simp (disch := omega) only [cm_,aq_,ay_,af_,ba_,bg_,am_,ae_,ac_,b2_,bq_,ed_,bs_,ao_,as_,c4_,az_,av_,cw_,dw_,d6_,fl_,fn_,fh_,fu_,fz_,fq_,fk_,fr_,ft_,fs_,f0_,c5_,bd_,c3_,ct_,cx_,co_,cr_,cj_,cf_,an_,fb_,fe_,ff_,fg_,fc_,fd_,dy_,d2_,d4_,ee_,eg_,d8_,cl_,dt_,dv_,du_,dr_,ds_,cd_,a9_,a8_,a7_,ce_,fv_,d1_,cq_,Int.toNat_natCast,Nat.reduceAdd,Nat.reduceMul,Int.reduceNeg,Nat.reduceLeDiff,List.length_cons,List.length_nil,true_and,and_true,Nat.zero_add,eq_self,Nat.reduceEqDiff,Int.reduceAdd,Int.reduceSub,Int.reduceMul,not_true_eq_false,not_false_eq_true,Nat.reduceLT,Int.reduceEq,Int.reduceNe,Int.reduceLT,Int.reduceLE,or_true,or_false,false_implies,true_implies]))
    all_goals first | omega | (exact h0 c)
theorem con_makeFate {m x : Int} (hm : inI m) (hG : GR R) (h1 : g7_ R m → Q none (he_ h r (sFa R (upI (rFa R) m.toNat x)))) (h0 : ¬ g7_ R m → Q none (he_ h r R)) : Con M_Re_makeFate [.ref r, .int (zI m), .int (zI x)] (he_ h r R) Q := by
  have gm := hG.men
  obtain ⟨m1, m2⟩ := id hm
  refine g8_ (L := [some (.ref r), some (.int (zI m)), some (.int (zI x))]) ok_Re_makeFate (Nat.le_of_ble_eq_true rfl) rfl ?_
  refine w_Re_makeFate_0 ?_
  simp (disch := omega) only [cm_,aq_,ay_,af_,ba_,bg_,am_,ae_,ac_,b2_,bq_,ed_,bs_,ao_,as_,c4_,az_,av_,cw_,dw_,d6_,fl_,fn_,fh_,fu_,fz_,fq_,fk_,fr_,ft_,fs_,f0_,c5_,bd_,c3_,ct_,cx_,co_,cr_,cj_,cf_,an_,fb_,fe_,ff_,fg_,fc_,fd_,dy_,d2_,d4_,ee_,eg_,d8_,cl_,dt_,dv_,du_,dr_,ds_,cd_,a9_,a8_,a7_,ce_,fv_,d1_,cq_,Int.toNat_natCast,Nat.reduceAdd,Nat.reduceMul,Int.reduceNeg,Nat.reduceLeDiff,List.length_cons,List.length_nil,true_and,and_true,Nat.zero_add,eq_self,Nat.reduceEqDiff,Int.reduceAdd,Int.reduceSub,Int.reduceMul,not_true_eq_false,not_false_eq_true,Nat.reduceLT,Int.reduceEq,Int.reduceNe,Int.reduceLT,Int.reduceLE,or_true,or_false,false_implies,true_implies]
  refine con_has hm hG (fun c => ?_) (fun c => ?_)
  · simp (disch := omega) only [cm_,aq_,ay_,af_,ba_,bg_,am_,ae_,ac_,b2_,bq_,ed_,bs_,ao_,as_,c4_,az_,av_,cw_,dw_,d6_,fl_,fn_,fh_,fu_,fz_,fq_,fk_,fr_,ft_,fs_,f0_,c5_,bd_,c3_,ct_,cx_,co_,cr_,cj_,cf_,an_,fb_,fe_,ff_,fg_,fc_,fd_,dy_,d2_,d4_,ee_,eg_,d8_,cl_,dt_,dv_,du_,dr_,ds_,cd_,a9_,a8_,a7_,ce_,fv_,d1_,cq_,Int.toNat_natCast,Nat.reduceAdd,Nat.reduceMul,Int.reduceNeg,Nat.reduceLeDiff,List.length_cons,List.length_nil,true_and,and_true,Nat.zero_add,eq_self,Nat.reduceEqDiff,Int.reduceAdd,Int.reduceSub,Int.reduceMul,not_true_eq_false,not_false_eq_true,Nat.reduceLT,Int.reduceEq,Int.reduceNe,Int.reduceLT,Int.reduceLE,or_true,or_false,false_implies,true_implies]
    repeat' (first | with_reducible refine And.intro ?_ ?_ | with_reducible intro _ | ((first | with_reducible refine w_Re_makeFate_15 ?_); simp (disch := omega) only [cm_,aq_,ay_,af_,ba_,bg_,am_,ae_,ac_,b2_,bq_,ed_,bs_,ao_,as_,c4_,az_,av_,cw_,dw_,d6_,fl_,fn_,fh_,fu_,fz_,fq_,fk_,fr_,ft_,fs_,f0_,c5_,bd_,c3_,ct_,cx_,co_,cr_,cj_,cf_,an_,fb_,fe_,ff_,fg_,fc_,fd_,dy_,d2_,d4_,ee_,eg_,d8_,cl_,dt_,dv_,du_,dr_,ds_,cd_,a9_,a8_,a7_,ce_,fv_,d1_,cq_,Int.toNat_natCast,Nat.reduceAdd,Nat.reduceMul,Int.reduceNeg,Nat.reduceLeDiff,List.length_cons,List.length_nil,true_and,and_true,Nat.zero_add,eq_self,Nat.reduceEqDiff,Int.reduceAdd,Int.reduceSub,Int.reduceMul,not_true_eq_false,not_false_eq_true,Nat.reduceLT,Int.reduceEq,Int.reduceNe,Int.reduceLT,Int.reduceLE,or_true,or_false,false_implies,true_implies]))
    all_goals first | omega | (exact h1 c)
  · simp (disch := omega) only [cm_,aq_,ay_,af_,ba_,bg_,am_,ae_,ac_,b2_,bq_,ed_,bs_,ao_,as_,c4_,az_,av_,cw_,dw_,d6_,fl_,fn_,fh_,fu_,fz_,fq_,fk_,fr_,ft_,fs_,f0_,c5_,bd_,c3_,ct_,cx_,co_,cr_,cj_,cf_,an_,fb_,fe_,ff_,fg_,fc_,fd_,dy_,d2_,d4_,ee_,eg_,d8_,cl_,dt_,dv_,du_,dr_,ds_,cd_,a9_,a8_,a7_,ce_,fv_,d1_,cq_,Int.toNat_natCast,Nat.reduceAdd,Nat.reduceMul,Int.reduceNeg,Nat.reduceLeDiff,List.length_cons,List.length_nil,true_and,and_true,Nat.zero_add,eq_self,Nat.reduceEqDiff,Int.reduceAdd,Int.reduceSub,Int.reduceMul,not_true_eq_false,not_false_eq_true,Nat.reduceLT,Int.reduceEq,Int.reduceNe,Int.reduceLT,Int.reduceLE,or_true,or_false,false_implies,true_implies]
    repeat' (first | with_reducible refine And.intro ?_ ?_ | with_reducible intro _ | ((first | with_reducible refine w_Re_makeFate_15 ?_); simp (disch := omega) only [cm_,aq_,ay_,af_,ba_,bg_,am_,ae_,ac_,b2_,bq_,ed_,bs_,ao_,as_,c4_,az_,av_,cw_,dw_,d6_,fl_,fn_,fh_,fu_,fz_,fq_,fk_,fr_,ft_,fs_,f0_,c5_,bd_,c3_,ct_,cx_,co_,cr_,cj_,cf_,an_,fb_,fe_,ff_,fg_,fc_,fd_,dy_,d2_,d4_,ee_,eg_,d8_,cl_,dt_,dv_,du_,dr_,ds_,cd_,a9_,a8_,a7_,ce_,fv_,d1_,cq_,Int.toNat_natCast,Nat.reduceAdd,Nat.reduceMul,Int.reduceNeg,Nat.reduceLeDiff,List.length_cons,List.length_nil,true_and,and_true,Nat.zero_add,eq_self,Nat.reduceEqDiff,Int.reduceAdd,Int.reduceSub,Int.reduceMul,not_true_eq_false,not_false_eq_true,Nat.reduceLT,Int.reduceEq,Int.reduceNe,Int.reduceLT,Int.reduceLE,or_true,or_false,false_implies,true_implies]))
    all_goals first | omega | (exact h0 c)
theorem con_slopeOf {s : Int} (hs : inI s) (h1 : 0 ≤ s ∧ s < 12 → Q (some (.int (zI (rSl R s.toNat)))) (he_ h r R)) (h0 : ¬ (0 ≤ s ∧ s < 12) → Q (some (.int (zI 0))) (he_ h r R)) : Con M_Re_slopeOf [.ref r, .int (zI s)] (he_ h r R) Q := by
  obtain ⟨m1, m2⟩ := id hs
  refine g8_ (L := [some (.ref r), some (.int (zI s))]) ok_Re_slopeOf (Nat.le_of_ble_eq_true rfl) rfl ?_
  refine w_Re_slopeOf_0 ?_
  simp (disch := omega) only [cm_,aq_,ay_,af_,ba_,bg_,am_,ae_,ac_,b2_,bq_,ed_,bs_,ao_,as_,c4_,az_,av_,cw_,dw_,d6_,fl_,fn_,fh_,fu_,fz_,fq_,fk_,fr_,ft_,fs_,f0_,c5_,bd_,c3_,ct_,cx_,co_,cr_,cj_,cf_,an_,fb_,fe_,ff_,fg_,fc_,fd_,dy_,d2_,d4_,ee_,eg_,d8_,cl_,dt_,dv_,du_,dr_,ds_,cd_,a9_,a8_,a7_,ce_,fv_,d1_,cq_,Int.toNat_natCast,Nat.reduceAdd,Nat.reduceMul,Int.reduceNeg,Nat.reduceLeDiff,List.length_cons,List.length_nil,true_and,and_true,Nat.zero_add,eq_self,Nat.reduceEqDiff,Int.reduceAdd,Int.reduceSub,Int.reduceMul,not_true_eq_false,not_false_eq_true,Nat.reduceLT,Int.reduceEq,Int.reduceNe,Int.reduceLT,Int.reduceLE,or_true,or_false,false_implies,true_implies]
  repeat' (first | with_reducible refine And.intro ?_ ?_ | with_reducible intro _ | ((first | with_reducible refine w_Re_slopeOf_19 ?_ | with_reducible refine w_Re_slopeOf_20 ?_); simp (disch := omega) only [cm_,aq_,ay_,af_,ba_,bg_,am_,ae_,ac_,b2_,bq_,ed_,bs_,ao_,as_,c4_,az_,av_,cw_,dw_,d6_,fl_,fn_,fh_,fu_,fz_,fq_,fk_,fr_,ft_,fs_,f0_,c5_,bd_,c3_,ct_,cx_,co_,cr_,cj_,cf_,an_,fb_,fe_,ff_,fg_,fc_,fd_,dy_,d2_,d4_,ee_,eg_,d8_,cl_,dt_,dv_,du_,dr_,ds_,cd_,a9_,a8_,a7_,ce_,fv_,d1_,cq_,Int.toNat_natCast,Nat.reduceAdd,Nat.reduceMul,Int.reduceNeg,Nat.reduceLeDiff,List.length_cons,List.length_nil,true_and,and_true,Nat.zero_add,eq_self,Nat.reduceEqDiff,Int.reduceAdd,Int.reduceSub,Int.reduceMul,not_true_eq_false,not_false_eq_true,Nat.reduceLT,Int.reduceEq,Int.reduceNe,Int.reduceLT,Int.reduceLE,or_true,or_false,false_implies,true_implies]))
  all_goals first | omega | (exact h1 (by omega)) | (exact h0 (by omega))
theorem con_isHome (hG : GR R) (h1 : hd_ R = 12 → Q (some (.int (zI 1))) (he_ h r R)) (h0 : ¬ hd_ R = 12 → Q (some (.int (zI 0))) (he_ h r R)) : Con M_Re_isHome [.ref r] (he_ h r R) Q := by
  have gk := hG.king
  refine g8_ (L := [some (.ref r)]) ok_Re_isHome (Nat.le_of_ble_eq_true rfl) rfl ?_
  refine w_Re_isHome_0 ?_
  simp (disch := omega) only [cm_,aq_,ay_,af_,ba_,bg_,am_,ae_,ac_,b2_,bq_,ed_,bs_,ao_,as_,c4_,az_,av_,cw_,dw_,d6_,fl_,fn_,fh_,fu_,fz_,fq_,fk_,fr_,ft_,fs_,f0_,c5_,bd_,c3_,ct_,cx_,co_,cr_,cj_,cf_,an_,fb_,fe_,ff_,fg_,fc_,fd_,dy_,d2_,d4_,ee_,eg_,d8_,cl_,dt_,dv_,du_,dr_,ds_,cd_,a9_,a8_,a7_,ce_,fv_,d1_,cq_,Int.toNat_natCast,Nat.reduceAdd,Nat.reduceMul,Int.reduceNeg,Nat.reduceLeDiff,List.length_cons,List.length_nil,true_and,and_true,Nat.zero_add,eq_self,Nat.reduceEqDiff,Int.reduceAdd,Int.reduceSub,Int.reduceMul,not_true_eq_false,not_false_eq_true,Nat.reduceLT,Int.reduceEq,Int.reduceNe,Int.reduceLT,Int.reduceLE,or_true,or_false,false_implies,true_implies]
  repeat' (first | with_reducible refine And.intro ?_ ?_ | with_reducible intro _ | ((first | with_reducible refine w_Re_isHome_13 ?_ | with_reducible refine w_Re_isHome_14 ?_); simp (disch := omega) only [cm_,aq_,ay_,af_,ba_,bg_,am_,ae_,ac_,b2_,bq_,ed_,bs_,ao_,as_,c4_,az_,av_,cw_,dw_,d6_,fl_,fn_,fh_,fu_,fz_,fq_,fk_,fr_,ft_,fs_,f0_,c5_,bd_,c3_,ct_,cx_,co_,cr_,cj_,cf_,an_,fb_,fe_,ff_,fg_,fc_,fd_,dy_,d2_,d4_,ee_,eg_,d8_,cl_,dt_,dv_,du_,dr_,ds_,cd_,a9_,a8_,a7_,ce_,fv_,d1_,cq_,Int.toNat_natCast,Nat.reduceAdd,Nat.reduceMul,Int.reduceNeg,Nat.reduceLeDiff,List.length_cons,List.length_nil,true_and,and_true,Nat.zero_add,eq_self,Nat.reduceEqDiff,Int.reduceAdd,Int.reduceSub,Int.reduceMul,not_true_eq_false,not_false_eq_true,Nat.reduceLT,Int.reduceEq,Int.reduceNe,Int.reduceLT,Int.reduceLE,or_true,or_false,false_implies,true_implies]))
  all_goals first | omega | (exact h1 (by omega)) | (exact h0 (by omega))
theorem con_isKind {k : Int} {h : AH} (hk : inI k) (h1 : 0 ≤ k ∧ k < 6 → Q (some (.int (zI 1))) h) (h0 : ¬ (0 ≤ k ∧ k < 6) → Q (some (.int (zI 0))) h) : Con M_X_isKind [.int (zI k)] h Q := by
  obtain ⟨m1, m2⟩ := id hk
  refine g8_ (L := [some (.int (zI k))]) ok_X_isKind (Nat.le_of_ble_eq_true rfl) rfl ?_
  refine w_X_isKind_0 ?_
  simp (disch := omega) only [cm_,aq_,ay_,af_,ba_,bg_,am_,ae_,ac_,b2_,bq_,ed_,bs_,ao_,as_,c4_,az_,av_,cw_,dw_,d6_,fl_,fn_,fh_,fu_,fz_,fq_,fk_,fr_,ft_,fs_,f0_,c5_,bd_,c3_,ct_,cx_,co_,cr_,cj_,cf_,an_,fb_,fe_,ff_,fg_,fc_,fd_,dy_,d2_,d4_,ee_,eg_,d8_,cl_,dt_,dv_,du_,dr_,ds_,cd_,a9_,a8_,a7_,ce_,fv_,d1_,cq_,Int.toNat_natCast,Nat.reduceAdd,Nat.reduceMul,Int.reduceNeg,Nat.reduceLeDiff,List.length_cons,List.length_nil,true_and,and_true,Nat.zero_add,eq_self,Nat.reduceEqDiff,Int.reduceAdd,Int.reduceSub,Int.reduceMul,not_true_eq_false,not_false_eq_true,Nat.reduceLT,Int.reduceEq,Int.reduceNe,Int.reduceLT,Int.reduceLE,or_true,or_false,false_implies,true_implies]
  repeat' (first | with_reducible refine And.intro ?_ ?_ | with_reducible intro _ | ((first | with_reducible refine w_X_isKind_14 ?_ | with_reducible refine w_X_isKind_15 ?_); simp (disch := omega) only [cm_,aq_,ay_,af_,ba_,bg_,am_,ae_,ac_,b2_,bq_,ed_,bs_,ao_,as_,c4_,az_,av_,cw_,dw_,d6_,fl_,fn_,fh_,fu_,fz_,fq_,fk_,fr_,ft_,fs_,f0_,c5_,bd_,c3_,ct_,cx_,co_,cr_,cj_,cf_,an_,fb_,fe_,ff_,fg_,fc_,fd_,dy_,d2_,d4_,ee_,eg_,d8_,cl_,dt_,dv_,du_,dr_,ds_,cd_,a9_,a8_,a7_,ce_,fv_,d1_,cq_,Int.toNat_natCast,Nat.reduceAdd,Nat.reduceMul,Int.reduceNeg,Nat.reduceLeDiff,List.length_cons,List.length_nil,true_and,and_true,Nat.zero_add,eq_self,Nat.reduceEqDiff,Int.reduceAdd,Int.reduceSub,Int.reduceMul,not_true_eq_false,not_false_eq_true,Nat.reduceLT,Int.reduceEq,Int.reduceNe,Int.reduceLT,Int.reduceLE,or_true,or_false,false_implies,true_implies]))
  all_goals first | omega | (exact h1 (by omega)) | (exact h0 (by omega))
theorem con_isStage {k : Int} {h : AH} (hk : inI k) (h1 : 0 ≤ k ∧ k < 12 → Q (some (.int (zI 1))) h) (h0 : ¬ (0 ≤ k ∧ k < 12) → Q (some (.int (zI 0))) h) : Con M_X_isStage [.int (zI k)] h Q := by
  obtain ⟨m1, m2⟩ := id hk
  refine g8_ (L := [some (.int (zI k))]) ok_X_isStage (Nat.le_of_ble_eq_true rfl) rfl ?_
  refine w_X_isStage_0 ?_
  simp (disch := omega) only [cm_,aq_,ay_,af_,ba_,bg_,am_,ae_,ac_,b2_,bq_,ed_,bs_,ao_,as_,c4_,az_,av_,cw_,dw_,d6_,fl_,fn_,fh_,fu_,fz_,fq_,fk_,fr_,ft_,fs_,f0_,c5_,bd_,c3_,ct_,cx_,co_,cr_,cj_,cf_,an_,fb_,fe_,ff_,fg_,fc_,fd_,dy_,d2_,d4_,ee_,eg_,d8_,cl_,dt_,dv_,du_,dr_,ds_,cd_,a9_,a8_,a7_,ce_,fv_,d1_,cq_,Int.toNat_natCast,Nat.reduceAdd,Nat.reduceMul,Int.reduceNeg,Nat.reduceLeDiff,List.length_cons,List.length_nil,true_and,and_true,Nat.zero_add,eq_self,Nat.reduceEqDiff,Int.reduceAdd,Int.reduceSub,Int.reduceMul,not_true_eq_false,not_false_eq_true,Nat.reduceLT,Int.reduceEq,Int.reduceNe,Int.reduceLT,Int.reduceLE,or_true,or_false,false_implies,true_implies]
  repeat' (first | with_reducible refine And.intro ?_ ?_ | with_reducible intro _ | ((first | with_reducible refine w_X_isStage_14 ?_ | with_reducible refine w_X_isStage_15 ?_); simp (disch := omega) only [cm_,aq_,ay_,af_,ba_,bg_,am_,ae_,ac_,b2_,bq_,ed_,bs_,ao_,as_,c4_,az_,av_,cw_,dw_,d6_,fl_,fn_,fh_,fu_,fz_,fq_,fk_,fr_,ft_,fs_,f0_,c5_,bd_,c3_,ct_,cx_,co_,cr_,cj_,cf_,an_,fb_,fe_,ff_,fg_,fc_,fd_,dy_,d2_,d4_,ee_,eg_,d8_,cl_,dt_,dv_,du_,dr_,ds_,cd_,a9_,a8_,a7_,ce_,fv_,d1_,cq_,Int.toNat_natCast,Nat.reduceAdd,Nat.reduceMul,Int.reduceNeg,Nat.reduceLeDiff,List.length_cons,List.length_nil,true_and,and_true,Nat.zero_add,eq_self,Nat.reduceEqDiff,Int.reduceAdd,Int.reduceSub,Int.reduceMul,not_true_eq_false,not_false_eq_true,Nat.reduceLT,Int.reduceEq,Int.reduceNe,Int.reduceLT,Int.reduceLE,or_true,or_false,false_implies,true_implies]))
  all_goals first | omega | (exact h1 (by omega)) | (exact h0 (by omega))
theorem con_isOneOfTwo {k : Int} {h : AH} (hk : inI k) (h1 : k = 0 ∨ k = 1 → Q (some (.int (zI 1))) h) (h0 : ¬ (k = 0 ∨ k = 1) → Q (some (.int (zI 0))) h) : Con M_X_isOneOfTwo [.int (zI k)] h Q := by
  obtain ⟨m1, m2⟩ := id hk
  refine g8_ (L := [some (.int (zI k))]) ok_X_isOneOfTwo (Nat.le_of_ble_eq_true rfl) rfl ?_
  refine w_X_isOneOfTwo_0 ?_
  simp (disch := omega) only [cm_,aq_,ay_,af_,ba_,bg_,am_,ae_,ac_,b2_,bq_,ed_,bs_,ao_,as_,c4_,az_,av_,cw_,dw_,d6_,fl_,fn_,fh_,fu_,fz_,fq_,fk_,fr_,ft_,fs_,f0_,c5_,bd_,c3_,ct_,cx_,co_,cr_,cj_,cf_,an_,fb_,fe_,ff_,fg_,fc_,fd_,dy_,d2_,d4_,ee_,eg_,d8_,cl_,dt_,dv_,du_,dr_,ds_,cd_,a9_,a8_,a7_,ce_,fv_,d1_,cq_,Int.toNat_natCast,Nat.reduceAdd,Nat.reduceMul,Int.reduceNeg,Nat.reduceLeDiff,List.length_cons,List.length_nil,true_and,and_true,Nat.zero_add,eq_self,Nat.reduceEqDiff,Int.reduceAdd,Int.reduceSub,Int.reduceMul,not_true_eq_false,not_false_eq_true,Nat.reduceLT,Int.reduceEq,Int.reduceNe,Int.reduceLT,Int.reduceLE,or_true,or_false,false_implies,true_implies]
  repeat' (first | with_reducible refine And.intro ?_ ?_ | with_reducible intro _ | ((first | with_reducible refine w_X_isOneOfTwo_9 ?_ | with_reducible refine w_X_isOneOfTwo_13 ?_ | with_reducible refine w_X_isOneOfTwo_14 ?_); simp (disch := omega) only [cm_,aq_,ay_,af_,ba_,bg_,am_,ae_,ac_,b2_,bq_,ed_,bs_,ao_,as_,c4_,az_,av_,cw_,dw_,d6_,fl_,fn_,fh_,fu_,fz_,fq_,fk_,fr_,ft_,fs_,f0_,c5_,bd_,c3_,ct_,cx_,co_,cr_,cj_,cf_,an_,fb_,fe_,ff_,fg_,fc_,fd_,dy_,d2_,d4_,ee_,eg_,d8_,cl_,dt_,dv_,du_,dr_,ds_,cd_,a9_,a8_,a7_,ce_,fv_,d1_,cq_,Int.toNat_natCast,Nat.reduceAdd,Nat.reduceMul,Int.reduceNeg,Nat.reduceLeDiff,List.length_cons,List.length_nil,true_and,and_true,Nat.zero_add,eq_self,Nat.reduceEqDiff,Int.reduceAdd,Int.reduceSub,Int.reduceMul,not_true_eq_false,not_false_eq_true,Nat.reduceLT,Int.reduceEq,Int.reduceNe,Int.reduceLT,Int.reduceLE,or_true,or_false,false_implies,true_implies]))
  all_goals first | omega | (exact h1 (by omega)) | (exact h0 (by omega))
theorem con_outside {v a b : Int} {h : AH} (hv : inI v) (ha : inI a) (hb : inI b) (h1 : v < a → Q (some (.int (zI (-4)))) h) (h2 : ¬ v < a → b < v → Q (some (.int (zI (-6)))) h) (h0 : ¬ v < a → ¬ b < v → Q (some (.int (zI 0))) h) : Con M_X_outside [.int (zI v), .int (zI a), .int (zI b)] h Q := by
  obtain ⟨v1, v2⟩ := id hv
  obtain ⟨a1, a2⟩ := id ha
  obtain ⟨b1, b2⟩ := id hb
  refine g8_ (L := [some (.int (zI v)), some (.int (zI a)), some (.int (zI b))]) ok_X_outside (Nat.le_of_ble_eq_true rfl) rfl ?_
  refine w_X_outside_0 ?_
  simp (disch := omega) only [cm_,aq_,ay_,af_,ba_,bg_,am_,ae_,ac_,b2_,bq_,ed_,bs_,ao_,as_,c4_,az_,av_,cw_,dw_,d6_,fl_,fn_,fh_,fu_,fz_,fq_,fk_,fr_,ft_,fs_,f0_,c5_,bd_,c3_,ct_,cx_,co_,cr_,cj_,cf_,an_,fb_,fe_,ff_,fg_,fc_,fd_,dy_,d2_,d4_,ee_,eg_,d8_,cl_,dt_,dv_,du_,dr_,ds_,cd_,a9_,a8_,a7_,ce_,fv_,d1_,cq_,Int.toNat_natCast,Nat.reduceAdd,Nat.reduceMul,Int.reduceNeg,Nat.reduceLeDiff,List.length_cons,List.length_nil,true_and,and_true,Nat.zero_add,eq_self,Nat.reduceEqDiff,Int.reduceAdd,Int.reduceSub,Int.reduceMul,not_true_eq_false,not_false_eq_true,Nat.reduceLT,Int.reduceEq,Int.reduceNe,Int.reduceLT,Int.reduceLE,or_true,or_false,false_implies,true_implies]
  repeat' (first | with_reducible refine And.intro ?_ ?_ | with_reducible intro _ | ((first | with_reducible refine w_X_outside_8 ?_ | with_reducible refine w_X_outside_18 ?_ | with_reducible refine w_X_outside_19 ?_); simp (disch := omega) only [cm_,aq_,ay_,af_,ba_,bg_,am_,ae_,ac_,b2_,bq_,ed_,bs_,ao_,as_,c4_,az_,av_,cw_,dw_,d6_,fl_,fn_,fh_,fu_,fz_,fq_,fk_,fr_,ft_,fs_,f0_,c5_,bd_,c3_,ct_,cx_,co_,cr_,cj_,cf_,an_,fb_,fe_,ff_,fg_,fc_,fd_,dy_,d2_,d4_,ee_,eg_,d8_,cl_,dt_,dv_,du_,dr_,ds_,cd_,a9_,a8_,a7_,ce_,fv_,d1_,cq_,Int.toNat_natCast,Nat.reduceAdd,Nat.reduceMul,Int.reduceNeg,Nat.reduceLeDiff,List.length_cons,List.length_nil,true_and,and_true,Nat.zero_add,eq_self,Nat.reduceEqDiff,Int.reduceAdd,Int.reduceSub,Int.reduceMul,not_true_eq_false,not_false_eq_true,Nat.reduceLT,Int.reduceEq,Int.reduceNe,Int.reduceLT,Int.reduceLE,or_true,or_false,false_implies,true_implies]))
  all_goals first | omega | (exact h1 (by omega)) | (exact h0 (by omega) (by omega)) | (exact h2 (by omega) (by omega))
/-- a man more -/
abbrev addR (R : RR) (k f : Int) : RR := mkR (rSl R) (upI (rKi R) (rMen R).toNat k) (upI (rFi R) (rMen R).toNat f) (upI (rFa R) (rMen R).toNat 0) (upI (rWo R) (rMen R).toNat 0) (rMen R + 1) (hd_ R) (rLoad R) (rSnow R) (hh_ R)
theorem con_takesIn {k f : Int} (hk : inI k) (hG : GR R) (h1 : (0 ≤ k ∧ k < 6) → rMen R < 8 → Q (some (.int (zI 1))) (he_ h r (addR R k f))) (h0 : ¬ ((0 ≤ k ∧ k < 6) ∧ rMen R < 8) → Q (some (.int (zI 0))) (he_ h r R)) : Con M_Re_takesIn [.ref r, .int (zI k), .int (zI f)] (he_ h r R) Q := by
  have gm := hG.men
  refine g8_ (L := [some (.ref r), some (.int (zI k)), some (.int (zI f))]) ok_Re_takesIn (Nat.le_of_ble_eq_true rfl) rfl ?_
  refine w_Re_takesIn_0 ?_
  simp (disch := omega) only [cm_,aq_,ay_,af_,ba_,bg_,am_,ae_,ac_,b2_,bq_,ed_,bs_,ao_,as_,c4_,az_,av_,cw_,dw_,d6_,fl_,fn_,fh_,fu_,fz_,fq_,fk_,fr_,ft_,fs_,f0_,c5_,bd_,c3_,ct_,cx_,co_,cr_,cj_,cf_,an_,fb_,fe_,ff_,fg_,fc_,fd_,dy_,d2_,d4_,ee_,eg_,d8_,cl_,dt_,dv_,du_,dr_,ds_,cd_,a9_,a8_,a7_,ce_,fv_,d1_,cq_,Int.toNat_natCast,Nat.reduceAdd,Nat.reduceMul,Int.reduceNeg,Nat.reduceLeDiff,List.length_cons,List.length_nil,true_and,and_true,Nat.zero_add,eq_self,Nat.reduceEqDiff,Int.reduceAdd,Int.reduceSub,Int.reduceMul,not_true_eq_false,not_false_eq_true,Nat.reduceLT,Int.reduceEq,Int.reduceNe,Int.reduceLT,Int.reduceLE,or_true,or_false,false_implies,true_implies]
  refine con_isKind hk (fun c => ?_) (fun c => ?_)
  · simp (disch := omega) only [cm_,aq_,ay_,af_,ba_,bg_,am_,ae_,ac_,b2_,bq_,ed_,bs_,ao_,as_,c4_,az_,av_,cw_,dw_,d6_,fl_,fn_,fh_,fu_,fz_,fq_,fk_,fr_,ft_,fs_,f0_,c5_,bd_,c3_,ct_,cx_,co_,cr_,cj_,cf_,an_,fb_,fe_,ff_,fg_,fc_,fd_,dy_,d2_,d4_,ee_,eg_,d8_,cl_,dt_,dv_,du_,dr_,ds_,cd_,a9_,a8_,a7_,ce_,fv_,d1_,cq_,Int.toNat_natCast,Nat.reduceAdd,Nat.reduceMul,Int.reduceNeg,Nat.reduceLeDiff,List.length_cons,List.length_nil,true_and,and_true,Nat.zero_add,eq_self,Nat.reduceEqDiff,Int.reduceAdd,Int.reduceSub,Int.reduceMul,not_true_eq_false,not_false_eq_true,Nat.reduceLT,Int.reduceEq,Int.reduceNe,Int.reduceLT,Int.reduceLE,or_true,or_false,false_implies,true_implies]
    repeat' (first | with_reducible refine And.intro ?_ ?_ | with_reducible intro _ | ((first | with_reducible refine w_Re_takesIn_23 ?_ | with_reducible refine w_Re_takesIn_25 ?_); simp (disch := omega) only [cm_,aq_,ay_,af_,ba_,bg_,am_,ae_,ac_,b2_,bq_,ed_,bs_,ao_,as_,c4_,az_,av_,cw_,dw_,d6_,fl_,fn_,fh_,fu_,fz_,fq_,fk_,fr_,ft_,fs_,f0_,c5_,bd_,c3_,ct_,cx_,co_,cr_,cj_,cf_,an_,fb_,fe_,ff_,fg_,fc_,fd_,dy_,d2_,d4_,ee_,eg_,d8_,cl_,dt_,dv_,du_,dr_,ds_,cd_,a9_,a8_,a7_,ce_,fv_,d1_,cq_,Int.toNat_natCast,Nat.reduceAdd,Nat.reduceMul,Int.reduceNeg,Nat.reduceLeDiff,List.length_cons,List.length_nil,true_and,and_true,Nat.zero_add,eq_self,Nat.reduceEqDiff,Int.reduceAdd,Int.reduceSub,Int.reduceMul,not_true_eq_false,not_false_eq_true,Nat.reduceLT,Int.reduceEq,Int.reduceNe,Int.reduceLT,Int.reduceLE,or_true,or_false,false_implies,true_implies]))
    all_goals first | omega | (exact h1 c (by omega)) | (exact h0 (by omega))
  · simp (disch := omega) only [cm_,aq_,ay_,af_,ba_,bg_,am_,ae_,ac_,b2_,bq_,ed_,bs_,ao_,as_,c4_,az_,av_,cw_,dw_,d6_,fl_,fn_,fh_,fu_,fz_,fq_,fk_,fr_,ft_,fs_,f0_,c5_,bd_,c3_,ct_,cx_,co_,cr_,cj_,cf_,an_,fb_,fe_,ff_,fg_,fc_,fd_,dy_,d2_,d4_,ee_,eg_,d8_,cl_,dt_,dv_,du_,dr_,ds_,cd_,a9_,a8_,a7_,ce_,fv_,d1_,cq_,Int.toNat_natCast,Nat.reduceAdd,Nat.reduceMul,Int.reduceNeg,Nat.reduceLeDiff,List.length_cons,List.length_nil,true_and,and_true,Nat.zero_add,eq_self,Nat.reduceEqDiff,Int.reduceAdd,Int.reduceSub,Int.reduceMul,not_true_eq_false,not_false_eq_true,Nat.reduceLT,Int.reduceEq,Int.reduceNe,Int.reduceLT,Int.reduceLE,or_true,or_false,false_implies,true_implies]
    repeat' (first | with_reducible refine And.intro ?_ ?_ | with_reducible intro _ | ((first | with_reducible refine w_Re_takesIn_23 ?_ | with_reducible refine w_Re_takesIn_25 ?_); simp (disch := omega) only [cm_,aq_,ay_,af_,ba_,bg_,am_,ae_,ac_,b2_,bq_,ed_,bs_,ao_,as_,c4_,az_,av_,cw_,dw_,d6_,fl_,fn_,fh_,fu_,fz_,fq_,fk_,fr_,ft_,fs_,f0_,c5_,bd_,c3_,ct_,cx_,co_,cr_,cj_,cf_,an_,fb_,fe_,ff_,fg_,fc_,fd_,dy_,d2_,d4_,ee_,eg_,d8_,cl_,dt_,dv_,du_,dr_,ds_,cd_,a9_,a8_,a7_,ce_,fv_,d1_,cq_,Int.toNat_natCast,Nat.reduceAdd,Nat.reduceMul,Int.reduceNeg,Nat.reduceLeDiff,List.length_cons,List.length_nil,true_and,and_true,Nat.zero_add,eq_self,Nat.reduceEqDiff,Int.reduceAdd,Int.reduceSub,Int.reduceMul,not_true_eq_false,not_false_eq_true,Nat.reduceLT,Int.reduceEq,Int.reduceNe,Int.reduceLT,Int.reduceLE,or_true,or_false,false_implies,true_implies]))
    all_goals first | omega | (exact h0 (by omega))
theorem con_turns {m : Int} (hm : inI m) (hG : GR R) (h1 : ∀ x, x = 1 - rFa R m.toNat → g7_ R m → rFa R m.toNat ≠ 2 → Q (some (.int (zI 1))) (he_ h r (sFa R (upI (rFa R) m.toNat x)))) (h0 : ¬ (g7_ R m ∧ rFa R m.toNat ≠ 2) → Q (some (.int (zI 0))) (he_ h r R)) : Con M_Re_turns [.ref r, .int (zI m)] (he_ h r R) Q := by
  have gm := hG.men
  have gf := hG.fa m.toNat
  obtain ⟨m1, m2⟩ := id hm
  refine g8_ (L := [some (.ref r), some (.int (zI m))]) ok_Re_turns (Nat.le_of_ble_eq_true rfl) rfl ?_
  refine w_Re_turns_0 ?_
  simp (disch := omega) only [cm_,aq_,ay_,af_,ba_,bg_,am_,ae_,ac_,b2_,bq_,ed_,bs_,ao_,as_,c4_,az_,av_,cw_,dw_,d6_,fl_,fn_,fh_,fu_,fz_,fq_,fk_,fr_,ft_,fs_,f0_,c5_,bd_,c3_,ct_,cx_,co_,cr_,cj_,cf_,an_,fb_,fe_,ff_,fg_,fc_,fd_,dy_,d2_,d4_,ee_,eg_,d8_,cl_,dt_,dv_,du_,dr_,ds_,cd_,a9_,a8_,a7_,ce_,fv_,d1_,cq_,Int.toNat_natCast,Nat.reduceAdd,Nat.reduceMul,Int.reduceNeg,Nat.reduceLeDiff,List.length_cons,List.length_nil,true_and,and_true,Nat.zero_add,eq_self,Nat.reduceEqDiff,Int.reduceAdd,Int.reduceSub,Int.reduceMul,not_true_eq_false,not_false_eq_true,Nat.reduceLT,Int.reduceEq,Int.reduceNe,Int.reduceLT,Int.reduceLE,or_true,or_false,false_implies,true_implies]
  refine con_has hm hG (fun c => ?_) (fun c => ?_)
  · simp (disch := omega) only [cm_,aq_,ay_,af_,ba_,bg_,am_,ae_,ac_,b2_,bq_,ed_,bs_,ao_,as_,c4_,az_,av_,cw_,dw_,d6_,fl_,fn_,fh_,fu_,fz_,fq_,fk_,fr_,ft_,fs_,f0_,c5_,bd_,c3_,ct_,cx_,co_,cr_,cj_,cf_,an_,fb_,fe_,ff_,fg_,fc_,fd_,dy_,d2_,d4_,ee_,eg_,d8_,cl_,dt_,dv_,du_,dr_,ds_,cd_,a9_,a8_,a7_,ce_,fv_,d1_,cq_,Int.toNat_natCast,Nat.reduceAdd,Nat.reduceMul,Int.reduceNeg,Nat.reduceLeDiff,List.length_cons,List.length_nil,true_and,and_true,Nat.zero_add,eq_self,Nat.reduceEqDiff,Int.reduceAdd,Int.reduceSub,Int.reduceMul,not_true_eq_false,not_false_eq_true,Nat.reduceLT,Int.reduceEq,Int.reduceNe,Int.reduceLT,Int.reduceLE,or_true,or_false,false_implies,true_implies]
    repeat' (first | with_reducible refine And.intro ?_ ?_ | with_reducible intro _ | ((first | with_reducible refine w_Re_turns_18 ?_ | with_reducible refine w_Re_turns_20 ?_ | with_reducible refine w_Re_turns_39 ?_ | with_reducible refine w_Re_turns_40 ?_); simp (disch := omega) only [cm_,aq_,ay_,af_,ba_,bg_,am_,ae_,ac_,b2_,bq_,ed_,bs_,ao_,as_,c4_,az_,av_,cw_,dw_,d6_,fl_,fn_,fh_,fu_,fz_,fq_,fk_,fr_,ft_,fs_,f0_,c5_,bd_,c3_,ct_,cx_,co_,cr_,cj_,cf_,an_,fb_,fe_,ff_,fg_,fc_,fd_,dy_,d2_,d4_,ee_,eg_,d8_,cl_,dt_,dv_,du_,dr_,ds_,cd_,a9_,a8_,a7_,ce_,fv_,d1_,cq_,Int.toNat_natCast,Nat.reduceAdd,Nat.reduceMul,Int.reduceNeg,Nat.reduceLeDiff,List.length_cons,List.length_nil,true_and,and_true,Nat.zero_add,eq_self,Nat.reduceEqDiff,Int.reduceAdd,Int.reduceSub,Int.reduceMul,not_true_eq_false,not_false_eq_true,Nat.reduceLT,Int.reduceEq,Int.reduceNe,Int.reduceLT,Int.reduceLE,or_true,or_false,false_implies,true_implies]))
    all_goals first | omega | (exact h1 _ (by omega) c (by omega)) | (exact h0 (by omega))
  · simp (disch := omega) only [cm_,aq_,ay_,af_,ba_,bg_,am_,ae_,ac_,b2_,bq_,ed_,bs_,ao_,as_,c4_,az_,av_,cw_,dw_,d6_,fl_,fn_,fh_,fu_,fz_,fq_,fk_,fr_,ft_,fs_,f0_,c5_,bd_,c3_,ct_,cx_,co_,cr_,cj_,cf_,an_,fb_,fe_,ff_,fg_,fc_,fd_,dy_,d2_,d4_,ee_,eg_,d8_,cl_,dt_,dv_,du_,dr_,ds_,cd_,a9_,a8_,a7_,ce_,fv_,d1_,cq_,Int.toNat_natCast,Nat.reduceAdd,Nat.reduceMul,Int.reduceNeg,Nat.reduceLeDiff,List.length_cons,List.length_nil,true_and,and_true,Nat.zero_add,eq_self,Nat.reduceEqDiff,Int.reduceAdd,Int.reduceSub,Int.reduceMul,not_true_eq_false,not_false_eq_true,Nat.reduceLT,Int.reduceEq,Int.reduceNe,Int.reduceLT,Int.reduceLE,or_true,or_false,false_implies,true_implies]
    repeat' (first | with_reducible refine And.intro ?_ ?_ | with_reducible intro _ | ((first | with_reducible refine w_Re_turns_18 ?_ | with_reducible refine w_Re_turns_20 ?_ | with_reducible refine w_Re_turns_39 ?_ | with_reducible refine w_Re_turns_40 ?_); simp (disch := omega) only [cm_,aq_,ay_,af_,ba_,bg_,am_,ae_,ac_,b2_,bq_,ed_,bs_,ao_,as_,c4_,az_,av_,cw_,dw_,d6_,fl_,fn_,fh_,fu_,fz_,fq_,fk_,fr_,ft_,fs_,f0_,c5_,bd_,c3_,ct_,cx_,co_,cr_,cj_,cf_,an_,fb_,fe_,ff_,fg_,fc_,fd_,dy_,d2_,d4_,ee_,eg_,d8_,cl_,dt_,dv_,du_,dr_,ds_,cd_,a9_,a8_,a7_,ce_,fv_,d1_,cq_,Int.toNat_natCast,Nat.reduceAdd,Nat.reduceMul,Int.reduceNeg,Nat.reduceLeDiff,List.length_cons,List.length_nil,true_and,and_true,Nat.zero_add,eq_self,Nat.reduceEqDiff,Int.reduceAdd,Int.reduceSub,Int.reduceMul,not_true_eq_false,not_false_eq_true,Nat.reduceLT,Int.reduceEq,Int.reduceNe,Int.reduceLT,Int.reduceLE,or_true,or_false,false_implies,true_implies]))
    all_goals first | omega | (exact h0 (fun q => c q.1))
theorem con_levels {s v : Int} (hs : inI s) (h1 : 0 ≤ s ∧ s < 12 → Q (some (.int (zI 1))) (he_ h r (sSl R (upI (rSl R) s.toNat v)))) (h0 : ¬ (0 ≤ s ∧ s < 12) → Q (some (.int (zI 0))) (he_ h r R)) : Con M_Re_levels [.ref r, .int (zI s), .int (zI v)] (he_ h r R) Q := by
  obtain ⟨m1, m2⟩ := id hs
  refine g8_ (L := [some (.ref r), some (.int (zI s)), some (.int (zI v))]) ok_Re_levels (Nat.le_of_ble_eq_true rfl) rfl ?_
  refine w_Re_levels_0 ?_
  simp (disch := omega) only [cm_,aq_,ay_,af_,ba_,bg_,am_,ae_,ac_,b2_,bq_,ed_,bs_,ao_,as_,c4_,az_,av_,cw_,dw_,d6_,fl_,fn_,fh_,fu_,fz_,fq_,fk_,fr_,ft_,fs_,f0_,c5_,bd_,c3_,ct_,cx_,co_,cr_,cj_,cf_,an_,fb_,fe_,ff_,fg_,fc_,fd_,dy_,d2_,d4_,ee_,eg_,d8_,cl_,dt_,dv_,du_,dr_,ds_,cd_,a9_,a8_,a7_,ce_,fv_,d1_,cq_,Int.toNat_natCast,Nat.reduceAdd,Nat.reduceMul,Int.reduceNeg,Nat.reduceLeDiff,List.length_cons,List.length_nil,true_and,and_true,Nat.zero_add,eq_self,Nat.reduceEqDiff,Int.reduceAdd,Int.reduceSub,Int.reduceMul,not_true_eq_false,not_false_eq_true,Nat.reduceLT,Int.reduceEq,Int.reduceNe,Int.reduceLT,Int.reduceLE,or_true,or_false,false_implies,true_implies]
  refine con_isStage hs (fun c => ?_) (fun c => ?_)
  · simp (disch := omega) only [cm_,aq_,ay_,af_,ba_,bg_,am_,ae_,ac_,b2_,bq_,ed_,bs_,ao_,as_,c4_,az_,av_,cw_,dw_,d6_,fl_,fn_,fh_,fu_,fz_,fq_,fk_,fr_,ft_,fs_,f0_,c5_,bd_,c3_,ct_,cx_,co_,cr_,cj_,cf_,an_,fb_,fe_,ff_,fg_,fc_,fd_,dy_,d2_,d4_,ee_,eg_,d8_,cl_,dt_,dv_,du_,dr_,ds_,cd_,a9_,a8_,a7_,ce_,fv_,d1_,cq_,Int.toNat_natCast,Nat.reduceAdd,Nat.reduceMul,Int.reduceNeg,Nat.reduceLeDiff,List.length_cons,List.length_nil,true_and,and_true,Nat.zero_add,eq_self,Nat.reduceEqDiff,Int.reduceAdd,Int.reduceSub,Int.reduceMul,not_true_eq_false,not_false_eq_true,Nat.reduceLT,Int.reduceEq,Int.reduceNe,Int.reduceLT,Int.reduceLE,or_true,or_false,false_implies,true_implies]
    repeat' (first | with_reducible refine And.intro ?_ ?_ | with_reducible intro _ | ((first | with_reducible refine w_Re_levels_9 ?_); simp (disch := omega) only [cm_,aq_,ay_,af_,ba_,bg_,am_,ae_,ac_,b2_,bq_,ed_,bs_,ao_,as_,c4_,az_,av_,cw_,dw_,d6_,fl_,fn_,fh_,fu_,fz_,fq_,fk_,fr_,ft_,fs_,f0_,c5_,bd_,c3_,ct_,cx_,co_,cr_,cj_,cf_,an_,fb_,fe_,ff_,fg_,fc_,fd_,dy_,d2_,d4_,ee_,eg_,d8_,cl_,dt_,dv_,du_,dr_,ds_,cd_,a9_,a8_,a7_,ce_,fv_,d1_,cq_,Int.toNat_natCast,Nat.reduceAdd,Nat.reduceMul,Int.reduceNeg,Nat.reduceLeDiff,List.length_cons,List.length_nil,true_and,and_true,Nat.zero_add,eq_self,Nat.reduceEqDiff,Int.reduceAdd,Int.reduceSub,Int.reduceMul,not_true_eq_false,not_false_eq_true,Nat.reduceLT,Int.reduceEq,Int.reduceNe,Int.reduceLT,Int.reduceLE,or_true,or_false,false_implies,true_implies]))
    all_goals first | omega | (exact h1 c)
  · simp (disch := omega) only [cm_,aq_,ay_,af_,ba_,bg_,am_,ae_,ac_,b2_,bq_,ed_,bs_,ao_,as_,c4_,az_,av_,cw_,dw_,d6_,fl_,fn_,fh_,fu_,fz_,fq_,fk_,fr_,ft_,fs_,f0_,c5_,bd_,c3_,ct_,cx_,co_,cr_,cj_,cf_,an_,fb_,fe_,ff_,fg_,fc_,fd_,dy_,d2_,d4_,ee_,eg_,d8_,cl_,dt_,dv_,du_,dr_,ds_,cd_,a9_,a8_,a7_,ce_,fv_,d1_,cq_,Int.toNat_natCast,Nat.reduceAdd,Nat.reduceMul,Int.reduceNeg,Nat.reduceLeDiff,List.length_cons,List.length_nil,true_and,and_true,Nat.zero_add,eq_self,Nat.reduceEqDiff,Int.reduceAdd,Int.reduceSub,Int.reduceMul,not_true_eq_false,not_false_eq_true,Nat.reduceLT,Int.reduceEq,Int.reduceNe,Int.reduceLT,Int.reduceLE,or_true,or_false,false_implies,true_implies]
    repeat' (first | with_reducible refine And.intro ?_ ?_ | with_reducible intro _ | ((first | with_reducible refine w_Re_levels_9 ?_); simp (disch := omega) only [cm_,aq_,ay_,af_,ba_,bg_,am_,ae_,ac_,b2_,bq_,ed_,bs_,ao_,as_,c4_,az_,av_,cw_,dw_,d6_,fl_,fn_,fh_,fu_,fz_,fq_,fk_,fr_,ft_,fs_,f0_,c5_,bd_,c3_,ct_,cx_,co_,cr_,cj_,cf_,an_,fb_,fe_,ff_,fg_,fc_,fd_,dy_,d2_,d4_,ee_,eg_,d8_,cl_,dt_,dv_,du_,dr_,ds_,cd_,a9_,a8_,a7_,ce_,fv_,d1_,cq_,Int.toNat_natCast,Nat.reduceAdd,Nat.reduceMul,Int.reduceNeg,Nat.reduceLeDiff,List.length_cons,List.length_nil,true_and,and_true,Nat.zero_add,eq_self,Nat.reduceEqDiff,Int.reduceAdd,Int.reduceSub,Int.reduceMul,not_true_eq_false,not_false_eq_true,Nat.reduceLT,Int.reduceEq,Int.reduceNe,Int.reduceLT,Int.reduceLE,or_true,or_false,false_implies,true_implies]))
    all_goals first | omega | (exact h0 c)
theorem con_snowMore {v : Int} (hv : 0 ≤ v ∧ v ≤ 9) (hG : GR R) (hQ : Q none (he_ h r (sSnow R (min 9 (rSnow R + v))))) : Con M_Re_snowMore [.ref r, .int (zI v)] (he_ h r R) Q := by
  have gs := hG.snow
  refine g8_ (L := [some (.ref r), some (.int (zI v))]) ok_Re_snowMore (Nat.le_of_ble_eq_true rfl) rfl ?_
  refine w_Re_snowMore_0 ?_
  simp (disch := omega) only [cm_,aq_,ay_,af_,ba_,bg_,am_,ae_,ac_,b2_,bq_,ed_,bs_,ao_,as_,c4_,az_,av_,cw_,dw_,d6_,fl_,fn_,fh_,fu_,fz_,fq_,fk_,fr_,ft_,fs_,f0_,c5_,bd_,c3_,ct_,cx_,co_,cr_,cj_,cf_,an_,fb_,fe_,ff_,fg_,fc_,fd_,dy_,d2_,d4_,ee_,eg_,d8_,cl_,dt_,dv_,du_,dr_,ds_,cd_,a9_,a8_,a7_,ce_,fv_,d1_,cq_,Int.toNat_natCast,Nat.reduceAdd,Nat.reduceMul,Int.reduceNeg,Nat.reduceLeDiff,List.length_cons,List.length_nil,true_and,and_true,Nat.zero_add,eq_self,Nat.reduceEqDiff,Int.reduceAdd,Int.reduceSub,Int.reduceMul,not_true_eq_false,not_false_eq_true,Nat.reduceLT,Int.reduceEq,Int.reduceNe,Int.reduceLT,Int.reduceLE,or_true,or_false,false_implies,true_implies]
  exact hQ
end C1
end
/-! bits -/
section
/-! ===== Int32 by its bits: bt x i ===== -/
def bt (x : Int32) (i : Nat) : Bool := x.toBitVec.getLsbD i
theorem b_ext {x y : Int32} (h : ∀ i, i < 32 → bt x i = bt y i) : x = y := Int32.toBitVec_inj.mp (BitVec.eq_of_getLsbD_eq (fun i hi => h i hi))
theorem b_or (x y : Int32) (i : Nat) : bt (x ||| y) i = (bt x i || bt y i) := by unfold bt; rw [Int32.toBitVec_or, BitVec.getLsbD_or]
theorem b_and (x y : Int32) (i : Nat) : bt (x &&& y) i = (bt x i && bt y i) := by unfold bt; rw [Int32.toBitVec_and, BitVec.getLsbD_and]
theorem b_xor (x y : Int32) (i : Nat) : bt (x ^^^ y) i = (bt x i ^^ bt y i) := by unfold bt; rw [Int32.toBitVec_xor, BitVec.getLsbD_xor]
theorem b_big {x : Int32} {i : Nat} (h : 32 ≤ i) : bt x i = false := BitVec.getLsbD_of_ge _ _ h
theorem b_255 (i : Nat) : bt 255 i = decide (i < 8) := by
  rcases Nat.lt_or_ge i 32 with h | h
  · exact (by decide +kernel : ∀ i, i < 32 → bt 255 i = decide (i < 8)) i h
  · rw [b_big h, decide_eq_false (by omega)]
theorem b_65535 (i : Nat) : bt 65535 i = decide (i < 16) := by
  rcases Nat.lt_or_ge i 32 with h | h
  · exact (by decide +kernel : ∀ i, i < 32 → bt 65535 i = decide (i < 16)) i h
  · rw [b_big h, decide_eq_false (by omega)]
theorem b_m1 : ∀ i, i < 32 → bt (-1) i = true := by decide +kernel
theorem b_0 (i : Nat) : bt 0 i = false := BitVec.getLsbD_zero
theorem s_l : ∀ n, n < 32 → ((nI n &&& 31).toBitVec.smod 32).toNat = n := by decide +kernel
theorem s_u : ∀ n, n < 32 → (((nI n).toUInt32 &&& Int32.toUInt32 31).toBitVec % 32).toNat = n := by decide +kernel
theorem b_shl (n : Nat) (hn : n < 32) (x : Int32) {i : Nat} (hi : i < 32) : bt (x <<< (nI n &&& 31)) i = (decide (n ≤ i) && bt x (i - n)) := by
  unfold bt
  rw [Int32.toBitVec_shiftLeft]
  show (x.toBitVec <<< ((nI n &&& 31).toBitVec.smod 32).toNat).getLsbD i = _
  rw [s_l n hn, BitVec.getLsbD_shiftLeft]
  rcases Nat.lt_or_ge i n with h | h
  · simp [h, Nat.not_le.mpr h]
  · simp [hi, h, Nat.not_lt.mpr h]
theorem b_ushr (n : Nat) (hn : n < 32) (x : Int32) (i : Nat) : bt ((x.toUInt32 >>> ((nI n).toUInt32 &&& Int32.toUInt32 31)).toInt32) i = bt x (n + i) := by
  show (x.toUInt32 >>> ((nI n).toUInt32 &&& Int32.toUInt32 31)).toBitVec.getLsbD i = x.toUInt32.toBitVec.getLsbD (n + i)
  rw [UInt32.toBitVec_shiftRight]
  show (x.toUInt32.toBitVec >>> (((nI n).toUInt32 &&& Int32.toUInt32 31).toBitVec % 32).toNat).getLsbD i = _
  rw [s_u n hn, BitVec.getLsbD_ushiftRight]
theorem b_sshr (n : Nat) (hn : n < 32) (x : Int32) {i : Nat} (hi : i < 32) : bt (x >>> (nI n &&& 31)) i = if n + i < 32 then bt x (n + i) else bt x 31 := by
  unfold bt
  rw [Int32.toBitVec_shiftRight]
  show (x.toBitVec.sshiftRight ((nI n &&& 31).toBitVec.smod 32).toNat).getLsbD i = _
  rw [s_l n hn, BitVec.getLsbD_sshiftRight, BitVec.msb_eq_getLsbD_last]
  simp [hi]
/-! ===== and the numbers of the class ===== -/
theorem zI_nI (n : Nat) : zI (n : Int) = nI n := by
  apply Int32.toBitVec_inj.mp
  show BitVec.ofInt 32 (n : Int) = BitVec.ofNat 32 n
  exact BitVec.ofInt_natCast 32 n
theorem bt_n (n i : Nat) (hi : i < 32) : bt (zI (n : Int)) i = n.testBit i := by
  rw [zI_nI]
  show (BitVec.ofNat 32 n).getLsbD i = _
  rw [BitVec.getLsbD_ofNat]
  simp [hi]
theorem one_bit (j : Nat) : (1 : Nat).testBit j = decide (j = 0) := by
  have := Nat.testBit_two_pow (n := 0) (m := j)
  simpa [eq_comm] using this
theorem eh_ (a b : Nat) : zI (a : Int) ||| zI (b : Int) = zI ((a ||| b : Nat) : Int) := by
  apply b_ext
  intro i hi
  rw [b_or, bt_n _ _ hi, bt_n _ _ hi, bt_n _ _ hi, Nat.testBit_or]
theorem zI_and (a b : Nat) : zI (a : Int) &&& zI (b : Int) = zI ((a &&& b : Nat) : Int) := by
  apply b_ext
  intro i hi
  rw [b_and, bt_n _ _ hi, bt_n _ _ hi, bt_n _ _ hi, Nat.testBit_and]
theorem zI_xor (a b : Nat) : zI (a : Int) ^^^ zI (b : Int) = zI ((a ^^^ b : Nat) : Int) := by
  apply b_ext
  intro i hi
  rw [b_xor, bt_n _ _ hi, bt_n _ _ hi, bt_n _ _ hi, Nat.testBit_xor]
theorem zI_1 : zI 1 = zI ((1 : Nat) : Int) := rfl
theorem b9_ {i : Int} (h1 : 0 ≤ i) (h2 : i < 31) : zI 1 <<< (zI i &&& 31) = zI ((2 ^ i.toNat : Nat) : Int) := by
  obtain ⟨n, rfl⟩ : ∃ n : Nat, i = n := ⟨i.toNat, by omega⟩
  rw [Int.toNat_natCast]
  apply b_ext
  intro j hj
  rw [bt_n _ _ hj, zI_1, zI_nI n, b_shl n (by omega) _ hj, bt_n _ _ (by omega), Nat.testBit_two_pow]
  by_cases hnj : n ≤ j
  · by_cases e : j = n
    · subst e; simp
    · simp only [hnj, decide_true, Bool.true_and]
      rw [one_bit, decide_eq_false (by omega), decide_eq_false (by omega)]
  · simp only [hnj, decide_false, Bool.false_and]
    simp only [Bool.false_eq, decide_eq_false_iff_not]
    omega
theorem c7_ {a : Nat} {i : Int} (ha : a < 2147483648) (h1 : 0 ≤ i) (h2 : i < 31) : (zI (a : Int) >>> (zI i &&& 31)) &&& zI 1 = zI (b2i (a.testBit i.toNat)) := by
  obtain ⟨n, rfl⟩ : ∃ n : Nat, i = n := ⟨i.toNat, by omega⟩
  rw [Int.toNat_natCast]
  have e : zI (b2i (a.testBit n)) = zI (((a.testBit n).toNat : Nat) : Int) := by cases a.testBit n <;> rfl
  rw [e]
  apply b_ext
  intro j hj
  rw [b_and, zI_nI n, b_sshr n (by omega) _ hj, zI_1, bt_n 1 j hj, bt_n _ _ hj]
  by_cases hj0 : j = 0
  · subst hj0
    rw [if_pos (by omega), bt_n _ _ (by omega)]
    cases a.testBit n <;> rfl
  · have h3 : (1 : Nat).testBit j = false := by rw [one_bit]; simp [hj0]
    rw [h3, Bool.and_false]
    cases a.testBit n
    · simp
    · show false = (1 : Nat).testBit j
      rw [h3]
def anb (a c : Nat) : Nat := a ^^^ (a &&& c)
theorem anb_bit (a c j : Nat) : (anb a c).testBit j = (a.testBit j && !c.testBit j) := by
  simp only [anb, Nat.testBit_xor, Nat.testBit_and]
  cases a.testBit j <;> cases c.testBit j <;> rfl
theorem c6_ (a c : Nat) : zI (a : Int) &&& (zI (c : Int) ^^^ zI (-1)) = zI ((anb a c : Nat) : Int) := by
  apply b_ext
  intro j hj
  rw [b_and, b_xor, bt_n _ _ hj, bt_n _ _ hj, bt_n _ _ hj, show zI (-1) = (-1 : Int32) from rfl, b_m1 j hj, anb_bit]
  cases a.testBit j <;> cases c.testBit j <;> rfl
theorem ej_ (b : Bool) : (b2i b = 1) = (b = true) := by cases b <;> simp [b2i]
theorem ei_ (b : Bool) : (b2i b = 0) = (b = false) := by cases b <;> simp [b2i]
theorem f3_ (i : Nat) : zI ((i : Int) + 1) = zI ((i + 1 : Nat) : Int) := id rfl
/-- the bits of those below n that are so -/
def mask (p : Nat → Bool) : Nat → Nat
  | 0 => 0
  | n + 1 => if p n then mask p n ||| 2 ^ n else mask p n
theorem mask_bit (p : Nat → Bool) (n j : Nat) : (mask p n).testBit j = (decide (j < n) && p j) := by
  induction n with
  | zero => simp [mask]
  | succ n ih =>
    simp only [mask]
    by_cases hp : p n = true
    · rw [if_pos hp, Nat.testBit_or, ih, Nat.testBit_two_pow]
      by_cases e : n = j
      · subst e; simp [hp]
      · by_cases hj : j < n
        · simp [hj, e, show j < n + 1 by omega]
        · simp [hj, e, show ¬ j < n + 1 by omega]
    · rw [if_neg hp, ih]
      by_cases e : j = n
      · subst e; simp [hp]
      · by_cases hj : j < n
        · simp [hj, show j < n + 1 by omega]
        · simp [hj, show ¬ j < n + 1 by omega]
theorem mask_lt (p : Nat → Bool) (n : Nat) : mask p n < 2 ^ n := by
  apply Nat.lt_pow_two_of_testBit
  intro i hi
  rw [mask_bit]
  simp [show ¬ i < n by omega]
theorem mask_256 (p : Nat → Bool) {n : Nat} (hn : n ≤ 8) : mask p n < 256 := Nat.lt_of_lt_of_le (mask_lt p n) (by calc 2 ^ n ≤ 2 ^ 8 := Nat.pow_le_pow_right (by omega) hn
                                                                                                                    _ = 256 := rfl)
theorem mask_t {p : Nat → Bool} {n : Nat} (h : p n = true) : mask p (n + 1) = mask p n ||| 2 ^ n := by simp [mask, h]
theorem mask_f {p : Nat → Bool} {n : Nat} (h : p n = false) : mask p (n + 1) = mask p n := by simp [mask, h]
theorem or_256 {a i : Nat} (ha : a < 256) (hi : i < 8) : a ||| 2 ^ i < 256 := Nat.or_lt_two_pow (n := 8) ha (Nat.pow_lt_pow_right (by omega) hi)
theorem anb_256 {a c : Nat} (ha : a < 256) : anb a c < 256 := Nat.lt_pow_two_of_testBit (n := 8) _ (fun i hi => by
  rw [anb_bit, Nat.testBit_lt_two_pow (Nat.lt_of_lt_of_le ha (Nat.pow_le_pow_right (n := 2) (by omega) hi))]
  rfl)
end
/-! model -/
section
/-! ===== the realm's numbers ===== -/
abbrev hb_ (R : RR) : Nat := (rMen R).toNat
theorem GR.nM {R : RR} (h : GR R) : ((hb_ R : Nat) : Int) = rMen R ∧ hb_ R ≤ 8 := by
  have := h.men
  show (((rMen R).toNat : Nat) : Int) = rMen R ∧ (rMen R).toNat ≤ 8
  omega
abbrev isF (R : RR) (w : Int) : Nat → Bool := fun k => decide (rFa R k = w)
def beF (k f w : Int) : Int := if k = 1 then 3 + f / 2 - 1 else if k = 2 then 3 + f / 2 + f else if k = 3 then (3 + f / 2 - 1) / 2 else if k = 4 then 3 + f / 2 + f + 2 else if k = 5 then (if 10 ≤ w then (3 + f / 2 + f + 2) / 2 else 3 + f / 2 + f + 2) else 3 + f / 2
def laF (k f : Int) : Int := if k = 1 then 15 else if k = 2 then f + 12 else if k = 3 then 5 else if k = 4 then f + 12 else if k = 5 then 2 * (f + 12) else 12
def weF (k s : Int) (fe : Bool) : Int := if k = 1 then s else if k = 2 then (s + 1) / 2 else if k = 3 then s + 2 else if k = 4 then (if fe = true then 0 else (s + 1) / 2) else if k = 5 then 1 else s + 1
def bears (R : RR) (m : Nat) : Int := beF (rKi R m) (rFi R m) (rWo R m)
def lasts (R : RR) (m : Nat) : Int := laF (rKi R m) (rFi R m)
def slH (R : RR) : Int := if hd_ R < 12 then rSl R (hd_ R).toNat else 0
def needed (R : RR) : Int := rLoad R + slH R + rSnow R
theorem bears_rng {R : RR} (h : GR R) (k : Nat) : 1 ≤ bears R k ∧ bears R k ≤ 18 := by
  have h1 := h.ki k
  have h2 := h.fi k
  simp only [bears, beF]
  repeat' split
  all_goals omega
theorem lasts_rng {R : RR} (h : GR R) (k : Nat) : 5 ≤ lasts R k ∧ lasts R k ≤ 42 := by
  have h1 := h.ki k
  have h2 := h.fi k
  simp only [lasts, laF]
  repeat' split
  all_goals omega
theorem slH_rng {R : RR} (h : GR R) : 0 ≤ slH R ∧ slH R ≤ 9 := by
  simp only [slH]
  split
  · exact h.sl _
  · omega
theorem needed_rng {R : RR} (h : GR R) : 1 ≤ needed R ∧ needed R ≤ 78 := by
  have h1 := slH_rng h
  have h2 := h.load
  have h3 := h.snow
  simp only [needed]
  omega
/-- a feudist or a silent one among these -/
def feud (R : RR) (b : Nat) : Nat → Bool
  | 0 => false
  | n + 1 => feud R b n || (b.testBit n && (decide (rKi R n = 4) || decide (rKi R n = 5)))
theorem feud_mono {R : RR} {b i j : Nat} (h : feud R b i = true) (hij : i ≤ j) : feud R b j = true := by
  induction j with
  | zero => rw [show i = 0 by omega] at h; exact h
  | succ j ih =>
    rcases Nat.lt_or_ge i (j + 1) with q | q
    · simp [feud, ih (by omega)]
    · rw [show j + 1 = i by omega]; exact h
def wears (R : RR) (b m : Nat) : Int := weF (rKi R m) (slH R) (feud R (anb b (2 ^ m)) 8)
theorem wears_rng {R : RR} (h : GR R) (b k : Nat) : 0 ≤ wears R b k ∧ wears R b k ≤ 11 := by
  have h1 := slH_rng h
  simp only [wears, weF]
  repeat' split
  all_goals omega
def stN (R : RR) (b : Nat) : Nat → Int
  | 0 => 0
  | n + 1 => if b.testBit n = true then stN R b n + bears R n else stN R b n
theorem stN_rng {R : RR} (h : GR R) (b n : Nat) : 0 ≤ stN R b n ∧ stN R b n ≤ 18 * n := by
  induction n with
  | zero => simp [stN]
  | succ n ih =>
    have := bears_rng h n
    simp only [stN]
    split <;> omega
def sbN (R : RR) (b : Nat) : Nat → Int
  | 0 => -9
  | n + 1 => if rFa R n = 1 ∧ b.testBit n = false ∧ (sbN R b n < 0 ∨ bears R (sbN R b n).toNat < bears R n) then (n : Int) else sbN R b n
theorem sbN_rng (R : RR) (b n : Nat) : sbN R b n = -9 ∨ (0 ≤ sbN R b n ∧ sbN R b n < n) := by
  induction n with
  | zero => left; rfl
  | succ n ih =>
    simp only [sbN]
    split
    · right; omega
    · rcases ih with q | q
      · left; exact q
      · right; omega
abbrev sbst (R : RR) (b : Nat) : Int := sbN R b (hb_ R)
def brs (R : RR) : Nat → Nat × Int
  | 0 => (0, 0)
  | n + 1 => if (brs R n).2 < needed R ∧ 0 ≤ sbst R (brs R n).1 then ((brs R n).1 ||| 2 ^ (sbst R (brs R n).1).toNat, (brs R n).2 + bears R (sbst R (brs R n).1).toNat) else brs R n
def brF (R : RR) : Nat := if (brs R 8).2 < needed R then 0 else (brs R 8).1
theorem brs_stable {R : RR} {i : Nat} (h : ¬ ((brs R i).2 < needed R ∧ 0 ≤ sbst R (brs R i).1)) (j : Nat) : brs R (i + j) = brs R i := by
  induction j with
  | zero => rfl
  | succ j ih =>
    rw [← Nat.add_assoc]
    simp only [brs]
    rw [ih, if_neg h]
theorem brs_256 {R : RR} (hG : GR R) (i : Nat) : (brs R i).1 < 256 := by
  induction i with
  | zero => simp [brs]
  | succ i ih =>
    simp only [brs]
    split
    · refine or_256 ih ?_
      have : sbst R (brs R i).1 = -9 ∨ (0 ≤ sbst R (brs R i).1 ∧ sbst R (brs R i).1 < hb_ R) := sbN_rng R (brs R i).1 (hb_ R)
      have := hG.nM
      omega
    · exact ih
theorem brs_rng {R : RR} (hG : GR R) (i : Nat) : 0 ≤ (brs R i).2 ∧ (brs R i).2 ≤ 18 * i := by
  induction i with
  | zero => simp [brs]
  | succ i ih =>
    simp only [brs]
    split
    · have := bears_rng hG (sbst R (brs R i).1).toNat
      omega
    · omega
theorem brF_256 {R : RR} (hG : GR R) : brF R < 256 := by
  simp only [brF]
  split
  · omega
  · exact brs_256 hG 8
def wearN (R : RR) (b i : Nat) : RR := sWo R (fun k => if k < i ∧ b.testBit k = true then min 99 (rWo R k + wears R b k) else rWo R k)
def buryN (R : RR) (i : Nat) : RR := sFa R (fun k => if k < i ∧ lasts R k ≤ rWo R k then 2 else rFa R k)
def movedX (R : RR) : RR := if brF R = 0 then R else buryN (sKing (wearN R (brF R) 8) (hd_ R + 1)) (hb_ R)
def coldX (R : RR) : RR := sSnow R (max 0 (rSnow R - 1))
def dayX (R : RR) : RR := if hd_ R = 12 then sDay R (hh_ R + 1) else coldX (movedX (sDay R (hh_ R + 1)))
def waitX (R : RR) : Bool := decide (hd_ R ≠ 12) && decide (brF (sDay R (hh_ R + 1)) = 0)
def g6_ (R : RR) : Nat → RR
  | 0 => R
  | n + 1 => dayX (g6_ R n)
def wtX (R : RR) : Nat → Int
  | 0 => 0
  | n + 1 => if waitX (g6_ R n) = true then wtX R n + 1 else wtX R n
theorem GR.day {R : RR} (h : GR R) (d : Int) : GR (sDay R d) := h
theorem GR.wear {R : RR} (h : GR R) (b i : Nat) : GR (wearN R b i) := by
  obtain ⟨h1, h2, h3, h4, h5, h6, h7, h8, h9⟩ := id h
  refine ⟨h1, h2, h3, h4, h5, h6, h7, h8, fun k => ?_⟩
  have := h9 k
  have := wears_rng h b k
  simp only [wearN, ds_]
  split <;> omega
theorem GR.bury {R : RR} (h : GR R) (i : Nat) : GR (buryN R i) := by
  obtain ⟨h1, h2, h3, h4, h5, h6, h7, h8, h9⟩ := id h
  refine ⟨h1, h2, h3, h4, h5, h6, h7, fun k => ?_, h9⟩
  have := h8 k
  simp only [buryN, dr_]
  split <;> omega
theorem GR.setKing {R : RR} (h : GR R) {x : Int} (hx : 0 ≤ x ∧ x ≤ 12) : GR (sKing R x) := by
  obtain ⟨h1, h2, h3, h4, h5, h6, h7, h8, h9⟩ := id h
  exact ⟨h1, hx, h3, h4, h5, h6, h7, h8, h9⟩
theorem GR.setSnow {R : RR} (h : GR R) {x : Int} (hx : 0 ≤ x ∧ x ≤ 9) : GR (sSnow R x) := by
  obtain ⟨h1, h2, h3, h4, h5, h6, h7, h8, h9⟩ := id h
  exact ⟨h1, h2, h3, hx, h5, h6, h7, h8, h9⟩
theorem GR.setLoad {R : RR} (h : GR R) {x : Int} (hx : 1 ≤ x ∧ x ≤ 60) : GR (sLoad R x) := by
  obtain ⟨h1, h2, h3, h4, h5, h6, h7, h8, h9⟩ := id h
  exact ⟨h1, h2, hx, h4, h5, h6, h7, h8, h9⟩
theorem upI_rng {f : Nat → Int} {a b x : Int} (hf : ∀ k, a ≤ f k ∧ f k ≤ b) (hx : a ≤ x ∧ x ≤ b) (i : Nat) : ∀ k, a ≤ upI f i x k ∧ upI f i x k ≤ b := by
  intro k
  simp only [upI]
  split
  · exact hx
  · exact hf k
theorem GR.setFa {R : RR} (h : GR R) {x : Int} (i : Nat) (hx : 0 ≤ x ∧ x ≤ 2) : GR (sFa R (upI (rFa R) i x)) := by
  obtain ⟨h1, h2, h3, h4, h5, h6, h7, h8, h9⟩ := id h
  exact ⟨h1, h2, h3, h4, h5, h6, h7, upI_rng h8 hx i, h9⟩
theorem GR.setKi {R : RR} (h : GR R) {x : Int} (i : Nat) (hx : 0 ≤ x ∧ x ≤ 5) : GR (sKi R (upI (rKi R) i x)) := by
  obtain ⟨h1, h2, h3, h4, h5, h6, h7, h8, h9⟩ := id h
  exact ⟨h1, h2, h3, h4, h5, upI_rng h6 hx i, h7, h8, h9⟩
theorem GR.setFi {R : RR} (h : GR R) {x : Int} (i : Nat) (hx : 0 ≤ x ∧ x ≤ 9) : GR (sFi R (upI (rFi R) i x)) := by
  obtain ⟨h1, h2, h3, h4, h5, h6, h7, h8, h9⟩ := id h
  exact ⟨h1, h2, h3, h4, h5, h6, upI_rng h7 hx i, h8, h9⟩
theorem GR.setSl {R : RR} (h : GR R) {x : Int} (i : Nat) (hx : 0 ≤ x ∧ x ≤ 9) : GR (sSl R (upI (rSl R) i x)) := by
  obtain ⟨h1, h2, h3, h4, h5, h6, h7, h8, h9⟩ := id h
  exact ⟨h1, h2, h3, h4, upI_rng h5 hx i, h6, h7, h8, h9⟩
theorem GR.add {R : RR} (h : GR R) (hm : rMen R < 8) {k f : Int} (hk : 0 ≤ k ∧ k ≤ 5) (hf : 0 ≤ f ∧ f ≤ 9) : GR (addR R k f) := by
  obtain ⟨h1, h2, h3, h4, h5, h6, h7, h8, h9⟩ := id h
  exact ⟨⟨show 0 ≤ rMen R + 1 by omega, show rMen R + 1 ≤ 8 by omega⟩, h2, h3, h4, h5, upI_rng h6 hk _, upI_rng h7 hf _, upI_rng h8 (by omega) _, upI_rng h9 (by omega) _⟩
theorem GR.cold {R : RR} (h : GR R) : GR (coldX R) := by
  have hs := h.snow
  exact GR.setSnow h (by omega)
theorem GR.moved {R : RR} (h : GR R) (hk : hd_ R ≠ 12) : GR (movedX R) := by
  have h1 := h.king
  simp only [movedX]
  split
  · exact h
  · exact GR.bury (GR.setKing (GR.wear h _ _) (by omega)) _
theorem GR.dX {R : RR} (h : GR R) : GR (dayX R) := by
  simp only [dayX]
  split
  · exact h
  · rename_i c
    exact GR.cold (GR.moved (R := sDay R (hh_ R + 1)) h c)
theorem GR.dsX {R : RR} (h : GR R) (n : Nat) : GR (g6_ R n) := by
  induction n with
  | zero => exact h
  | succ n ih => exact ih.dX
theorem wtX_rng (R : RR) (n : Nat) : 0 ≤ wtX R n ∧ wtX R n ≤ n := by
  induction n with
  | zero => simp [wtX]
  | succ n ih =>
    simp only [wtX]
    split <;> omega
/-- from k on, n of them together -/
def slAn (f : Nat → Int) : Nat → Nat → Int
  | _, 0 => 0
  | k, n + 1 => f k + slAn f (k + 1) n
def stp (R : RR) : Nat → Nat
  | 0 => 0
  | n + 1 => if rSl R (stp R n) < rSl R n then n else stp R n
def ftsN (R : RR) (t : Int) : Nat → Nat → Int
  | _, 0 => -9
  | k, n + 1 => if t < rLoad R + rSl R k then (k : Int) else ftsN R t (k + 1) n
def owN (R : RR) (v : Int) (b : Nat) : Nat → Nat → Int
  | _, 0 => -9
  | k, n + 1 => if b.testBit k = true ∧ bears R k = v then (k : Int) else owN R v b (k + 1) n
def twsN (R : RR) : Nat → Nat × Int
  | 0 => (0, 0)
  | n + 1 => if rFa R n = 1 then (if owN R (bears R n) (twsN R n).1 0 8 < 0 then ((twsN R n).1 ||| 2 ^ n, (twsN R n).2) else (anb (twsN R n).1 (2 ^ (owN R (bears R n) (twsN R n).1 0 8).toNat), (twsN R n).2 + 1)) else twsN R n
def cntN (p : Nat → Bool) : Nat → Int
  | 0 => 0
  | n + 1 => if p n = true then cntN p n + 1 else cntN p n
theorem cntN_rng (p : Nat → Bool) (n : Nat) : 0 ≤ cntN p n ∧ cntN p n ≤ n := by
  induction n with
  | zero => simp [cntN]
  | succ n ih =>
    simp only [cntN]
    split <;> omega
theorem beF_0 (f w : Int) : beF 0 f w = 3 + f / 2 := by simp [beF]
theorem beF_1 (f w : Int) : beF 1 f w = 3 + f / 2 - 1 := by simp [beF]
theorem beF_2 (f w : Int) : beF 2 f w = 3 + f / 2 + f := by simp [beF]
theorem beF_3 (f w : Int) : beF 3 f w = (3 + f / 2 - 1) / 2 := by simp [beF]
theorem beF_4 (f w : Int) : beF 4 f w = 3 + f / 2 + f + 2 := by simp [beF]
theorem beF_5 (f w : Int) : beF 5 f w = if 10 ≤ w then (3 + f / 2 + f + 2) / 2 else 3 + f / 2 + f + 2 := by simp [beF]
theorem weF_0 (s : Int) (b : Bool) : weF 0 s b = s + 1 := by simp [weF]
theorem weF_1 (s : Int) (b : Bool) : weF 1 s b = s := by simp [weF]
theorem weF_2 (s : Int) (b : Bool) : weF 2 s b = (s + 1) / 2 := by simp [weF]
theorem weF_3 (s : Int) (b : Bool) : weF 3 s b = s + 2 := by simp [weF]
theorem weF_4 (s : Int) (b : Bool) : weF 4 s b = if b = true then 0 else (s + 1) / 2 := by simp [weF]
theorem weF_5 (s : Int) (b : Bool) : weF 5 s b = 1 := by simp [weF]
theorem laF_0 (f : Int) : laF 0 f = 12 := by simp [laF]
theorem laF_1 (f : Int) : laF 1 f = 15 := by simp [laF]
theorem laF_2 (f : Int) : laF 2 f = f + 12 := by simp [laF]
theorem laF_3 (f : Int) : laF 3 f = 5 := by simp [laF]
theorem laF_4 (f : Int) : laF 4 f = f + 12 := by simp [laF]
theorem laF_5 (f : Int) : laF 5 f = 2 * (f + 12) := by simp [laF]
end
/-! loops -/
section
/-! ===== the realm's loops ===== -/
section C2
variable {h : AH} {r : Nat} {R : RR} {Q : Option Value → AH → Prop}
theorem con_menWhoAre {w : Int} (hw : inI w) (hG : GR R) (hQ : Q (some (.int (zI (mask (isF R w) (hb_ R) : Nat)))) (he_ h r R)) : Con M_Re_menWhoAre [.ref r, .int (zI w)] (he_ h r R) Q := by
  have gm := hG.men
  have gn := hG.nM
  obtain ⟨w1, w2⟩ := id hw
  refine g8_ (L := [some (.ref r), some (.int (zI w)), none, none]) ok_Re_menWhoAre (Nat.le_of_ble_eq_true rfl) rfl ?_
  refine w_Re_menWhoAre_0 ?_
  simp (disch := omega) only [cm_,aq_,ay_,ag_,b8_,af_,ba_,bc_,bx_,bb_,cp_,bf_,b3_,bv_,bh_,am_,ac_,bq_,ed_,bs_,a0_,ao_,as_,az_,dw_,d6_,ea_,d3_,b5_,fh_,fu_,fp_,fz_,fq_,fk_,ft_,f0_,c5_,bd_,ct_,cx_,co_,cr_,cj_,eb_,d5_,cf_,ch_,ci_,an_,fb_,ff_,fg_,fc_,fd_,cv_,fv_,cq_,Int.toNat_natCast,eh_,b9_,c7_,c6_,ej_,ei_,f3_,Nat.reduceAdd,Nat.reduceMul,Int.reduceNeg,Nat.reduceLeDiff,List.length_cons,List.length_nil,true_and,and_true,Nat.zero_add,eq_self,Nat.reduceEqDiff,Int.reduceAdd,Int.reduceSub,Int.reduceMul,not_true_eq_false,not_false_eq_true,Nat.reduceLT,Int.reduceEq,Int.reduceNe,Int.reduceLT,Int.reduceLE,or_true,or_false,false_or,and_self,and_false,false_and,false_implies,true_implies]
  have loop : ∀ n i : Nat, i + n = hb_ R → J M_Re_menWhoAre 4 [some (.ref r), some (.int (zI w)), some (.int (zI (mask (isF R w) i : Nat))), some (.int (zI i))] [] (he_ h r R) Q := by
    intro n
    induction n with
    | zero =>
      intro i hi
      have e : i = hb_ R := by omega
      refine w_Re_menWhoAre_4 ?_
      simp (disch := omega) only [cm_,aq_,ay_,ag_,b8_,af_,ba_,bc_,bx_,bb_,cp_,bf_,b3_,bv_,bh_,am_,ac_,bq_,ed_,bs_,a0_,ao_,as_,az_,dw_,d6_,ea_,d3_,b5_,fh_,fu_,fp_,fz_,fq_,fk_,ft_,f0_,c5_,bd_,ct_,cx_,co_,cr_,cj_,eb_,d5_,cf_,ch_,ci_,an_,fb_,ff_,fg_,fc_,fd_,cv_,fv_,cq_,Int.toNat_natCast,eh_,b9_,c7_,c6_,ej_,ei_,f3_,Nat.reduceAdd,Nat.reduceMul,Int.reduceNeg,Nat.reduceLeDiff,List.length_cons,List.length_nil,true_and,and_true,Nat.zero_add,eq_self,Nat.reduceEqDiff,Int.reduceAdd,Int.reduceSub,Int.reduceMul,not_true_eq_false,not_false_eq_true,Nat.reduceLT,Int.reduceEq,Int.reduceNe,Int.reduceLT,Int.reduceLE,or_true,or_false,false_or,and_self,and_false,false_and,false_implies,true_implies]
      repeat' (first | with_reducible refine And.intro ?_ ?_ | with_reducible intro _ | ((first | with_reducible refine w_Re_menWhoAre_34 ?_ | with_reducible refine w_Re_menWhoAre_40 ?_); simp (disch := omega) only [cm_,aq_,ay_,ag_,b8_,af_,ba_,bc_,bx_,bb_,cp_,bf_,b3_,bv_,bh_,am_,ac_,bq_,ed_,bs_,a0_,ao_,as_,az_,dw_,d6_,ea_,d3_,b5_,fh_,fu_,fp_,fz_,fq_,fk_,ft_,f0_,c5_,bd_,ct_,cx_,co_,cr_,cj_,eb_,d5_,cf_,ch_,ci_,an_,fb_,ff_,fg_,fc_,fd_,cv_,fv_,cq_,Int.toNat_natCast,eh_,b9_,c7_,c6_,ej_,ei_,f3_,Nat.reduceAdd,Nat.reduceMul,Int.reduceNeg,Nat.reduceLeDiff,List.length_cons,List.length_nil,true_and,and_true,Nat.zero_add,eq_self,Nat.reduceEqDiff,Int.reduceAdd,Int.reduceSub,Int.reduceMul,not_true_eq_false,not_false_eq_true,Nat.reduceLT,Int.reduceEq,Int.reduceNe,Int.reduceLT,Int.reduceLE,or_true,or_false,false_or,and_self,and_false,false_and,false_implies,true_implies]))
      all_goals first | omega | (rw [e]; exact hQ)
    | succ n ih =>
      intro i hi
      have em : (i : Int) < rMen R := by omega
      have gf := hG.fa i
      have step := ih (i + 1) (by omega)
      by_cases c : rFa R i = w
      · rw [mask_t (by simp [isF, c])] at step
        refine w_Re_menWhoAre_4 ?_
        simp (disch := omega) only [cm_,aq_,ay_,ag_,b8_,af_,ba_,bc_,bx_,bb_,cp_,bf_,b3_,bv_,bh_,am_,ac_,bq_,ed_,bs_,a0_,ao_,as_,az_,dw_,d6_,ea_,d3_,b5_,fh_,fu_,fp_,fz_,fq_,fk_,ft_,f0_,c5_,bd_,ct_,cx_,co_,cr_,cj_,eb_,d5_,cf_,ch_,ci_,an_,fb_,ff_,fg_,fc_,fd_,cv_,fv_,cq_,Int.toNat_natCast,eh_,b9_,c7_,c6_,ej_,ei_,f3_,Nat.reduceAdd,Nat.reduceMul,Int.reduceNeg,Nat.reduceLeDiff,List.length_cons,List.length_nil,true_and,and_true,Nat.zero_add,eq_self,Nat.reduceEqDiff,Int.reduceAdd,Int.reduceSub,Int.reduceMul,not_true_eq_false,not_false_eq_true,Nat.reduceLT,Int.reduceEq,Int.reduceNe,Int.reduceLT,Int.reduceLE,or_true,or_false,false_or,and_self,and_false,false_and,false_implies,true_implies]
        repeat' (first | with_reducible refine And.intro ?_ ?_ | with_reducible intro _ | ((first | with_reducible refine w_Re_menWhoAre_34 ?_ | with_reducible refine w_Re_menWhoAre_40 ?_); simp (disch := omega) only [cm_,aq_,ay_,ag_,b8_,af_,ba_,bc_,bx_,bb_,cp_,bf_,b3_,bv_,bh_,am_,ac_,bq_,ed_,bs_,a0_,ao_,as_,az_,dw_,d6_,ea_,d3_,b5_,fh_,fu_,fp_,fz_,fq_,fk_,ft_,f0_,c5_,bd_,ct_,cx_,co_,cr_,cj_,eb_,d5_,cf_,ch_,ci_,an_,fb_,ff_,fg_,fc_,fd_,cv_,fv_,cq_,Int.toNat_natCast,eh_,b9_,c7_,c6_,ej_,ei_,f3_,Nat.reduceAdd,Nat.reduceMul,Int.reduceNeg,Nat.reduceLeDiff,List.length_cons,List.length_nil,true_and,and_true,Nat.zero_add,eq_self,Nat.reduceEqDiff,Int.reduceAdd,Int.reduceSub,Int.reduceMul,not_true_eq_false,not_false_eq_true,Nat.reduceLT,Int.reduceEq,Int.reduceNe,Int.reduceLT,Int.reduceLE,or_true,or_false,false_or,and_self,and_false,false_and,false_implies,true_implies]))
        all_goals first | omega | exact step
      · rw [mask_f (by simp [isF, c])] at step
        refine w_Re_menWhoAre_4 ?_
        simp (disch := omega) only [cm_,aq_,ay_,ag_,b8_,af_,ba_,bc_,bx_,bb_,cp_,bf_,b3_,bv_,bh_,am_,ac_,bq_,ed_,bs_,a0_,ao_,as_,az_,dw_,d6_,ea_,d3_,b5_,fh_,fu_,fp_,fz_,fq_,fk_,ft_,f0_,c5_,bd_,ct_,cx_,co_,cr_,cj_,eb_,d5_,cf_,ch_,ci_,an_,fb_,ff_,fg_,fc_,fd_,cv_,fv_,cq_,Int.toNat_natCast,eh_,b9_,c7_,c6_,ej_,ei_,f3_,Nat.reduceAdd,Nat.reduceMul,Int.reduceNeg,Nat.reduceLeDiff,List.length_cons,List.length_nil,true_and,and_true,Nat.zero_add,eq_self,Nat.reduceEqDiff,Int.reduceAdd,Int.reduceSub,Int.reduceMul,not_true_eq_false,not_false_eq_true,Nat.reduceLT,Int.reduceEq,Int.reduceNe,Int.reduceLT,Int.reduceLE,or_true,or_false,false_or,and_self,and_false,false_and,false_implies,true_implies]
        repeat' (first | with_reducible refine And.intro ?_ ?_ | with_reducible intro _ | ((first | with_reducible refine w_Re_menWhoAre_34 ?_ | with_reducible refine w_Re_menWhoAre_40 ?_); simp (disch := omega) only [cm_,aq_,ay_,ag_,b8_,af_,ba_,bc_,bx_,bb_,cp_,bf_,b3_,bv_,bh_,am_,ac_,bq_,ed_,bs_,a0_,ao_,as_,az_,dw_,d6_,ea_,d3_,b5_,fh_,fu_,fp_,fz_,fq_,fk_,ft_,f0_,c5_,bd_,ct_,cx_,co_,cr_,cj_,eb_,d5_,cf_,ch_,ci_,an_,fb_,ff_,fg_,fc_,fd_,cv_,fv_,cq_,Int.toNat_natCast,eh_,b9_,c7_,c6_,ej_,ei_,f3_,Nat.reduceAdd,Nat.reduceMul,Int.reduceNeg,Nat.reduceLeDiff,List.length_cons,List.length_nil,true_and,and_true,Nat.zero_add,eq_self,Nat.reduceEqDiff,Int.reduceAdd,Int.reduceSub,Int.reduceMul,not_true_eq_false,not_false_eq_true,Nat.reduceLT,Int.reduceEq,Int.reduceNe,Int.reduceLT,Int.reduceLE,or_true,or_false,false_or,and_self,and_false,false_and,false_implies,true_implies]))
        all_goals first | omega | exact step
  exact loop _ 0 (Nat.zero_add _)
theorem con_bears {i : Nat} (hi : i < 8) (hG : GR R) (hQ : Q (some (.int (zI (bears R i)))) (he_ h r R)) : Con M_Re_bears [.ref r, .int (zI i)] (he_ h r R) Q := by
  have gk := hG.ki i
  have gf := hG.fi i
  have gw := hG.wo i
  have hb : bears R i = beF (rKi R i) (rFi R i) (rWo R i) := rfl
  rw [hb] at hQ
  clear hb
  refine g8_ (L := [some (.ref r), some (.int (zI i)), none, none]) ok_Re_bears (Nat.le_of_ble_eq_true rfl) rfl ?_
  refine w_Re_bears_0 ?_
  simp (disch := omega) only [cm_,aq_,ay_,ag_,b8_,af_,ba_,bc_,bx_,bb_,cp_,bf_,b3_,bv_,bh_,am_,ac_,bq_,ed_,bs_,a0_,ao_,as_,az_,dw_,d6_,ea_,d3_,b5_,fh_,fu_,fp_,fz_,fq_,fk_,ft_,f0_,c5_,bd_,ct_,cx_,co_,cr_,cj_,eb_,d5_,cf_,ch_,ci_,an_,fb_,ff_,fg_,fc_,fd_,cv_,fv_,cq_,Int.toNat_natCast,eh_,b9_,c7_,c6_,ej_,ei_,f3_,Nat.reduceAdd,Nat.reduceMul,Int.reduceNeg,Nat.reduceLeDiff,List.length_cons,List.length_nil,true_and,and_true,Nat.zero_add,eq_self,Nat.reduceEqDiff,Int.reduceAdd,Int.reduceSub,Int.reduceMul,not_true_eq_false,not_false_eq_true,Nat.reduceLT,Int.reduceEq,Int.reduceNe,Int.reduceLT,Int.reduceLE,or_true,or_false,false_or,and_self,and_false,false_and,false_implies,true_implies]
  repeat' (first | with_reducible refine And.intro ?_ ?_ | with_reducible intro _ | ((first | with_reducible refine w_Re_bears_10 ?_ | with_reducible refine w_Re_bears_12 ?_ | with_reducible refine w_Re_bears_80 ?_ | with_reducible refine w_Re_bears_84 ?_ | with_reducible refine w_Re_bears_93 ?_ | with_reducible refine w_Re_bears_99 ?_ | with_reducible refine w_Re_bears_101 ?_ | with_reducible refine w_Re_bears_118 ?_ | with_reducible refine w_Re_bears_119 ?_ | with_reducible refine w_Re_bears_120 ?_); simp (disch := omega) only [cm_,aq_,ay_,ag_,b8_,af_,ba_,bc_,bx_,bb_,cp_,bf_,b3_,bv_,bh_,am_,ac_,bq_,ed_,bs_,a0_,ao_,as_,az_,dw_,d6_,ea_,d3_,b5_,fh_,fu_,fp_,fz_,fq_,fk_,ft_,f0_,c5_,bd_,ct_,cx_,co_,cr_,cj_,eb_,d5_,cf_,ch_,ci_,an_,fb_,ff_,fg_,fc_,fd_,cv_,fv_,cq_,Int.toNat_natCast,eh_,b9_,c7_,c6_,ej_,ei_,f3_,Nat.reduceAdd,Nat.reduceMul,Int.reduceNeg,Nat.reduceLeDiff,List.length_cons,List.length_nil,true_and,and_true,Nat.zero_add,eq_self,Nat.reduceEqDiff,Int.reduceAdd,Int.reduceSub,Int.reduceMul,not_true_eq_false,not_false_eq_true,Nat.reduceLT,Int.reduceEq,Int.reduceNe,Int.reduceLT,Int.reduceLE,or_true,or_false,false_or,and_self,and_false,false_and,false_implies,true_implies]))
  all_goals first | omega | (rw [show rKi R i = 0 by omega, beF_0] at hQ; exact hQ) | (rw [show rKi R i = 1 by omega, beF_1] at hQ; exact hQ) | (rw [show rKi R i = 2 by omega, beF_2] at hQ; exact hQ) | (rw [show rKi R i = 3 by omega, beF_3] at hQ; exact hQ) | (rw [show rKi R i = 4 by omega, beF_4] at hQ; exact hQ) | (rw [show rKi R i = 5 by omega, beF_5, if_pos (by omega)] at hQ; exact hQ) | (rw [show rKi R i = 5 by omega, beF_5, if_neg (by omega)] at hQ; exact hQ)
theorem con_lasts {i : Nat} (hi : i < 8) (hG : GR R) (hQ : Q (some (.int (zI (lasts R i)))) (he_ h r R)) : Con M_Re_lasts [.ref r, .int (zI i)] (he_ h r R) Q := by
  have gk := hG.ki i
  have gf := hG.fi i
  have hb : lasts R i = laF (rKi R i) (rFi R i) := rfl
  rw [hb] at hQ
  have gk : rKi R i = 0 ∨ rKi R i = 1 ∨ rKi R i = 2 ∨ rKi R i = 3 ∨ rKi R i = 4 ∨ rKi R i = 5 := by omega
  refine g8_ (L := [some (.ref r), some (.int (zI i))]) ok_Re_lasts (Nat.le_of_ble_eq_true rfl) rfl ?_
  refine w_Re_lasts_0 ?_
  simp (disch := omega) only [cm_,aq_,ay_,ag_,b8_,af_,ba_,bc_,bx_,bb_,cp_,bf_,b3_,bv_,bh_,am_,ac_,bq_,ed_,bs_,a0_,ao_,as_,az_,dw_,d6_,ea_,d3_,b5_,fh_,fu_,fp_,fz_,fq_,fk_,ft_,f0_,c5_,bd_,ct_,cx_,co_,cr_,cj_,eb_,d5_,cf_,ch_,ci_,an_,fb_,ff_,fg_,fc_,fd_,cv_,fv_,cq_,Int.toNat_natCast,eh_,b9_,c7_,c6_,ej_,ei_,f3_,Nat.reduceAdd,Nat.reduceMul,Int.reduceNeg,Nat.reduceLeDiff,List.length_cons,List.length_nil,true_and,and_true,Nat.zero_add,eq_self,Nat.reduceEqDiff,Int.reduceAdd,Int.reduceSub,Int.reduceMul,not_true_eq_false,not_false_eq_true,Nat.reduceLT,Int.reduceEq,Int.reduceNe,Int.reduceLT,Int.reduceLE,or_true,or_false,false_or,and_self,and_false,false_and,false_implies,true_implies]
  refine ⟨fun _ => by omega, fun _ => ⟨fun _ => ?_, fun _ => by omega⟩⟩
  refine w_Re_lasts_12 ?_
  rcases gk with k | k | k | k | k | k
  all_goals rw [k] at hQ
  all_goals first | rw [laF_0] at hQ | rw [laF_1] at hQ | rw [laF_2] at hQ | rw [laF_3] at hQ | rw [laF_4] at hQ | rw [laF_5] at hQ
  all_goals simp (disch := omega) only [cm_,aq_,ay_,ag_,b8_,af_,ba_,bc_,bx_,bb_,cp_,bf_,b3_,bv_,bh_,am_,ac_,bq_,ed_,bs_,a0_,ao_,as_,az_,dw_,d6_,ea_,d3_,b5_,fh_,fu_,fp_,fz_,fq_,fk_,ft_,f0_,c5_,bd_,ct_,cx_,co_,cr_,cj_,eb_,d5_,cf_,ch_,ci_,an_,fb_,ff_,fg_,fc_,fd_,cv_,fv_,cq_,Int.toNat_natCast,eh_,b9_,c7_,c6_,ej_,ei_,f3_,Nat.reduceAdd,Nat.reduceMul,Int.reduceNeg,Nat.reduceLeDiff,List.length_cons,List.length_nil,true_and,and_true,Nat.zero_add,eq_self,Nat.reduceEqDiff,Int.reduceAdd,Int.reduceSub,Int.reduceMul,not_true_eq_false,not_false_eq_true,Nat.reduceLT,Int.reduceEq,Int.reduceNe,Int.reduceLT,Int.reduceLE,or_true,or_false,false_or,and_self,and_false,false_and,false_implies,true_implies,k]
  repeat' (first | with_reducible refine And.intro ?_ ?_ | with_reducible intro _ | ((first | with_reducible refine w_Re_lasts_10 ?_ | with_reducible refine w_Re_lasts_12 ?_ | with_reducible refine w_Re_lasts_56 ?_ | with_reducible refine w_Re_lasts_59 ?_ | with_reducible refine w_Re_lasts_69 ?_ | with_reducible refine w_Re_lasts_71 ?_ | with_reducible refine w_Re_lasts_83 ?_); simp (disch := omega) only [cm_,aq_,ay_,ag_,b8_,af_,ba_,bc_,bx_,bb_,cp_,bf_,b3_,bv_,bh_,am_,ac_,bq_,ed_,bs_,a0_,ao_,as_,az_,dw_,d6_,ea_,d3_,b5_,fh_,fu_,fp_,fz_,fq_,fk_,ft_,f0_,c5_,bd_,ct_,cx_,co_,cr_,cj_,eb_,d5_,cf_,ch_,ci_,an_,fb_,ff_,fg_,fc_,fd_,cv_,fv_,cq_,Int.toNat_natCast,eh_,b9_,c7_,c6_,ej_,ei_,f3_,Nat.reduceAdd,Nat.reduceMul,Int.reduceNeg,Nat.reduceLeDiff,List.length_cons,List.length_nil,true_and,and_true,Nat.zero_add,eq_self,Nat.reduceEqDiff,Int.reduceAdd,Int.reduceSub,Int.reduceMul,not_true_eq_false,not_false_eq_true,Nat.reduceLT,Int.reduceEq,Int.reduceNe,Int.reduceLT,Int.reduceLE,or_true,or_false,false_or,and_self,and_false,false_and,false_implies,true_implies]))
  all_goals first | omega | exact hQ
theorem con_isFeudAmong {b : Nat} (hb : b < 256) (hG : GR R) (h1 : feud R b 8 = true → Q (some (.int (zI 1))) (he_ h r R)) (h0 : feud R b 8 = false → Q (some (.int (zI 0))) (he_ h r R)) : Con M_Re_isFeudAmong [.ref r, .int (zI b)] (he_ h r R) Q := by
  refine g8_ (L := [some (.ref r), some (.int (zI b)), none]) ok_Re_isFeudAmong (Nat.le_of_ble_eq_true rfl) rfl ?_
  refine w_Re_isFeudAmong_0 ?_
  simp (disch := omega) only [cm_,aq_,ay_,ag_,b8_,af_,ba_,bc_,bx_,bb_,cp_,bf_,b3_,bv_,bh_,am_,ac_,bq_,ed_,bs_,a0_,ao_,as_,az_,dw_,d6_,ea_,d3_,b5_,fh_,fu_,fp_,fz_,fq_,fk_,ft_,f0_,c5_,bd_,ct_,cx_,co_,cr_,cj_,eb_,d5_,cf_,ch_,ci_,an_,fb_,ff_,fg_,fc_,fd_,cv_,fv_,cq_,Int.toNat_natCast,eh_,b9_,c7_,c6_,ej_,ei_,f3_,Nat.reduceAdd,Nat.reduceMul,Int.reduceNeg,Nat.reduceLeDiff,List.length_cons,List.length_nil,true_and,and_true,Nat.zero_add,eq_self,Nat.reduceEqDiff,Int.reduceAdd,Int.reduceSub,Int.reduceMul,not_true_eq_false,not_false_eq_true,Nat.reduceLT,Int.reduceEq,Int.reduceNe,Int.reduceLT,Int.reduceLE,or_true,or_false,false_or,and_self,and_false,false_and,false_implies,true_implies]
  have loop : ∀ n i : Nat, i + n = 8 → feud R b i = false → J M_Re_isFeudAmong 2 [some (.ref r), some (.int (zI b)), some (.int (zI i))] [] (he_ h r R) Q := by
    intro n
    induction n with
    | zero =>
      intro i hi hf
      have e : i = 8 := by omega
      subst e
      refine w_Re_isFeudAmong_2 ?_
      simp (disch := omega) only [cm_,aq_,ay_,ag_,b8_,af_,ba_,bc_,bx_,bb_,cp_,bf_,b3_,bv_,bh_,am_,ac_,bq_,ed_,bs_,a0_,ao_,as_,az_,dw_,d6_,ea_,d3_,b5_,fh_,fu_,fp_,fz_,fq_,fk_,ft_,f0_,c5_,bd_,ct_,cx_,co_,cr_,cj_,eb_,d5_,cf_,ch_,ci_,an_,fb_,ff_,fg_,fc_,fd_,cv_,fv_,cq_,Int.toNat_natCast,eh_,b9_,c7_,c6_,ej_,ei_,f3_,Nat.reduceAdd,Nat.reduceMul,Int.reduceNeg,Nat.reduceLeDiff,List.length_cons,List.length_nil,true_and,and_true,Nat.zero_add,eq_self,Nat.reduceEqDiff,Int.reduceAdd,Int.reduceSub,Int.reduceMul,not_true_eq_false,not_false_eq_true,Nat.reduceLT,Int.reduceEq,Int.reduceNe,Int.reduceLT,Int.reduceLE,or_true,or_false,false_or,and_self,and_false,false_and,false_implies,true_implies]
      repeat' (first | with_reducible refine And.intro ?_ ?_ | with_reducible intro _ | ((first | with_reducible refine w_Re_isFeudAmong_37 ?_ | with_reducible refine w_Re_isFeudAmong_39 ?_ | with_reducible refine w_Re_isFeudAmong_45 ?_); simp (disch := omega) only [cm_,aq_,ay_,ag_,b8_,af_,ba_,bc_,bx_,bb_,cp_,bf_,b3_,bv_,bh_,am_,ac_,bq_,ed_,bs_,a0_,ao_,as_,az_,dw_,d6_,ea_,d3_,b5_,fh_,fu_,fp_,fz_,fq_,fk_,ft_,f0_,c5_,bd_,ct_,cx_,co_,cr_,cj_,eb_,d5_,cf_,ch_,ci_,an_,fb_,ff_,fg_,fc_,fd_,cv_,fv_,cq_,Int.toNat_natCast,eh_,b9_,c7_,c6_,ej_,ei_,f3_,Nat.reduceAdd,Nat.reduceMul,Int.reduceNeg,Nat.reduceLeDiff,List.length_cons,List.length_nil,true_and,and_true,Nat.zero_add,eq_self,Nat.reduceEqDiff,Int.reduceAdd,Int.reduceSub,Int.reduceMul,not_true_eq_false,not_false_eq_true,Nat.reduceLT,Int.reduceEq,Int.reduceNe,Int.reduceLT,Int.reduceLE,or_true,or_false,false_or,and_self,and_false,false_and,false_implies,true_implies]))
      all_goals first | omega | (exact h0 hf)
    | succ n ih =>
      intro i hi hf
      have gk := hG.ki i
      have fs : feud R b (i + 1) = (feud R b i || (b.testBit i && (decide (rKi R i = 4) || decide (rKi R i = 5)))) := rfl
      rw [hf, Bool.false_or] at fs
      refine w_Re_isFeudAmong_2 ?_
      simp (disch := omega) only [cm_,aq_,ay_,ag_,b8_,af_,ba_,bc_,bx_,bb_,cp_,bf_,b3_,bv_,bh_,am_,ac_,bq_,ed_,bs_,a0_,ao_,as_,az_,dw_,d6_,ea_,d3_,b5_,fh_,fu_,fp_,fz_,fq_,fk_,ft_,f0_,c5_,bd_,ct_,cx_,co_,cr_,cj_,eb_,d5_,cf_,ch_,ci_,an_,fb_,ff_,fg_,fc_,fd_,cv_,fv_,cq_,Int.toNat_natCast,eh_,b9_,c7_,c6_,ej_,ei_,f3_,Nat.reduceAdd,Nat.reduceMul,Int.reduceNeg,Nat.reduceLeDiff,List.length_cons,List.length_nil,true_and,and_true,Nat.zero_add,eq_self,Nat.reduceEqDiff,Int.reduceAdd,Int.reduceSub,Int.reduceMul,not_true_eq_false,not_false_eq_true,Nat.reduceLT,Int.reduceEq,Int.reduceNe,Int.reduceLT,Int.reduceLE,or_true,or_false,false_or,and_self,and_false,false_and,false_implies,true_implies]
      by_cases cb : b.testBit i = true
      · by_cases ck : rKi R i = 4 ∨ rKi R i = 5
        · have f1 : feud R b (i + 1) = true := by rw [fs, cb]; simpa using ck
          repeat' (first | with_reducible refine And.intro ?_ ?_ | with_reducible intro _ | ((first | with_reducible refine w_Re_isFeudAmong_37 ?_ | with_reducible refine w_Re_isFeudAmong_39 ?_ | with_reducible refine w_Re_isFeudAmong_45 ?_); simp (disch := omega) only [cm_,aq_,ay_,ag_,b8_,af_,ba_,bc_,bx_,bb_,cp_,bf_,b3_,bv_,bh_,am_,ac_,bq_,ed_,bs_,a0_,ao_,as_,az_,dw_,d6_,ea_,d3_,b5_,fh_,fu_,fp_,fz_,fq_,fk_,ft_,f0_,c5_,bd_,ct_,cx_,co_,cr_,cj_,eb_,d5_,cf_,ch_,ci_,an_,fb_,ff_,fg_,fc_,fd_,cv_,fv_,cq_,Int.toNat_natCast,eh_,b9_,c7_,c6_,ej_,ei_,f3_,Nat.reduceAdd,Nat.reduceMul,Int.reduceNeg,Nat.reduceLeDiff,List.length_cons,List.length_nil,true_and,and_true,Nat.zero_add,eq_self,Nat.reduceEqDiff,Int.reduceAdd,Int.reduceSub,Int.reduceMul,not_true_eq_false,not_false_eq_true,Nat.reduceLT,Int.reduceEq,Int.reduceNe,Int.reduceLT,Int.reduceLE,or_true,or_false,false_or,and_self,and_false,false_and,false_implies,true_implies]))
          all_goals first | omega | (exact h1 (feud_mono f1 (by omega))) | (exact absurd cb (by assumption))
        · have f0 : feud R b (i + 1) = false := by rw [fs, cb]; simpa using ck
          repeat' (first | with_reducible refine And.intro ?_ ?_ | with_reducible intro _ | ((first | with_reducible refine w_Re_isFeudAmong_37 ?_ | with_reducible refine w_Re_isFeudAmong_39 ?_ | with_reducible refine w_Re_isFeudAmong_45 ?_); simp (disch := omega) only [cm_,aq_,ay_,ag_,b8_,af_,ba_,bc_,bx_,bb_,cp_,bf_,b3_,bv_,bh_,am_,ac_,bq_,ed_,bs_,a0_,ao_,as_,az_,dw_,d6_,ea_,d3_,b5_,fh_,fu_,fp_,fz_,fq_,fk_,ft_,f0_,c5_,bd_,ct_,cx_,co_,cr_,cj_,eb_,d5_,cf_,ch_,ci_,an_,fb_,ff_,fg_,fc_,fd_,cv_,fv_,cq_,Int.toNat_natCast,eh_,b9_,c7_,c6_,ej_,ei_,f3_,Nat.reduceAdd,Nat.reduceMul,Int.reduceNeg,Nat.reduceLeDiff,List.length_cons,List.length_nil,true_and,and_true,Nat.zero_add,eq_self,Nat.reduceEqDiff,Int.reduceAdd,Int.reduceSub,Int.reduceMul,not_true_eq_false,not_false_eq_true,Nat.reduceLT,Int.reduceEq,Int.reduceNe,Int.reduceLT,Int.reduceLE,or_true,or_false,false_or,and_self,and_false,false_and,false_implies,true_implies]))
          all_goals first | omega | (exact ih (i + 1) (by omega) f0) | (exact absurd cb (by assumption))
      · have f0 : feud R b (i + 1) = false := by rw [fs, Bool.eq_false_iff.mpr cb]; rfl
        repeat' (first | with_reducible refine And.intro ?_ ?_ | with_reducible intro _ | ((first | with_reducible refine w_Re_isFeudAmong_37 ?_ | with_reducible refine w_Re_isFeudAmong_39 ?_ | with_reducible refine w_Re_isFeudAmong_45 ?_); simp (disch := omega) only [cm_,aq_,ay_,ag_,b8_,af_,ba_,bc_,bx_,bb_,cp_,bf_,b3_,bv_,bh_,am_,ac_,bq_,ed_,bs_,a0_,ao_,as_,az_,dw_,d6_,ea_,d3_,b5_,fh_,fu_,fp_,fz_,fq_,fk_,ft_,f0_,c5_,bd_,ct_,cx_,co_,cr_,cj_,eb_,d5_,cf_,ch_,ci_,an_,fb_,ff_,fg_,fc_,fd_,cv_,fv_,cq_,Int.toNat_natCast,eh_,b9_,c7_,c6_,ej_,ei_,f3_,Nat.reduceAdd,Nat.reduceMul,Int.reduceNeg,Nat.reduceLeDiff,List.length_cons,List.length_nil,true_and,and_true,Nat.zero_add,eq_self,Nat.reduceEqDiff,Int.reduceAdd,Int.reduceSub,Int.reduceMul,not_true_eq_false,not_false_eq_true,Nat.reduceLT,Int.reduceEq,Int.reduceNe,Int.reduceLT,Int.reduceLE,or_true,or_false,false_or,and_self,and_false,false_and,false_implies,true_implies]))
        all_goals first | omega | (exact ih (i + 1) (by omega) f0) | (exact absurd cb (by assumption))
  exact loop _ 0 (Nat.zero_add _) rfl
theorem con_slH (hG : GR R) (hQ : Q (some (.int (zI (slH R)))) (he_ h r R)) : Con M_Re_slopeOf [.ref r, .int (zI (hd_ R))] (he_ h r R) Q := by
  have gk := hG.king
  refine con_slopeOf (by unfold inI; omega) (fun c => ?_) (fun c => ?_)
  · have : slH R = rSl R (hd_ R).toNat := by simp only [slH]; rw [if_pos c.2]
    rw [← this]
    exact hQ
  · have : slH R = 0 := by simp only [slH]; rw [if_neg (by omega)]
    rw [← this]
    exact hQ
theorem con_needed (hG : GR R) (hQ : Q (some (.int (zI (needed R)))) (he_ h r R)) : Con M_Re_needed [.ref r] (he_ h r R) Q := by
  refine g8_ (L := [some (.ref r)]) ok_Re_needed (Nat.le_of_ble_eq_true rfl) rfl ?_
  refine w_Re_needed_0 ?_
  simp (disch := omega) only [cm_,aq_,ay_,ag_,b8_,af_,ba_,bc_,bx_,bb_,cp_,bf_,b3_,bv_,bh_,am_,ac_,bq_,ed_,bs_,a0_,ao_,as_,az_,dw_,d6_,ea_,d3_,b5_,fh_,fu_,fp_,fz_,fq_,fk_,ft_,f0_,c5_,bd_,ct_,cx_,co_,cr_,cj_,eb_,d5_,cf_,ch_,ci_,an_,fb_,ff_,fg_,fc_,fd_,cv_,fv_,cq_,Int.toNat_natCast,eh_,b9_,c7_,c6_,ej_,ei_,f3_,Nat.reduceAdd,Nat.reduceMul,Int.reduceNeg,Nat.reduceLeDiff,List.length_cons,List.length_nil,true_and,and_true,Nat.zero_add,eq_self,Nat.reduceEqDiff,Int.reduceAdd,Int.reduceSub,Int.reduceMul,not_true_eq_false,not_false_eq_true,Nat.reduceLT,Int.reduceEq,Int.reduceNe,Int.reduceLT,Int.reduceLE,or_true,or_false,false_or,and_self,and_false,false_and,false_implies,true_implies]
  refine con_slH hG ?_
  simp (disch := omega) only [cm_,aq_,ay_,ag_,b8_,af_,ba_,bc_,bx_,bb_,cp_,bf_,b3_,bv_,bh_,am_,ac_,bq_,ed_,bs_,a0_,ao_,as_,az_,dw_,d6_,ea_,d3_,b5_,fh_,fu_,fp_,fz_,fq_,fk_,ft_,f0_,c5_,bd_,ct_,cx_,co_,cr_,cj_,eb_,d5_,cf_,ch_,ci_,an_,fb_,ff_,fg_,fc_,fd_,cv_,fv_,cq_,Int.toNat_natCast,eh_,b9_,c7_,c6_,ej_,ei_,f3_,Nat.reduceAdd,Nat.reduceMul,Int.reduceNeg,Nat.reduceLeDiff,List.length_cons,List.length_nil,true_and,and_true,Nat.zero_add,eq_self,Nat.reduceEqDiff,Int.reduceAdd,Int.reduceSub,Int.reduceMul,not_true_eq_false,not_false_eq_true,Nat.reduceLT,Int.reduceEq,Int.reduceNe,Int.reduceLT,Int.reduceLE,or_true,or_false,false_or,and_self,and_false,false_and,false_implies,true_implies]
  exact hQ
theorem con_wears {i b : Nat} (hi : i < 8) (hb : b < 256) (hG : GR R) (hQ : Q (some (.int (zI (wears R b i)))) (he_ h r R)) : Con M_Re_wears [.ref r, .int (zI i), .int (zI b)] (he_ h r R) Q := by
  have gk := hG.ki i
  have gs := slH_rng hG
  have he : wears R b i = weF (rKi R i) (slH R) (feud R (anb b (2 ^ i)) 8) := rfl
  rw [he] at hQ
  have gk : rKi R i = 0 ∨ rKi R i = 1 ∨ rKi R i = 2 ∨ rKi R i = 3 ∨ rKi R i = 4 ∨ rKi R i = 5 := by omega
  refine g8_ (L := [some (.ref r), some (.int (zI i)), some (.int (zI b)), none]) ok_Re_wears (Nat.le_of_ble_eq_true rfl) rfl ?_
  refine w_Re_wears_0 ?_
  simp (disch := omega) only [cm_,aq_,ay_,ag_,b8_,af_,ba_,bc_,bx_,bb_,cp_,bf_,b3_,bv_,bh_,am_,ac_,bq_,ed_,bs_,a0_,ao_,as_,az_,dw_,d6_,ea_,d3_,b5_,fh_,fu_,fp_,fz_,fq_,fk_,ft_,f0_,c5_,bd_,ct_,cx_,co_,cr_,cj_,eb_,d5_,cf_,ch_,ci_,an_,fb_,ff_,fg_,fc_,fd_,cv_,fv_,cq_,Int.toNat_natCast,eh_,b9_,c7_,c6_,ej_,ei_,f3_,Nat.reduceAdd,Nat.reduceMul,Int.reduceNeg,Nat.reduceLeDiff,List.length_cons,List.length_nil,true_and,and_true,Nat.zero_add,eq_self,Nat.reduceEqDiff,Int.reduceAdd,Int.reduceSub,Int.reduceMul,not_true_eq_false,not_false_eq_true,Nat.reduceLT,Int.reduceEq,Int.reduceNe,Int.reduceLT,Int.reduceLE,or_true,or_false,false_or,and_self,and_false,false_and,false_implies,true_implies]
  refine ⟨fun _ => by omega, fun _ => ⟨fun _ => ?_, fun _ => by omega⟩⟩
  refine w_Re_wears_12 ?_
  simp (disch := omega) only [cm_,aq_,ay_,ag_,b8_,af_,ba_,bc_,bx_,bb_,cp_,bf_,b3_,bv_,bh_,am_,ac_,bq_,ed_,bs_,a0_,ao_,as_,az_,dw_,d6_,ea_,d3_,b5_,fh_,fu_,fp_,fz_,fq_,fk_,ft_,f0_,c5_,bd_,ct_,cx_,co_,cr_,cj_,eb_,d5_,cf_,ch_,ci_,an_,fb_,ff_,fg_,fc_,fd_,cv_,fv_,cq_,Int.toNat_natCast,eh_,b9_,c7_,c6_,ej_,ei_,f3_,Nat.reduceAdd,Nat.reduceMul,Int.reduceNeg,Nat.reduceLeDiff,List.length_cons,List.length_nil,true_and,and_true,Nat.zero_add,eq_self,Nat.reduceEqDiff,Int.reduceAdd,Int.reduceSub,Int.reduceMul,not_true_eq_false,not_false_eq_true,Nat.reduceLT,Int.reduceEq,Int.reduceNe,Int.reduceLT,Int.reduceLE,or_true,or_false,false_or,and_self,and_false,false_and,false_implies,true_implies]
  refine con_slH hG ?_
  rcases gk with k | k | k | k | k | k
  all_goals rw [k] at hQ
  · rw [weF_0] at hQ
    simp (disch := omega) only [cm_,aq_,ay_,ag_,b8_,af_,ba_,bc_,bx_,bb_,cp_,bf_,b3_,bv_,bh_,am_,ac_,bq_,ed_,bs_,a0_,ao_,as_,az_,dw_,d6_,ea_,d3_,b5_,fh_,fu_,fp_,fz_,fq_,fk_,ft_,f0_,c5_,bd_,ct_,cx_,co_,cr_,cj_,eb_,d5_,cf_,ch_,ci_,an_,fb_,ff_,fg_,fc_,fd_,cv_,fv_,cq_,Int.toNat_natCast,eh_,b9_,c7_,c6_,ej_,ei_,f3_,Nat.reduceAdd,Nat.reduceMul,Int.reduceNeg,Nat.reduceLeDiff,List.length_cons,List.length_nil,true_and,and_true,Nat.zero_add,eq_self,Nat.reduceEqDiff,Int.reduceAdd,Int.reduceSub,Int.reduceMul,not_true_eq_false,not_false_eq_true,Nat.reduceLT,Int.reduceEq,Int.reduceNe,Int.reduceLT,Int.reduceLE,or_true,or_false,false_or,and_self,and_false,false_and,false_implies,true_implies,k]
    repeat' (first | with_reducible refine And.intro ?_ ?_ | with_reducible intro _ | ((first | with_reducible refine w_Re_wears_10 ?_ | with_reducible refine w_Re_wears_12 ?_ | with_reducible refine w_Re_wears_64 ?_ | with_reducible refine w_Re_wears_66 ?_ | with_reducible refine w_Re_wears_72 ?_ | with_reducible refine w_Re_wears_76 ?_ | with_reducible refine w_Re_wears_94 ?_ | with_reducible refine w_Re_wears_99 ?_ | with_reducible refine w_Re_wears_100 ?_ | with_reducible refine w_Re_wears_102 ?_); simp (disch := omega) only [cm_,aq_,ay_,ag_,b8_,af_,ba_,bc_,bx_,bb_,cp_,bf_,b3_,bv_,bh_,am_,ac_,bq_,ed_,bs_,a0_,ao_,as_,az_,dw_,d6_,ea_,d3_,b5_,fh_,fu_,fp_,fz_,fq_,fk_,ft_,f0_,c5_,bd_,ct_,cx_,co_,cr_,cj_,eb_,d5_,cf_,ch_,ci_,an_,fb_,ff_,fg_,fc_,fd_,cv_,fv_,cq_,Int.toNat_natCast,eh_,b9_,c7_,c6_,ej_,ei_,f3_,Nat.reduceAdd,Nat.reduceMul,Int.reduceNeg,Nat.reduceLeDiff,List.length_cons,List.length_nil,true_and,and_true,Nat.zero_add,eq_self,Nat.reduceEqDiff,Int.reduceAdd,Int.reduceSub,Int.reduceMul,not_true_eq_false,not_false_eq_true,Nat.reduceLT,Int.reduceEq,Int.reduceNe,Int.reduceLT,Int.reduceLE,or_true,or_false,false_or,and_self,and_false,false_and,false_implies,true_implies]))
    all_goals first | omega | exact hQ
  · rw [weF_1] at hQ
    simp (disch := omega) only [cm_,aq_,ay_,ag_,b8_,af_,ba_,bc_,bx_,bb_,cp_,bf_,b3_,bv_,bh_,am_,ac_,bq_,ed_,bs_,a0_,ao_,as_,az_,dw_,d6_,ea_,d3_,b5_,fh_,fu_,fp_,fz_,fq_,fk_,ft_,f0_,c5_,bd_,ct_,cx_,co_,cr_,cj_,eb_,d5_,cf_,ch_,ci_,an_,fb_,ff_,fg_,fc_,fd_,cv_,fv_,cq_,Int.toNat_natCast,eh_,b9_,c7_,c6_,ej_,ei_,f3_,Nat.reduceAdd,Nat.reduceMul,Int.reduceNeg,Nat.reduceLeDiff,List.length_cons,List.length_nil,true_and,and_true,Nat.zero_add,eq_self,Nat.reduceEqDiff,Int.reduceAdd,Int.reduceSub,Int.reduceMul,not_true_eq_false,not_false_eq_true,Nat.reduceLT,Int.reduceEq,Int.reduceNe,Int.reduceLT,Int.reduceLE,or_true,or_false,false_or,and_self,and_false,false_and,false_implies,true_implies,k]
    repeat' (first | with_reducible refine And.intro ?_ ?_ | with_reducible intro _ | ((first | with_reducible refine w_Re_wears_10 ?_ | with_reducible refine w_Re_wears_12 ?_ | with_reducible refine w_Re_wears_64 ?_ | with_reducible refine w_Re_wears_66 ?_ | with_reducible refine w_Re_wears_72 ?_ | with_reducible refine w_Re_wears_76 ?_ | with_reducible refine w_Re_wears_94 ?_ | with_reducible refine w_Re_wears_99 ?_ | with_reducible refine w_Re_wears_100 ?_ | with_reducible refine w_Re_wears_102 ?_); simp (disch := omega) only [cm_,aq_,ay_,ag_,b8_,af_,ba_,bc_,bx_,bb_,cp_,bf_,b3_,bv_,bh_,am_,ac_,bq_,ed_,bs_,a0_,ao_,as_,az_,dw_,d6_,ea_,d3_,b5_,fh_,fu_,fp_,fz_,fq_,fk_,ft_,f0_,c5_,bd_,ct_,cx_,co_,cr_,cj_,eb_,d5_,cf_,ch_,ci_,an_,fb_,ff_,fg_,fc_,fd_,cv_,fv_,cq_,Int.toNat_natCast,eh_,b9_,c7_,c6_,ej_,ei_,f3_,Nat.reduceAdd,Nat.reduceMul,Int.reduceNeg,Nat.reduceLeDiff,List.length_cons,List.length_nil,true_and,and_true,Nat.zero_add,eq_self,Nat.reduceEqDiff,Int.reduceAdd,Int.reduceSub,Int.reduceMul,not_true_eq_false,not_false_eq_true,Nat.reduceLT,Int.reduceEq,Int.reduceNe,Int.reduceLT,Int.reduceLE,or_true,or_false,false_or,and_self,and_false,false_and,false_implies,true_implies]))
    all_goals first | omega | exact hQ
  · rw [weF_2] at hQ
    simp (disch := omega) only [cm_,aq_,ay_,ag_,b8_,af_,ba_,bc_,bx_,bb_,cp_,bf_,b3_,bv_,bh_,am_,ac_,bq_,ed_,bs_,a0_,ao_,as_,az_,dw_,d6_,ea_,d3_,b5_,fh_,fu_,fp_,fz_,fq_,fk_,ft_,f0_,c5_,bd_,ct_,cx_,co_,cr_,cj_,eb_,d5_,cf_,ch_,ci_,an_,fb_,ff_,fg_,fc_,fd_,cv_,fv_,cq_,Int.toNat_natCast,eh_,b9_,c7_,c6_,ej_,ei_,f3_,Nat.reduceAdd,Nat.reduceMul,Int.reduceNeg,Nat.reduceLeDiff,List.length_cons,List.length_nil,true_and,and_true,Nat.zero_add,eq_self,Nat.reduceEqDiff,Int.reduceAdd,Int.reduceSub,Int.reduceMul,not_true_eq_false,not_false_eq_true,Nat.reduceLT,Int.reduceEq,Int.reduceNe,Int.reduceLT,Int.reduceLE,or_true,or_false,false_or,and_self,and_false,false_and,false_implies,true_implies,k]
    repeat' (first | with_reducible refine And.intro ?_ ?_ | with_reducible intro _ | ((first | with_reducible refine w_Re_wears_10 ?_ | with_reducible refine w_Re_wears_12 ?_ | with_reducible refine w_Re_wears_64 ?_ | with_reducible refine w_Re_wears_66 ?_ | with_reducible refine w_Re_wears_72 ?_ | with_reducible refine w_Re_wears_76 ?_ | with_reducible refine w_Re_wears_94 ?_ | with_reducible refine w_Re_wears_99 ?_ | with_reducible refine w_Re_wears_100 ?_ | with_reducible refine w_Re_wears_102 ?_); simp (disch := omega) only [cm_,aq_,ay_,ag_,b8_,af_,ba_,bc_,bx_,bb_,cp_,bf_,b3_,bv_,bh_,am_,ac_,bq_,ed_,bs_,a0_,ao_,as_,az_,dw_,d6_,ea_,d3_,b5_,fh_,fu_,fp_,fz_,fq_,fk_,ft_,f0_,c5_,bd_,ct_,cx_,co_,cr_,cj_,eb_,d5_,cf_,ch_,ci_,an_,fb_,ff_,fg_,fc_,fd_,cv_,fv_,cq_,Int.toNat_natCast,eh_,b9_,c7_,c6_,ej_,ei_,f3_,Nat.reduceAdd,Nat.reduceMul,Int.reduceNeg,Nat.reduceLeDiff,List.length_cons,List.length_nil,true_and,and_true,Nat.zero_add,eq_self,Nat.reduceEqDiff,Int.reduceAdd,Int.reduceSub,Int.reduceMul,not_true_eq_false,not_false_eq_true,Nat.reduceLT,Int.reduceEq,Int.reduceNe,Int.reduceLT,Int.reduceLE,or_true,or_false,false_or,and_self,and_false,false_and,false_implies,true_implies]))
    all_goals first | omega | exact hQ
  · rw [weF_3] at hQ
    simp (disch := omega) only [cm_,aq_,ay_,ag_,b8_,af_,ba_,bc_,bx_,bb_,cp_,bf_,b3_,bv_,bh_,am_,ac_,bq_,ed_,bs_,a0_,ao_,as_,az_,dw_,d6_,ea_,d3_,b5_,fh_,fu_,fp_,fz_,fq_,fk_,ft_,f0_,c5_,bd_,ct_,cx_,co_,cr_,cj_,eb_,d5_,cf_,ch_,ci_,an_,fb_,ff_,fg_,fc_,fd_,cv_,fv_,cq_,Int.toNat_natCast,eh_,b9_,c7_,c6_,ej_,ei_,f3_,Nat.reduceAdd,Nat.reduceMul,Int.reduceNeg,Nat.reduceLeDiff,List.length_cons,List.length_nil,true_and,and_true,Nat.zero_add,eq_self,Nat.reduceEqDiff,Int.reduceAdd,Int.reduceSub,Int.reduceMul,not_true_eq_false,not_false_eq_true,Nat.reduceLT,Int.reduceEq,Int.reduceNe,Int.reduceLT,Int.reduceLE,or_true,or_false,false_or,and_self,and_false,false_and,false_implies,true_implies,k]
    repeat' (first | with_reducible refine And.intro ?_ ?_ | with_reducible intro _ | ((first | with_reducible refine w_Re_wears_10 ?_ | with_reducible refine w_Re_wears_12 ?_ | with_reducible refine w_Re_wears_64 ?_ | with_reducible refine w_Re_wears_66 ?_ | with_reducible refine w_Re_wears_72 ?_ | with_reducible refine w_Re_wears_76 ?_ | with_reducible refine w_Re_wears_94 ?_ | with_reducible refine w_Re_wears_99 ?_ | with_reducible refine w_Re_wears_100 ?_ | with_reducible refine w_Re_wears_102 ?_); simp (disch := omega) only [cm_,aq_,ay_,ag_,b8_,af_,ba_,bc_,bx_,bb_,cp_,bf_,b3_,bv_,bh_,am_,ac_,bq_,ed_,bs_,a0_,ao_,as_,az_,dw_,d6_,ea_,d3_,b5_,fh_,fu_,fp_,fz_,fq_,fk_,ft_,f0_,c5_,bd_,ct_,cx_,co_,cr_,cj_,eb_,d5_,cf_,ch_,ci_,an_,fb_,ff_,fg_,fc_,fd_,cv_,fv_,cq_,Int.toNat_natCast,eh_,b9_,c7_,c6_,ej_,ei_,f3_,Nat.reduceAdd,Nat.reduceMul,Int.reduceNeg,Nat.reduceLeDiff,List.length_cons,List.length_nil,true_and,and_true,Nat.zero_add,eq_self,Nat.reduceEqDiff,Int.reduceAdd,Int.reduceSub,Int.reduceMul,not_true_eq_false,not_false_eq_true,Nat.reduceLT,Int.reduceEq,Int.reduceNe,Int.reduceLT,Int.reduceLE,or_true,or_false,false_or,and_self,and_false,false_and,false_implies,true_implies]))
    all_goals first | omega | exact hQ
  · rw [weF_4] at hQ
    simp (disch := omega) only [cm_,aq_,ay_,ag_,b8_,af_,ba_,bc_,bx_,bb_,cp_,bf_,b3_,bv_,bh_,am_,ac_,bq_,ed_,bs_,a0_,ao_,as_,az_,dw_,d6_,ea_,d3_,b5_,fh_,fu_,fp_,fz_,fq_,fk_,ft_,f0_,c5_,bd_,ct_,cx_,co_,cr_,cj_,eb_,d5_,cf_,ch_,ci_,an_,fb_,ff_,fg_,fc_,fd_,cv_,fv_,cq_,Int.toNat_natCast,eh_,b9_,c7_,c6_,ej_,ei_,f3_,Nat.reduceAdd,Nat.reduceMul,Int.reduceNeg,Nat.reduceLeDiff,List.length_cons,List.length_nil,true_and,and_true,Nat.zero_add,eq_self,Nat.reduceEqDiff,Int.reduceAdd,Int.reduceSub,Int.reduceMul,not_true_eq_false,not_false_eq_true,Nat.reduceLT,Int.reduceEq,Int.reduceNe,Int.reduceLT,Int.reduceLE,or_true,or_false,false_or,and_self,and_false,false_and,false_implies,true_implies,k]
    repeat' (first | with_reducible refine And.intro ?_ ?_ | with_reducible intro _ | ((first | with_reducible refine w_Re_wears_10 ?_ | with_reducible refine w_Re_wears_12 ?_ | with_reducible refine w_Re_wears_64 ?_ | with_reducible refine w_Re_wears_66 ?_ | with_reducible refine w_Re_wears_72 ?_ | with_reducible refine w_Re_wears_76 ?_ | with_reducible refine w_Re_wears_94 ?_ | with_reducible refine w_Re_wears_99 ?_ | with_reducible refine w_Re_wears_100 ?_ | with_reducible refine w_Re_wears_102 ?_); simp (disch := omega) only [cm_,aq_,ay_,ag_,b8_,af_,ba_,bc_,bx_,bb_,cp_,bf_,b3_,bv_,bh_,am_,ac_,bq_,ed_,bs_,a0_,ao_,as_,az_,dw_,d6_,ea_,d3_,b5_,fh_,fu_,fp_,fz_,fq_,fk_,ft_,f0_,c5_,bd_,ct_,cx_,co_,cr_,cj_,eb_,d5_,cf_,ch_,ci_,an_,fb_,ff_,fg_,fc_,fd_,cv_,fv_,cq_,Int.toNat_natCast,eh_,b9_,c7_,c6_,ej_,ei_,f3_,Nat.reduceAdd,Nat.reduceMul,Int.reduceNeg,Nat.reduceLeDiff,List.length_cons,List.length_nil,true_and,and_true,Nat.zero_add,eq_self,Nat.reduceEqDiff,Int.reduceAdd,Int.reduceSub,Int.reduceMul,not_true_eq_false,not_false_eq_true,Nat.reduceLT,Int.reduceEq,Int.reduceNe,Int.reduceLT,Int.reduceLE,or_true,or_false,false_or,and_self,and_false,false_and,false_implies,true_implies]))
    all_goals first | omega | skip
    refine con_isFeudAmong (anb_256 hb) hG (fun c2 => ?_) (fun c2 => ?_)
    · rw [if_pos c2] at hQ
      simp (disch := omega) only [cm_,aq_,ay_,ag_,b8_,af_,ba_,bc_,bx_,bb_,cp_,bf_,b3_,bv_,bh_,am_,ac_,bq_,ed_,bs_,a0_,ao_,as_,az_,dw_,d6_,ea_,d3_,b5_,fh_,fu_,fp_,fz_,fq_,fk_,ft_,f0_,c5_,bd_,ct_,cx_,co_,cr_,cj_,eb_,d5_,cf_,ch_,ci_,an_,fb_,ff_,fg_,fc_,fd_,cv_,fv_,cq_,Int.toNat_natCast,eh_,b9_,c7_,c6_,ej_,ei_,f3_,Nat.reduceAdd,Nat.reduceMul,Int.reduceNeg,Nat.reduceLeDiff,List.length_cons,List.length_nil,true_and,and_true,Nat.zero_add,eq_self,Nat.reduceEqDiff,Int.reduceAdd,Int.reduceSub,Int.reduceMul,not_true_eq_false,not_false_eq_true,Nat.reduceLT,Int.reduceEq,Int.reduceNe,Int.reduceLT,Int.reduceLE,or_true,or_false,false_or,and_self,and_false,false_and,false_implies,true_implies]
      repeat' (first | with_reducible refine And.intro ?_ ?_ | with_reducible intro _ | ((first | with_reducible refine w_Re_wears_10 ?_ | with_reducible refine w_Re_wears_12 ?_ | with_reducible refine w_Re_wears_64 ?_ | with_reducible refine w_Re_wears_66 ?_ | with_reducible refine w_Re_wears_72 ?_ | with_reducible refine w_Re_wears_76 ?_ | with_reducible refine w_Re_wears_94 ?_ | with_reducible refine w_Re_wears_99 ?_ | with_reducible refine w_Re_wears_100 ?_ | with_reducible refine w_Re_wears_102 ?_); simp (disch := omega) only [cm_,aq_,ay_,ag_,b8_,af_,ba_,bc_,bx_,bb_,cp_,bf_,b3_,bv_,bh_,am_,ac_,bq_,ed_,bs_,a0_,ao_,as_,az_,dw_,d6_,ea_,d3_,b5_,fh_,fu_,fp_,fz_,fq_,fk_,ft_,f0_,c5_,bd_,ct_,cx_,co_,cr_,cj_,eb_,d5_,cf_,ch_,ci_,an_,fb_,ff_,fg_,fc_,fd_,cv_,fv_,cq_,Int.toNat_natCast,eh_,b9_,c7_,c6_,ej_,ei_,f3_,Nat.reduceAdd,Nat.reduceMul,Int.reduceNeg,Nat.reduceLeDiff,List.length_cons,List.length_nil,true_and,and_true,Nat.zero_add,eq_self,Nat.reduceEqDiff,Int.reduceAdd,Int.reduceSub,Int.reduceMul,not_true_eq_false,not_false_eq_true,Nat.reduceLT,Int.reduceEq,Int.reduceNe,Int.reduceLT,Int.reduceLE,or_true,or_false,false_or,and_self,and_false,false_and,false_implies,true_implies]))
      all_goals first | omega | exact hQ
    · rw [if_neg (by rw [c2]; decide)] at hQ
      simp (disch := omega) only [cm_,aq_,ay_,ag_,b8_,af_,ba_,bc_,bx_,bb_,cp_,bf_,b3_,bv_,bh_,am_,ac_,bq_,ed_,bs_,a0_,ao_,as_,az_,dw_,d6_,ea_,d3_,b5_,fh_,fu_,fp_,fz_,fq_,fk_,ft_,f0_,c5_,bd_,ct_,cx_,co_,cr_,cj_,eb_,d5_,cf_,ch_,ci_,an_,fb_,ff_,fg_,fc_,fd_,cv_,fv_,cq_,Int.toNat_natCast,eh_,b9_,c7_,c6_,ej_,ei_,f3_,Nat.reduceAdd,Nat.reduceMul,Int.reduceNeg,Nat.reduceLeDiff,List.length_cons,List.length_nil,true_and,and_true,Nat.zero_add,eq_self,Nat.reduceEqDiff,Int.reduceAdd,Int.reduceSub,Int.reduceMul,not_true_eq_false,not_false_eq_true,Nat.reduceLT,Int.reduceEq,Int.reduceNe,Int.reduceLT,Int.reduceLE,or_true,or_false,false_or,and_self,and_false,false_and,false_implies,true_implies]
      repeat' (first | with_reducible refine And.intro ?_ ?_ | with_reducible intro _ | ((first | with_reducible refine w_Re_wears_10 ?_ | with_reducible refine w_Re_wears_12 ?_ | with_reducible refine w_Re_wears_64 ?_ | with_reducible refine w_Re_wears_66 ?_ | with_reducible refine w_Re_wears_72 ?_ | with_reducible refine w_Re_wears_76 ?_ | with_reducible refine w_Re_wears_94 ?_ | with_reducible refine w_Re_wears_99 ?_ | with_reducible refine w_Re_wears_100 ?_ | with_reducible refine w_Re_wears_102 ?_); simp (disch := omega) only [cm_,aq_,ay_,ag_,b8_,af_,ba_,bc_,bx_,bb_,cp_,bf_,b3_,bv_,bh_,am_,ac_,bq_,ed_,bs_,a0_,ao_,as_,az_,dw_,d6_,ea_,d3_,b5_,fh_,fu_,fp_,fz_,fq_,fk_,ft_,f0_,c5_,bd_,ct_,cx_,co_,cr_,cj_,eb_,d5_,cf_,ch_,ci_,an_,fb_,ff_,fg_,fc_,fd_,cv_,fv_,cq_,Int.toNat_natCast,eh_,b9_,c7_,c6_,ej_,ei_,f3_,Nat.reduceAdd,Nat.reduceMul,Int.reduceNeg,Nat.reduceLeDiff,List.length_cons,List.length_nil,true_and,and_true,Nat.zero_add,eq_self,Nat.reduceEqDiff,Int.reduceAdd,Int.reduceSub,Int.reduceMul,not_true_eq_false,not_false_eq_true,Nat.reduceLT,Int.reduceEq,Int.reduceNe,Int.reduceLT,Int.reduceLE,or_true,or_false,false_or,and_self,and_false,false_and,false_implies,true_implies]))
      all_goals first | omega | exact hQ
  · rw [weF_5] at hQ
    simp (disch := omega) only [cm_,aq_,ay_,ag_,b8_,af_,ba_,bc_,bx_,bb_,cp_,bf_,b3_,bv_,bh_,am_,ac_,bq_,ed_,bs_,a0_,ao_,as_,az_,dw_,d6_,ea_,d3_,b5_,fh_,fu_,fp_,fz_,fq_,fk_,ft_,f0_,c5_,bd_,ct_,cx_,co_,cr_,cj_,eb_,d5_,cf_,ch_,ci_,an_,fb_,ff_,fg_,fc_,fd_,cv_,fv_,cq_,Int.toNat_natCast,eh_,b9_,c7_,c6_,ej_,ei_,f3_,Nat.reduceAdd,Nat.reduceMul,Int.reduceNeg,Nat.reduceLeDiff,List.length_cons,List.length_nil,true_and,and_true,Nat.zero_add,eq_self,Nat.reduceEqDiff,Int.reduceAdd,Int.reduceSub,Int.reduceMul,not_true_eq_false,not_false_eq_true,Nat.reduceLT,Int.reduceEq,Int.reduceNe,Int.reduceLT,Int.reduceLE,or_true,or_false,false_or,and_self,and_false,false_and,false_implies,true_implies,k]
    repeat' (first | with_reducible refine And.intro ?_ ?_ | with_reducible intro _ | ((first | with_reducible refine w_Re_wears_10 ?_ | with_reducible refine w_Re_wears_12 ?_ | with_reducible refine w_Re_wears_64 ?_ | with_reducible refine w_Re_wears_66 ?_ | with_reducible refine w_Re_wears_72 ?_ | with_reducible refine w_Re_wears_76 ?_ | with_reducible refine w_Re_wears_94 ?_ | with_reducible refine w_Re_wears_99 ?_ | with_reducible refine w_Re_wears_100 ?_ | with_reducible refine w_Re_wears_102 ?_); simp (disch := omega) only [cm_,aq_,ay_,ag_,b8_,af_,ba_,bc_,bx_,bb_,cp_,bf_,b3_,bv_,bh_,am_,ac_,bq_,ed_,bs_,a0_,ao_,as_,az_,dw_,d6_,ea_,d3_,b5_,fh_,fu_,fp_,fz_,fq_,fk_,ft_,f0_,c5_,bd_,ct_,cx_,co_,cr_,cj_,eb_,d5_,cf_,ch_,ci_,an_,fb_,ff_,fg_,fc_,fd_,cv_,fv_,cq_,Int.toNat_natCast,eh_,b9_,c7_,c6_,ej_,ei_,f3_,Nat.reduceAdd,Nat.reduceMul,Int.reduceNeg,Nat.reduceLeDiff,List.length_cons,List.length_nil,true_and,and_true,Nat.zero_add,eq_self,Nat.reduceEqDiff,Int.reduceAdd,Int.reduceSub,Int.reduceMul,not_true_eq_false,not_false_eq_true,Nat.reduceLT,Int.reduceEq,Int.reduceNe,Int.reduceLT,Int.reduceLE,or_true,or_false,false_or,and_self,and_false,false_and,false_implies,true_implies]))
    all_goals first | omega | exact hQ
theorem con_strengthOf {b : Nat} (hb : b < 256) (hG : GR R) (hQ : Q (some (.int (zI (stN R b 8)))) (he_ h r R)) : Con M_Re_strengthOf [.ref r, .int (zI b)] (he_ h r R) Q := by
  refine g8_ (L := [some (.ref r), some (.int (zI b)), none, none]) ok_Re_strengthOf (Nat.le_of_ble_eq_true rfl) rfl ?_
  refine w_Re_strengthOf_0 ?_
  simp (disch := omega) only [cm_,aq_,ay_,ag_,b8_,af_,ba_,bc_,bx_,bb_,cp_,bf_,b3_,bv_,bh_,am_,ac_,bq_,ed_,bs_,a0_,ao_,as_,az_,dw_,d6_,ea_,d3_,b5_,fh_,fu_,fp_,fz_,fq_,fk_,ft_,f0_,c5_,bd_,ct_,cx_,co_,cr_,cj_,eb_,d5_,cf_,ch_,ci_,an_,fb_,ff_,fg_,fc_,fd_,cv_,fv_,cq_,Int.toNat_natCast,eh_,b9_,c7_,c6_,ej_,ei_,f3_,Nat.reduceAdd,Nat.reduceMul,Int.reduceNeg,Nat.reduceLeDiff,List.length_cons,List.length_nil,true_and,and_true,Nat.zero_add,eq_self,Nat.reduceEqDiff,Int.reduceAdd,Int.reduceSub,Int.reduceMul,not_true_eq_false,not_false_eq_true,Nat.reduceLT,Int.reduceEq,Int.reduceNe,Int.reduceLT,Int.reduceLE,or_true,or_false,false_or,and_self,and_false,false_and,false_implies,true_implies]
  have loop : ∀ n i : Nat, i + n = 8 → J M_Re_strengthOf 4 [some (.ref r), some (.int (zI b)), some (.int (zI (stN R b i))), some (.int (zI i))] [] (he_ h r R) Q := by
    intro n
    induction n with
    | zero =>
      intro i hi
      have e : i = 8 := by omega
      subst e
      refine w_Re_strengthOf_4 ?_
      simp (disch := omega) only [cm_,aq_,ay_,ag_,b8_,af_,ba_,bc_,bx_,bb_,cp_,bf_,b3_,bv_,bh_,am_,ac_,bq_,ed_,bs_,a0_,ao_,as_,az_,dw_,d6_,ea_,d3_,b5_,fh_,fu_,fp_,fz_,fq_,fk_,ft_,f0_,c5_,bd_,ct_,cx_,co_,cr_,cj_,eb_,d5_,cf_,ch_,ci_,an_,fb_,ff_,fg_,fc_,fd_,cv_,fv_,cq_,Int.toNat_natCast,eh_,b9_,c7_,c6_,ej_,ei_,f3_,Nat.reduceAdd,Nat.reduceMul,Int.reduceNeg,Nat.reduceLeDiff,List.length_cons,List.length_nil,true_and,and_true,Nat.zero_add,eq_self,Nat.reduceEqDiff,Int.reduceAdd,Int.reduceSub,Int.reduceMul,not_true_eq_false,not_false_eq_true,Nat.reduceLT,Int.reduceEq,Int.reduceNe,Int.reduceLT,Int.reduceLE,or_true,or_false,false_or,and_self,and_false,false_and,false_implies,true_implies]
      repeat' (first | with_reducible refine And.intro ?_ ?_ | with_reducible intro _ | ((first | with_reducible refine w_Re_strengthOf_27 ?_ | with_reducible refine w_Re_strengthOf_33 ?_); simp (disch := omega) only [cm_,aq_,ay_,ag_,b8_,af_,ba_,bc_,bx_,bb_,cp_,bf_,b3_,bv_,bh_,am_,ac_,bq_,ed_,bs_,a0_,ao_,as_,az_,dw_,d6_,ea_,d3_,b5_,fh_,fu_,fp_,fz_,fq_,fk_,ft_,f0_,c5_,bd_,ct_,cx_,co_,cr_,cj_,eb_,d5_,cf_,ch_,ci_,an_,fb_,ff_,fg_,fc_,fd_,cv_,fv_,cq_,Int.toNat_natCast,eh_,b9_,c7_,c6_,ej_,ei_,f3_,Nat.reduceAdd,Nat.reduceMul,Int.reduceNeg,Nat.reduceLeDiff,List.length_cons,List.length_nil,true_and,and_true,Nat.zero_add,eq_self,Nat.reduceEqDiff,Int.reduceAdd,Int.reduceSub,Int.reduceMul,not_true_eq_false,not_false_eq_true,Nat.reduceLT,Int.reduceEq,Int.reduceNe,Int.reduceLT,Int.reduceLE,or_true,or_false,false_or,and_self,and_false,false_and,false_implies,true_implies]))
      all_goals first | omega | exact hQ
    | succ n ih =>
      intro i hi
      have step := ih (i + 1) (by omega)
      simp only [stN] at step
      refine w_Re_strengthOf_4 ?_
      simp (disch := omega) only [cm_,aq_,ay_,ag_,b8_,af_,ba_,bc_,bx_,bb_,cp_,bf_,b3_,bv_,bh_,am_,ac_,bq_,ed_,bs_,a0_,ao_,as_,az_,dw_,d6_,ea_,d3_,b5_,fh_,fu_,fp_,fz_,fq_,fk_,ft_,f0_,c5_,bd_,ct_,cx_,co_,cr_,cj_,eb_,d5_,cf_,ch_,ci_,an_,fb_,ff_,fg_,fc_,fd_,cv_,fv_,cq_,Int.toNat_natCast,eh_,b9_,c7_,c6_,ej_,ei_,f3_,Nat.reduceAdd,Nat.reduceMul,Int.reduceNeg,Nat.reduceLeDiff,List.length_cons,List.length_nil,true_and,and_true,Nat.zero_add,eq_self,Nat.reduceEqDiff,Int.reduceAdd,Int.reduceSub,Int.reduceMul,not_true_eq_false,not_false_eq_true,Nat.reduceLT,Int.reduceEq,Int.reduceNe,Int.reduceLT,Int.reduceLE,or_true,or_false,false_or,and_self,and_false,false_and,false_implies,true_implies]
      repeat' (first | with_reducible refine And.intro ?_ ?_ | with_reducible intro _ | ((first | with_reducible refine w_Re_strengthOf_27 ?_ | with_reducible refine w_Re_strengthOf_33 ?_ | (refine con_bears (by omega) hG ?_)); simp (disch := omega) only [cm_,aq_,ay_,ag_,b8_,af_,ba_,bc_,bx_,bb_,cp_,bf_,b3_,bv_,bh_,am_,ac_,bq_,ed_,bs_,a0_,ao_,as_,az_,dw_,d6_,ea_,d3_,b5_,fh_,fu_,fp_,fz_,fq_,fk_,ft_,f0_,c5_,bd_,ct_,cx_,co_,cr_,cj_,eb_,d5_,cf_,ch_,ci_,an_,fb_,ff_,fg_,fc_,fd_,cv_,fv_,cq_,Int.toNat_natCast,eh_,b9_,c7_,c6_,ej_,ei_,f3_,Nat.reduceAdd,Nat.reduceMul,Int.reduceNeg,Nat.reduceLeDiff,List.length_cons,List.length_nil,true_and,and_true,Nat.zero_add,eq_self,Nat.reduceEqDiff,Int.reduceAdd,Int.reduceSub,Int.reduceMul,not_true_eq_false,not_false_eq_true,Nat.reduceLT,Int.reduceEq,Int.reduceNe,Int.reduceLT,Int.reduceLE,or_true,or_false,false_or,and_self,and_false,false_and,false_implies,true_implies]))
      all_goals first | omega | (rw [if_neg (by assumption)] at step; exact step) | (rw [if_pos (by simp_all)] at step; exact step)
  exact loop _ 0 (Nat.zero_add _)
theorem con_strongestBut {b : Nat} (hb : b < 256) (hG : GR R) (hQ : Q (some (.int (zI (sbst R b)))) (he_ h r R)) : Con M_Re_strongestBut [.ref r, .int (zI b)] (he_ h r R) Q := by
  have gm := hG.men
  have gn := hG.nM
  refine g8_ (L := [some (.ref r), some (.int (zI b)), none, none, none]) ok_Re_strongestBut (Nat.le_of_ble_eq_true rfl) rfl ?_
  refine w_Re_strongestBut_0 ?_
  simp (disch := omega) only [cm_,aq_,ay_,ag_,b8_,af_,ba_,bc_,bx_,bb_,cp_,bf_,b3_,bv_,bh_,am_,ac_,bq_,ed_,bs_,a0_,ao_,as_,az_,dw_,d6_,ea_,d3_,b5_,fh_,fu_,fp_,fz_,fq_,fk_,ft_,f0_,c5_,bd_,ct_,cx_,co_,cr_,cj_,eb_,d5_,cf_,ch_,ci_,an_,fb_,ff_,fg_,fc_,fd_,cv_,fv_,cq_,Int.toNat_natCast,eh_,b9_,c7_,c6_,ej_,ei_,f3_,Nat.reduceAdd,Nat.reduceMul,Int.reduceNeg,Nat.reduceLeDiff,List.length_cons,List.length_nil,true_and,and_true,Nat.zero_add,eq_self,Nat.reduceEqDiff,Int.reduceAdd,Int.reduceSub,Int.reduceMul,not_true_eq_false,not_false_eq_true,Nat.reduceLT,Int.reduceEq,Int.reduceNe,Int.reduceLT,Int.reduceLE,or_true,or_false,false_or,and_self,and_false,false_and,false_implies,true_implies]
  have loop : ∀ n i : Nat, i + n = hb_ R → ∀ most : Int, (sbN R b i < 0 → most = -1) → (0 ≤ sbN R b i → most = bears R (sbN R b i).toNat) → J M_Re_strongestBut 8 [some (.ref r), some (.int (zI b)), some (.int (zI (sbN R b i))), some (.int (zI most)), some (.int (zI i))] [] (he_ h r R) Q := by
    intro n
    induction n with
    | zero =>
      intro i hi most h1 h2
      have e : i = hb_ R := by omega
      subst e
      refine w_Re_strongestBut_8 ?_
      simp (disch := omega) only [cm_,aq_,ay_,ag_,b8_,af_,ba_,bc_,bx_,bb_,cp_,bf_,b3_,bv_,bh_,am_,ac_,bq_,ed_,bs_,a0_,ao_,as_,az_,dw_,d6_,ea_,d3_,b5_,fh_,fu_,fp_,fz_,fq_,fk_,ft_,f0_,c5_,bd_,ct_,cx_,co_,cr_,cj_,eb_,d5_,cf_,ch_,ci_,an_,fb_,ff_,fg_,fc_,fd_,cv_,fv_,cq_,Int.toNat_natCast,eh_,b9_,c7_,c6_,ej_,ei_,f3_,Nat.reduceAdd,Nat.reduceMul,Int.reduceNeg,Nat.reduceLeDiff,List.length_cons,List.length_nil,true_and,and_true,Nat.zero_add,eq_self,Nat.reduceEqDiff,Int.reduceAdd,Int.reduceSub,Int.reduceMul,not_true_eq_false,not_false_eq_true,Nat.reduceLT,Int.reduceEq,Int.reduceNe,Int.reduceLT,Int.reduceLE,or_true,or_false,false_or,and_self,and_false,false_and,false_implies,true_implies]
      repeat' (first | with_reducible refine And.intro ?_ ?_ | with_reducible intro _ | ((first | with_reducible refine w_Re_strongestBut_64 ?_ | with_reducible refine w_Re_strongestBut_70 ?_); simp (disch := omega) only [cm_,aq_,ay_,ag_,b8_,af_,ba_,bc_,bx_,bb_,cp_,bf_,b3_,bv_,bh_,am_,ac_,bq_,ed_,bs_,a0_,ao_,as_,az_,dw_,d6_,ea_,d3_,b5_,fh_,fu_,fp_,fz_,fq_,fk_,ft_,f0_,c5_,bd_,ct_,cx_,co_,cr_,cj_,eb_,d5_,cf_,ch_,ci_,an_,fb_,ff_,fg_,fc_,fd_,cv_,fv_,cq_,Int.toNat_natCast,eh_,b9_,c7_,c6_,ej_,ei_,f3_,Nat.reduceAdd,Nat.reduceMul,Int.reduceNeg,Nat.reduceLeDiff,List.length_cons,List.length_nil,true_and,and_true,Nat.zero_add,eq_self,Nat.reduceEqDiff,Int.reduceAdd,Int.reduceSub,Int.reduceMul,not_true_eq_false,not_false_eq_true,Nat.reduceLT,Int.reduceEq,Int.reduceNe,Int.reduceLT,Int.reduceLE,or_true,or_false,false_or,and_self,and_false,false_and,false_implies,true_implies]))
      all_goals first | omega | exact hQ
    | succ n ih =>
      intro i hi most h1 h2
      have em : (i : Int) < rMen R := by omega
      have gf := hG.fa i
      have gb := bears_rng hG i
      have gs := sbN_rng R b i
      have gt := bears_rng hG (sbN R b i).toNat
      have step := ih (i + 1) (by omega)
      simp only [sbN] at step
      refine w_Re_strongestBut_8 ?_
      simp (disch := omega) only [cm_,aq_,ay_,ag_,b8_,af_,ba_,bc_,bx_,bb_,cp_,bf_,b3_,bv_,bh_,am_,ac_,bq_,ed_,bs_,a0_,ao_,as_,az_,dw_,d6_,ea_,d3_,b5_,fh_,fu_,fp_,fz_,fq_,fk_,ft_,f0_,c5_,bd_,ct_,cx_,co_,cr_,cj_,eb_,d5_,cf_,ch_,ci_,an_,fb_,ff_,fg_,fc_,fd_,cv_,fv_,cq_,Int.toNat_natCast,eh_,b9_,c7_,c6_,ej_,ei_,f3_,Nat.reduceAdd,Nat.reduceMul,Int.reduceNeg,Nat.reduceLeDiff,List.length_cons,List.length_nil,true_and,and_true,Nat.zero_add,eq_self,Nat.reduceEqDiff,Int.reduceAdd,Int.reduceSub,Int.reduceMul,not_true_eq_false,not_false_eq_true,Nat.reduceLT,Int.reduceEq,Int.reduceNe,Int.reduceLT,Int.reduceLE,or_true,or_false,false_or,and_self,and_false,false_and,false_implies,true_implies]
      repeat' (first | with_reducible refine And.intro ?_ ?_ | with_reducible intro _ | ((first | with_reducible refine w_Re_strongestBut_64 ?_ | with_reducible refine w_Re_strongestBut_70 ?_ | (refine con_bears (by omega) hG ?_)); simp (disch := omega) only [cm_,aq_,ay_,ag_,b8_,af_,ba_,bc_,bx_,bb_,cp_,bf_,b3_,bv_,bh_,am_,ac_,bq_,ed_,bs_,a0_,ao_,as_,az_,dw_,d6_,ea_,d3_,b5_,fh_,fu_,fp_,fz_,fq_,fk_,ft_,f0_,c5_,bd_,ct_,cx_,co_,cr_,cj_,eb_,d5_,cf_,ch_,ci_,an_,fb_,ff_,fg_,fc_,fd_,cv_,fv_,cq_,Int.toNat_natCast,eh_,b9_,c7_,c6_,ej_,ei_,f3_,Nat.reduceAdd,Nat.reduceMul,Int.reduceNeg,Nat.reduceLeDiff,List.length_cons,List.length_nil,true_and,and_true,Nat.zero_add,eq_self,Nat.reduceEqDiff,Int.reduceAdd,Int.reduceSub,Int.reduceMul,not_true_eq_false,not_false_eq_true,Nat.reduceLT,Int.reduceEq,Int.reduceNe,Int.reduceLT,Int.reduceLE,or_true,or_false,false_or,and_self,and_false,false_and,false_implies,true_implies]))
      all_goals first | omega | skip
      all_goals first
        | (rw [if_neg (by omega)] at step; exact step _ h1 h2)
        | (rw [if_neg (by simp_all)] at step; exact step _ h1 h2)
        | (rw [if_pos ⟨by omega, by simp_all, by omega⟩] at step; exact step _ (by omega) (fun _ => by rw [Int.toNat_natCast]))
  exact loop _ 0 (Nat.zero_add _) (-1) (fun _ => rfl) (fun q => absurd q (by simp [sbN]))
end C2
end
/-! day -/
section
/-! ===== a day ===== -/
section C3
variable {h : AH} {r : Nat} {R : RR} {Q : Option Value → AH → Prop}
theorem con_bearsI {m : Int} (hm : 0 ≤ m ∧ m < 8) (hG : GR R) (hQ : Q (some (.int (zI (bears R m.toNat)))) (he_ h r R)) : Con M_Re_bears [.ref r, .int (zI m)] (he_ h r R) Q := by
  have e : m = (m.toNat : Int) := by omega
  rw [e]
  exact con_bears (by omega) hG hQ
theorem con_bearers (hG : GR R) (hQ : Q (some (.int (zI (brF R : Nat)))) (he_ h r R)) : Con M_Re_bearers [.ref r] (he_ h r R) Q := by
  have gm := hG.men
  have gn := hG.nM
  have gd := needed_rng hG
  refine g8_ (L := [some (.ref r), none, none, none, none]) ok_Re_bearers (Nat.le_of_ble_eq_true rfl) rfl ?_
  refine w_Re_bearers_0 ?_
  simp (disch := omega) only [cm_,aq_,ay_,ag_,b8_,af_,ba_,bb_,cp_,b3_,bv_,am_,ae_,ac_,bq_,ed_,bs_,ao_,c4_,a2_,az_,ar_,cw_,dw_,d6_,ea_,d3_,b5_,b1_,fh_,fu_,fp_,fz_,fq_,fk_,ft_,fs_,f0_,c5_,bd_,cx_,co_,cr_,cf_,an_,fb_,fc_,fd_,eg_,d8_,cl_,ds_,cv_,fv_,Int.toNat_natCast,eh_,b9_,c7_,ej_,f3_,Nat.reduceAdd,Nat.reduceMul,Int.reduceNeg,Nat.reduceLeDiff,List.length_cons,List.length_nil,true_and,and_true,Nat.zero_add,eq_self,Nat.reduceEqDiff,Int.reduceAdd,Int.reduceSub,Int.reduceMul,not_true_eq_false,Nat.reduceLT,Int.reduceEq,Int.reduceNe,Int.reduceLT,Int.reduceLE,and_self,and_false,false_and,false_implies,true_implies]
  have fin : ∀ i : Nat, i ≤ 8 → ∀ x4 : Option Value, brs R 8 = brs R i → J M_Re_bearers 56 [some (.ref r), some (.int (zI (brs R i).1)), some (.int (zI (brs R i).2)), some (.int (zI i)), x4] [] (he_ h r R) Q := by
    intro i hi x4 e
    have hr := brs_rng hG i
    simp only [brF, e] at hQ
    refine w_Re_bearers_56 ?_
    simp (disch := omega) only [cm_,aq_,ay_,ag_,b8_,af_,ba_,bb_,cp_,b3_,bv_,am_,ae_,ac_,bq_,ed_,bs_,ao_,c4_,a2_,az_,ar_,cw_,dw_,d6_,ea_,d3_,b5_,b1_,fh_,fu_,fp_,fz_,fq_,fk_,ft_,fs_,f0_,c5_,bd_,cx_,co_,cr_,cf_,an_,fb_,fc_,fd_,eg_,d8_,cl_,ds_,cv_,fv_,Int.toNat_natCast,eh_,b9_,c7_,ej_,f3_,Nat.reduceAdd,Nat.reduceMul,Int.reduceNeg,Nat.reduceLeDiff,List.length_cons,List.length_nil,true_and,and_true,Nat.zero_add,eq_self,Nat.reduceEqDiff,Int.reduceAdd,Int.reduceSub,Int.reduceMul,not_true_eq_false,Nat.reduceLT,Int.reduceEq,Int.reduceNe,Int.reduceLT,Int.reduceLE,and_self,and_false,false_and,false_implies,true_implies]
    repeat' (first | with_reducible refine And.intro ?_ ?_ | with_reducible intro _ | ((first | with_reducible refine w_Re_bearers_34 ?_ | with_reducible refine w_Re_bearers_56 ?_ | with_reducible refine w_Re_bearers_68 ?_ | with_reducible refine w_Re_bearers_69 ?_ | (refine con_needed hG ?_)); simp (disch := omega) only [cm_,aq_,ay_,ag_,b8_,af_,ba_,bb_,cp_,b3_,bv_,am_,ae_,ac_,bq_,ed_,bs_,ao_,c4_,a2_,az_,ar_,cw_,dw_,d6_,ea_,d3_,b5_,b1_,fh_,fu_,fp_,fz_,fq_,fk_,ft_,fs_,f0_,c5_,bd_,cx_,co_,cr_,cf_,an_,fb_,fc_,fd_,eg_,d8_,cl_,ds_,cv_,fv_,Int.toNat_natCast,eh_,b9_,c7_,ej_,f3_,Nat.reduceAdd,Nat.reduceMul,Int.reduceNeg,Nat.reduceLeDiff,List.length_cons,List.length_nil,true_and,and_true,Nat.zero_add,eq_self,Nat.reduceEqDiff,Int.reduceAdd,Int.reduceSub,Int.reduceMul,not_true_eq_false,Nat.reduceLT,Int.reduceEq,Int.reduceNe,Int.reduceLT,Int.reduceLE,and_self,and_false,false_and,false_implies,true_implies]))
    all_goals first | omega | (rw [if_neg (by omega)] at hQ; exact hQ) | (rw [if_pos (by omega)] at hQ; exact hQ)
  have loop : ∀ n i : Nat, i + n = 8 → ∀ x4 : Option Value, J M_Re_bearers 6 [some (.ref r), some (.int (zI (brs R i).1)), some (.int (zI (brs R i).2)), some (.int (zI i)), x4] [] (he_ h r R) Q := by
    intro n
    induction n with
    | zero =>
      intro i hi x4
      have e : i = 8 := by omega
      subst e
      refine w_Re_bearers_6 ?_
      simp (disch := omega) only [cm_,aq_,ay_,ag_,b8_,af_,ba_,bb_,cp_,b3_,bv_,am_,ae_,ac_,bq_,ed_,bs_,ao_,c4_,a2_,az_,ar_,cw_,dw_,d6_,ea_,d3_,b5_,b1_,fh_,fu_,fp_,fz_,fq_,fk_,ft_,fs_,f0_,c5_,bd_,cx_,co_,cr_,cf_,an_,fb_,fc_,fd_,eg_,d8_,cl_,ds_,cv_,fv_,Int.toNat_natCast,eh_,b9_,c7_,ej_,f3_,Nat.reduceAdd,Nat.reduceMul,Int.reduceNeg,Nat.reduceLeDiff,List.length_cons,List.length_nil,true_and,and_true,Nat.zero_add,eq_self,Nat.reduceEqDiff,Int.reduceAdd,Int.reduceSub,Int.reduceMul,not_true_eq_false,Nat.reduceLT,Int.reduceEq,Int.reduceNe,Int.reduceLT,Int.reduceLE,and_self,and_false,false_and,false_implies,true_implies]
      exact fin 8 (by omega) x4 rfl
    | succ n ih =>
      intro i hi x4
      have hr := brs_rng hG i
      have hb := brs_256 hG i
      have gs : sbst R (brs R i).1 = -9 ∨ (0 ≤ sbst R (brs R i).1 ∧ sbst R (brs R i).1 < hb_ R) := sbN_rng R (brs R i).1 (hb_ R)
      have gb := bears_rng hG (sbst R (brs R i).1).toNat
      have step := ih (i + 1) (by omega)
      have st8 := fun z => brs_stable (R := R) (i := i) z (8 - i)
      rw [show i + (8 - i) = 8 by omega] at st8
      simp only [brs] at step
      refine w_Re_bearers_6 ?_
      simp (disch := omega) only [cm_,aq_,ay_,ag_,b8_,af_,ba_,bb_,cp_,b3_,bv_,am_,ae_,ac_,bq_,ed_,bs_,ao_,c4_,a2_,az_,ar_,cw_,dw_,d6_,ea_,d3_,b5_,b1_,fh_,fu_,fp_,fz_,fq_,fk_,ft_,fs_,f0_,c5_,bd_,cx_,co_,cr_,cf_,an_,fb_,fc_,fd_,eg_,d8_,cl_,ds_,cv_,fv_,Int.toNat_natCast,eh_,b9_,c7_,ej_,f3_,Nat.reduceAdd,Nat.reduceMul,Int.reduceNeg,Nat.reduceLeDiff,List.length_cons,List.length_nil,true_and,and_true,Nat.zero_add,eq_self,Nat.reduceEqDiff,Int.reduceAdd,Int.reduceSub,Int.reduceMul,not_true_eq_false,Nat.reduceLT,Int.reduceEq,Int.reduceNe,Int.reduceLT,Int.reduceLE,and_self,and_false,false_and,false_implies,true_implies]
      refine ⟨fun _ => by omega, fun _ => ?_⟩
      refine con_needed hG ?_
      simp (disch := omega) only [cm_,aq_,ay_,ag_,b8_,af_,ba_,bb_,cp_,b3_,bv_,am_,ae_,ac_,bq_,ed_,bs_,ao_,c4_,a2_,az_,ar_,cw_,dw_,d6_,ea_,d3_,b5_,b1_,fh_,fu_,fp_,fz_,fq_,fk_,ft_,fs_,f0_,c5_,bd_,cx_,co_,cr_,cf_,an_,fb_,fc_,fd_,eg_,d8_,cl_,ds_,cv_,fv_,Int.toNat_natCast,eh_,b9_,c7_,ej_,f3_,Nat.reduceAdd,Nat.reduceMul,Int.reduceNeg,Nat.reduceLeDiff,List.length_cons,List.length_nil,true_and,and_true,Nat.zero_add,eq_self,Nat.reduceEqDiff,Int.reduceAdd,Int.reduceSub,Int.reduceMul,not_true_eq_false,Nat.reduceLT,Int.reduceEq,Int.reduceNe,Int.reduceLT,Int.reduceLE,and_self,and_false,false_and,false_implies,true_implies]
      refine ⟨fun c => fin i (by omega) x4 (st8 (by omega)), fun c => ?_⟩
      refine con_strongestBut hb hG ?_
      simp (disch := omega) only [cm_,aq_,ay_,ag_,b8_,af_,ba_,bb_,cp_,b3_,bv_,am_,ae_,ac_,bq_,ed_,bs_,ao_,c4_,a2_,az_,ar_,cw_,dw_,d6_,ea_,d3_,b5_,b1_,fh_,fu_,fp_,fz_,fq_,fk_,ft_,fs_,f0_,c5_,bd_,cx_,co_,cr_,cf_,an_,fb_,fc_,fd_,eg_,d8_,cl_,ds_,cv_,fv_,Int.toNat_natCast,eh_,b9_,c7_,ej_,f3_,Nat.reduceAdd,Nat.reduceMul,Int.reduceNeg,Nat.reduceLeDiff,List.length_cons,List.length_nil,true_and,and_true,Nat.zero_add,eq_self,Nat.reduceEqDiff,Int.reduceAdd,Int.reduceSub,Int.reduceMul,not_true_eq_false,Nat.reduceLT,Int.reduceEq,Int.reduceNe,Int.reduceLT,Int.reduceLE,and_self,and_false,false_and,false_implies,true_implies]
      refine ⟨fun c2 => ?_, fun c2 => ?_⟩
      · rw [if_pos ⟨by omega, by omega⟩] at step
        refine w_Re_bearers_34 ?_
        simp (disch := omega) only [cm_,aq_,ay_,ag_,b8_,af_,ba_,bb_,cp_,b3_,bv_,am_,ae_,ac_,bq_,ed_,bs_,ao_,c4_,a2_,az_,ar_,cw_,dw_,d6_,ea_,d3_,b5_,b1_,fh_,fu_,fp_,fz_,fq_,fk_,ft_,fs_,f0_,c5_,bd_,cx_,co_,cr_,cf_,an_,fb_,fc_,fd_,eg_,d8_,cl_,ds_,cv_,fv_,Int.toNat_natCast,eh_,b9_,c7_,ej_,f3_,Nat.reduceAdd,Nat.reduceMul,Int.reduceNeg,Nat.reduceLeDiff,List.length_cons,List.length_nil,true_and,and_true,Nat.zero_add,eq_self,Nat.reduceEqDiff,Int.reduceAdd,Int.reduceSub,Int.reduceMul,not_true_eq_false,Nat.reduceLT,Int.reduceEq,Int.reduceNe,Int.reduceLT,Int.reduceLE,and_self,and_false,false_and,false_implies,true_implies]
        refine con_bearsI (by omega) hG ?_
        simp (disch := omega) only [cm_,aq_,ay_,ag_,b8_,af_,ba_,bb_,cp_,b3_,bv_,am_,ae_,ac_,bq_,ed_,bs_,ao_,c4_,a2_,az_,ar_,cw_,dw_,d6_,ea_,d3_,b5_,b1_,fh_,fu_,fp_,fz_,fq_,fk_,ft_,fs_,f0_,c5_,bd_,cx_,co_,cr_,cf_,an_,fb_,fc_,fd_,eg_,d8_,cl_,ds_,cv_,fv_,Int.toNat_natCast,eh_,b9_,c7_,ej_,f3_,Nat.reduceAdd,Nat.reduceMul,Int.reduceNeg,Nat.reduceLeDiff,List.length_cons,List.length_nil,true_and,and_true,Nat.zero_add,eq_self,Nat.reduceEqDiff,Int.reduceAdd,Int.reduceSub,Int.reduceMul,not_true_eq_false,Nat.reduceLT,Int.reduceEq,Int.reduceNe,Int.reduceLT,Int.reduceLE,and_self,and_false,false_and,false_implies,true_implies]
        exact step _
      · have e8 := st8 (by omega)
        simp only [brF, e8] at hQ
        rw [if_pos (by omega)] at hQ
        exact hQ
  exact loop _ 0 (Nat.zero_add _) none
theorem wears_wearN (R : RR) (b i k : Nat) : wears (wearN R b i) b k = wears R b k := by
  have : ∀ n c, feud (wearN R b i) c n = feud R c n := by
    intro n c
    induction n with
    | zero => rfl
    | succ n ih => simp only [feud, ih]; rfl
  simp only [wears, this]
  rfl
theorem con_wearOut {b : Nat} (hb : b < 256) (hG : GR R) (hQ : Q none (he_ h r (wearN R b 8))) : Con M_Re_wearOut [.ref r, .int (zI b)] (he_ h r R) Q := by
  refine g8_ (L := [some (.ref r), some (.int (zI b)), none]) ok_Re_wearOut (Nat.le_of_ble_eq_true rfl) rfl ?_
  refine w_Re_wearOut_0 ?_
  simp (disch := omega) only [cm_,aq_,ay_,ag_,b8_,af_,ba_,bb_,cp_,b3_,bv_,am_,ae_,ac_,bq_,ed_,bs_,ao_,c4_,a2_,az_,ar_,cw_,dw_,d6_,ea_,d3_,b5_,b1_,fh_,fu_,fp_,fz_,fq_,fk_,ft_,fs_,f0_,c5_,bd_,cx_,co_,cr_,cf_,an_,fb_,fc_,fd_,eg_,d8_,cl_,ds_,cv_,fv_,Int.toNat_natCast,eh_,b9_,c7_,ej_,f3_,Nat.reduceAdd,Nat.reduceMul,Int.reduceNeg,Nat.reduceLeDiff,List.length_cons,List.length_nil,true_and,and_true,Nat.zero_add,eq_self,Nat.reduceEqDiff,Int.reduceAdd,Int.reduceSub,Int.reduceMul,not_true_eq_false,Nat.reduceLT,Int.reduceEq,Int.reduceNe,Int.reduceLT,Int.reduceLE,and_self,and_false,false_and,false_implies,true_implies]
  have loop : ∀ n i : Nat, i + n = 8 → J M_Re_wearOut 2 [some (.ref r), some (.int (zI b)), some (.int (zI i))] [] (he_ h r (wearN R b i)) Q := by
    intro n
    induction n with
    | zero =>
      intro i hi
      have e : i = 8 := by omega
      subst e
      refine w_Re_wearOut_2 ?_
      simp (disch := omega) only [cm_,aq_,ay_,ag_,b8_,af_,ba_,bb_,cp_,b3_,bv_,am_,ae_,ac_,bq_,ed_,bs_,ao_,c4_,a2_,az_,ar_,cw_,dw_,d6_,ea_,d3_,b5_,b1_,fh_,fu_,fp_,fz_,fq_,fk_,ft_,fs_,f0_,c5_,bd_,cx_,co_,cr_,cf_,an_,fb_,fc_,fd_,eg_,d8_,cl_,ds_,cv_,fv_,Int.toNat_natCast,eh_,b9_,c7_,ej_,f3_,Nat.reduceAdd,Nat.reduceMul,Int.reduceNeg,Nat.reduceLeDiff,List.length_cons,List.length_nil,true_and,and_true,Nat.zero_add,eq_self,Nat.reduceEqDiff,Int.reduceAdd,Int.reduceSub,Int.reduceMul,not_true_eq_false,Nat.reduceLT,Int.reduceEq,Int.reduceNe,Int.reduceLT,Int.reduceLE,and_self,and_false,false_and,false_implies,true_implies]
      repeat' (first | with_reducible refine And.intro ?_ ?_ | with_reducible intro _ | ((first | with_reducible refine w_Re_wearOut_41 ?_ | with_reducible refine w_Re_wearOut_47 ?_); simp (disch := omega) only [cm_,aq_,ay_,ag_,b8_,af_,ba_,bb_,cp_,b3_,bv_,am_,ae_,ac_,bq_,ed_,bs_,ao_,c4_,a2_,az_,ar_,cw_,dw_,d6_,ea_,d3_,b5_,b1_,fh_,fu_,fp_,fz_,fq_,fk_,ft_,fs_,f0_,c5_,bd_,cx_,co_,cr_,cf_,an_,fb_,fc_,fd_,eg_,d8_,cl_,ds_,cv_,fv_,Int.toNat_natCast,eh_,b9_,c7_,ej_,f3_,Nat.reduceAdd,Nat.reduceMul,Int.reduceNeg,Nat.reduceLeDiff,List.length_cons,List.length_nil,true_and,and_true,Nat.zero_add,eq_self,Nat.reduceEqDiff,Int.reduceAdd,Int.reduceSub,Int.reduceMul,not_true_eq_false,Nat.reduceLT,Int.reduceEq,Int.reduceNe,Int.reduceLT,Int.reduceLE,and_self,and_false,false_and,false_implies,true_implies]))
      all_goals first | omega | exact hQ
    | succ n ih =>
      intro i hi
      have step := ih (i + 1) (by omega)
      have hGi := GR.wear hG b i
      have gw := hGi.wo i
      have gr := wears_rng hG b i
      have ew : rWo (wearN R b i) i = rWo R i := by simp [wearN, ds_]
      rw [ew] at gw
      refine w_Re_wearOut_2 ?_
      simp (disch := omega) only [cm_,aq_,ay_,ag_,b8_,af_,ba_,bb_,cp_,b3_,bv_,am_,ae_,ac_,bq_,ed_,bs_,ao_,c4_,a2_,az_,ar_,cw_,dw_,d6_,ea_,d3_,b5_,b1_,fh_,fu_,fp_,fz_,fq_,fk_,ft_,fs_,f0_,c5_,bd_,cx_,co_,cr_,cf_,an_,fb_,fc_,fd_,eg_,d8_,cl_,ds_,cv_,fv_,Int.toNat_natCast,eh_,b9_,c7_,ej_,f3_,Nat.reduceAdd,Nat.reduceMul,Int.reduceNeg,Nat.reduceLeDiff,List.length_cons,List.length_nil,true_and,and_true,Nat.zero_add,eq_self,Nat.reduceEqDiff,Int.reduceAdd,Int.reduceSub,Int.reduceMul,not_true_eq_false,Nat.reduceLT,Int.reduceEq,Int.reduceNe,Int.reduceLT,Int.reduceLE,and_self,and_false,false_and,false_implies,true_implies]
      refine ⟨fun _ => by omega, fun _ => ⟨fun c => ?_, fun c => ?_⟩⟩
      · have ef : (fun k => if k < i + 1 ∧ b.testBit k = true then min 99 (rWo R k + wears R b k) else rWo R k) = fun k => if k < i ∧ b.testBit k = true then min 99 (rWo R k + wears R b k) else rWo R k := by
          funext k
          by_cases hk : k = i
          · subst hk; simp_all
          · simp only [show (k < i + 1) = (k < i) by simp; omega]
        have e : wearN R b (i + 1) = wearN R b i := congrArg (fun f => sWo R f) ef
        rw [e] at step
        refine w_Re_wearOut_41 ?_
        simp (disch := omega) only [cm_,aq_,ay_,ag_,b8_,af_,ba_,bb_,cp_,b3_,bv_,am_,ae_,ac_,bq_,ed_,bs_,ao_,c4_,a2_,az_,ar_,cw_,dw_,d6_,ea_,d3_,b5_,b1_,fh_,fu_,fp_,fz_,fq_,fk_,ft_,fs_,f0_,c5_,bd_,cx_,co_,cr_,cf_,an_,fb_,fc_,fd_,eg_,d8_,cl_,ds_,cv_,fv_,Int.toNat_natCast,eh_,b9_,c7_,ej_,f3_,Nat.reduceAdd,Nat.reduceMul,Int.reduceNeg,Nat.reduceLeDiff,List.length_cons,List.length_nil,true_and,and_true,Nat.zero_add,eq_self,Nat.reduceEqDiff,Int.reduceAdd,Int.reduceSub,Int.reduceMul,not_true_eq_false,Nat.reduceLT,Int.reduceEq,Int.reduceNe,Int.reduceLT,Int.reduceLE,and_self,and_false,false_and,false_implies,true_implies]
        exact step
      · have ef : (fun k => if k < i + 1 ∧ b.testBit k = true then min 99 (rWo R k + wears R b k) else rWo R k) = upI (fun k => if k < i ∧ b.testBit k = true then min 99 (rWo R k + wears R b k) else rWo R k) i (min 99 (rWo R i + wears R b i)) := by
          funext k
          simp only [upI]
          by_cases hk : k = i
          · subst hk; simp_all
          · simp only [hk, if_false, show (k < i + 1) = (k < i) by simp; omega]
        have e : wearN R b (i + 1) = sWo (wearN R b i) (upI (rWo (wearN R b i)) i (min 99 (rWo R i + wears R b i))) := congrArg (fun f => sWo R f) ef
        rw [e] at step
        refine ⟨by omega, ?_⟩
        refine con_wears (by omega) hb hGi ?_
        rw [wears_wearN, ew]
        simp (disch := omega) only [cm_,aq_,ay_,ag_,b8_,af_,ba_,bb_,cp_,b3_,bv_,am_,ae_,ac_,bq_,ed_,bs_,ao_,c4_,a2_,az_,ar_,cw_,dw_,d6_,ea_,d3_,b5_,b1_,fh_,fu_,fp_,fz_,fq_,fk_,ft_,fs_,f0_,c5_,bd_,cx_,co_,cr_,cf_,an_,fb_,fc_,fd_,eg_,d8_,cl_,ds_,cv_,fv_,Int.toNat_natCast,eh_,b9_,c7_,ej_,f3_,Nat.reduceAdd,Nat.reduceMul,Int.reduceNeg,Nat.reduceLeDiff,List.length_cons,List.length_nil,true_and,and_true,Nat.zero_add,eq_self,Nat.reduceEqDiff,Int.reduceAdd,Int.reduceSub,Int.reduceMul,not_true_eq_false,Nat.reduceLT,Int.reduceEq,Int.reduceNe,Int.reduceLT,Int.reduceLE,and_self,and_false,false_and,false_implies,true_implies]
        repeat' (first | with_reducible refine And.intro ?_ ?_ | with_reducible intro _ | ((first | with_reducible refine w_Re_wearOut_41 ?_ | with_reducible refine w_Re_wearOut_47 ?_); simp (disch := omega) only [cm_,aq_,ay_,ag_,b8_,af_,ba_,bb_,cp_,b3_,bv_,am_,ae_,ac_,bq_,ed_,bs_,ao_,c4_,a2_,az_,ar_,cw_,dw_,d6_,ea_,d3_,b5_,b1_,fh_,fu_,fp_,fz_,fq_,fk_,ft_,fs_,f0_,c5_,bd_,cx_,co_,cr_,cf_,an_,fb_,fc_,fd_,eg_,d8_,cl_,ds_,cv_,fv_,Int.toNat_natCast,eh_,b9_,c7_,ej_,f3_,Nat.reduceAdd,Nat.reduceMul,Int.reduceNeg,Nat.reduceLeDiff,List.length_cons,List.length_nil,true_and,and_true,Nat.zero_add,eq_self,Nat.reduceEqDiff,Int.reduceAdd,Int.reduceSub,Int.reduceMul,not_true_eq_false,Nat.reduceLT,Int.reduceEq,Int.reduceNe,Int.reduceLT,Int.reduceLE,and_self,and_false,false_and,false_implies,true_implies]))
        all_goals first | omega | exact step
  exact loop _ 0 (Nat.zero_add _)
theorem con_buryTheWornOut (hG : GR R) (hQ : Q none (he_ h r (buryN R (hb_ R)))) : Con M_Re_buryTheWornOut [.ref r] (he_ h r R) Q := by
  have gm := hG.men
  have gn := hG.nM
  refine g8_ (L := [some (.ref r), none]) ok_Re_buryTheWornOut (Nat.le_of_ble_eq_true rfl) rfl ?_
  refine w_Re_buryTheWornOut_0 ?_
  simp (disch := omega) only [cm_,aq_,ay_,ag_,b8_,af_,ba_,bb_,cp_,b3_,bv_,am_,ae_,ac_,bq_,ed_,bs_,ao_,c4_,a2_,az_,ar_,cw_,dw_,d6_,ea_,d3_,b5_,b1_,fh_,fu_,fp_,fz_,fq_,fk_,ft_,fs_,f0_,c5_,bd_,cx_,co_,cr_,cf_,an_,fb_,fc_,fd_,eg_,d8_,cl_,ds_,cv_,fv_,Int.toNat_natCast,eh_,b9_,c7_,ej_,f3_,Nat.reduceAdd,Nat.reduceMul,Int.reduceNeg,Nat.reduceLeDiff,List.length_cons,List.length_nil,true_and,and_true,Nat.zero_add,eq_self,Nat.reduceEqDiff,Int.reduceAdd,Int.reduceSub,Int.reduceMul,not_true_eq_false,Nat.reduceLT,Int.reduceEq,Int.reduceNe,Int.reduceLT,Int.reduceLE,and_self,and_false,false_and,false_implies,true_implies]
  have loop : ∀ n i : Nat, i + n = hb_ R → J M_Re_buryTheWornOut 2 [some (.ref r), some (.int (zI i))] [] (he_ h r (buryN R i)) Q := by
    intro n
    induction n with
    | zero =>
      intro i hi
      have e : i = hb_ R := by omega
      subst e
      have em : rMen (buryN R (hb_ R)) = rMen R := rfl
      refine w_Re_buryTheWornOut_2 ?_
      simp (disch := omega) only [cm_,aq_,ay_,ag_,b8_,af_,ba_,bb_,cp_,b3_,bv_,am_,ae_,ac_,bq_,ed_,bs_,ao_,c4_,a2_,az_,ar_,cw_,dw_,d6_,ea_,d3_,b5_,b1_,fh_,fu_,fp_,fz_,fq_,fk_,ft_,fs_,f0_,c5_,bd_,cx_,co_,cr_,cf_,an_,fb_,fc_,fd_,eg_,d8_,cl_,ds_,cv_,fv_,Int.toNat_natCast,eh_,b9_,c7_,ej_,f3_,Nat.reduceAdd,Nat.reduceMul,Int.reduceNeg,Nat.reduceLeDiff,List.length_cons,List.length_nil,true_and,and_true,Nat.zero_add,eq_self,Nat.reduceEqDiff,Int.reduceAdd,Int.reduceSub,Int.reduceMul,not_true_eq_false,Nat.reduceLT,Int.reduceEq,Int.reduceNe,Int.reduceLT,Int.reduceLE,and_self,and_false,false_and,false_implies,true_implies,em]
      repeat' (first | with_reducible refine And.intro ?_ ?_ | with_reducible intro _ | ((first | with_reducible refine w_Re_buryTheWornOut_37 ?_ | with_reducible refine w_Re_buryTheWornOut_43 ?_); simp (disch := omega) only [cm_,aq_,ay_,ag_,b8_,af_,ba_,bb_,cp_,b3_,bv_,am_,ae_,ac_,bq_,ed_,bs_,ao_,c4_,a2_,az_,ar_,cw_,dw_,d6_,ea_,d3_,b5_,b1_,fh_,fu_,fp_,fz_,fq_,fk_,ft_,fs_,f0_,c5_,bd_,cx_,co_,cr_,cf_,an_,fb_,fc_,fd_,eg_,d8_,cl_,ds_,cv_,fv_,Int.toNat_natCast,eh_,b9_,c7_,ej_,f3_,Nat.reduceAdd,Nat.reduceMul,Int.reduceNeg,Nat.reduceLeDiff,List.length_cons,List.length_nil,true_and,and_true,Nat.zero_add,eq_self,Nat.reduceEqDiff,Int.reduceAdd,Int.reduceSub,Int.reduceMul,not_true_eq_false,Nat.reduceLT,Int.reduceEq,Int.reduceNe,Int.reduceLT,Int.reduceLE,and_self,and_false,false_and,false_implies,true_implies]))
      all_goals first | omega | exact hQ
    | succ n ih =>
      intro i hi
      have em2 : (i : Int) < rMen R := by omega
      have step := ih (i + 1) (by omega)
      have hGi := GR.bury hG i
      have gw := hG.wo i
      have gr := lasts_rng hG i
      have em : rMen (buryN R i) = rMen R := rfl
      have ew : rWo (buryN R i) i = rWo R i := rfl
      have el : lasts (buryN R i) i = lasts R i := rfl
      refine w_Re_buryTheWornOut_2 ?_
      simp (disch := omega) only [cm_,aq_,ay_,ag_,b8_,af_,ba_,bb_,cp_,b3_,bv_,am_,ae_,ac_,bq_,ed_,bs_,ao_,c4_,a2_,az_,ar_,cw_,dw_,d6_,ea_,d3_,b5_,b1_,fh_,fu_,fp_,fz_,fq_,fk_,ft_,fs_,f0_,c5_,bd_,cx_,co_,cr_,cf_,an_,fb_,fc_,fd_,eg_,d8_,cl_,ds_,cv_,fv_,Int.toNat_natCast,eh_,b9_,c7_,ej_,f3_,Nat.reduceAdd,Nat.reduceMul,Int.reduceNeg,Nat.reduceLeDiff,List.length_cons,List.length_nil,true_and,and_true,Nat.zero_add,eq_self,Nat.reduceEqDiff,Int.reduceAdd,Int.reduceSub,Int.reduceMul,not_true_eq_false,Nat.reduceLT,Int.reduceEq,Int.reduceNe,Int.reduceLT,Int.reduceLE,and_self,and_false,false_and,false_implies,true_implies,em,ew]
      refine ⟨fun _ => by omega, fun _ => ⟨fun _ => by omega, fun _ => ⟨by omega, ?_⟩⟩⟩
      refine con_lasts (by omega) hGi ?_
      rw [el]
      simp (disch := omega) only [cm_,aq_,ay_,ag_,b8_,af_,ba_,bb_,cp_,b3_,bv_,am_,ae_,ac_,bq_,ed_,bs_,ao_,c4_,a2_,az_,ar_,cw_,dw_,d6_,ea_,d3_,b5_,b1_,fh_,fu_,fp_,fz_,fq_,fk_,ft_,fs_,f0_,c5_,bd_,cx_,co_,cr_,cf_,an_,fb_,fc_,fd_,eg_,d8_,cl_,ds_,cv_,fv_,Int.toNat_natCast,eh_,b9_,c7_,ej_,f3_,Nat.reduceAdd,Nat.reduceMul,Int.reduceNeg,Nat.reduceLeDiff,List.length_cons,List.length_nil,true_and,and_true,Nat.zero_add,eq_self,Nat.reduceEqDiff,Int.reduceAdd,Int.reduceSub,Int.reduceMul,not_true_eq_false,Nat.reduceLT,Int.reduceEq,Int.reduceNe,Int.reduceLT,Int.reduceLE,and_self,and_false,false_and,false_implies,true_implies]
      refine ⟨fun c => ?_, fun c => ?_⟩
      · have ef : (fun k => if k < i + 1 ∧ lasts R k ≤ rWo R k then 2 else rFa R k) = fun k => if k < i ∧ lasts R k ≤ rWo R k then 2 else rFa R k := by
          funext k
          by_cases hk : k = i
          · subst hk
            rw [if_neg (by omega), if_neg (by omega)]
          · simp only [show (k < i + 1) = (k < i) by simp; omega]
        have e : buryN R (i + 1) = buryN R i := congrArg (fun f => sFa R f) ef
        rw [e] at step
        refine w_Re_buryTheWornOut_37 ?_
        simp (disch := omega) only [cm_,aq_,ay_,ag_,b8_,af_,ba_,bb_,cp_,b3_,bv_,am_,ae_,ac_,bq_,ed_,bs_,ao_,c4_,a2_,az_,ar_,cw_,dw_,d6_,ea_,d3_,b5_,b1_,fh_,fu_,fp_,fz_,fq_,fk_,ft_,fs_,f0_,c5_,bd_,cx_,co_,cr_,cf_,an_,fb_,fc_,fd_,eg_,d8_,cl_,ds_,cv_,fv_,Int.toNat_natCast,eh_,b9_,c7_,ej_,f3_,Nat.reduceAdd,Nat.reduceMul,Int.reduceNeg,Nat.reduceLeDiff,List.length_cons,List.length_nil,true_and,and_true,Nat.zero_add,eq_self,Nat.reduceEqDiff,Int.reduceAdd,Int.reduceSub,Int.reduceMul,not_true_eq_false,Nat.reduceLT,Int.reduceEq,Int.reduceNe,Int.reduceLT,Int.reduceLE,and_self,and_false,false_and,false_implies,true_implies]
        exact step
      · have ef : (fun k => if k < i + 1 ∧ lasts R k ≤ rWo R k then 2 else rFa R k) = upI (fun k => if k < i ∧ lasts R k ≤ rWo R k then 2 else rFa R k) i 2 := by
          funext k
          simp only [upI]
          by_cases hk : k = i
          · subst hk
            rw [if_pos (by omega), if_pos rfl]
          · simp only [hk, if_false, show (k < i + 1) = (k < i) by simp; omega]
        have e : buryN R (i + 1) = sFa (buryN R i) (upI (rFa (buryN R i)) i 2) := congrArg (fun f => sFa R f) ef
        rw [e] at step
        repeat' (first | with_reducible refine And.intro ?_ ?_ | with_reducible intro _ | ((first | with_reducible refine w_Re_buryTheWornOut_37 ?_ | with_reducible refine w_Re_buryTheWornOut_43 ?_); simp (disch := omega) only [cm_,aq_,ay_,ag_,b8_,af_,ba_,bb_,cp_,b3_,bv_,am_,ae_,ac_,bq_,ed_,bs_,ao_,c4_,a2_,az_,ar_,cw_,dw_,d6_,ea_,d3_,b5_,b1_,fh_,fu_,fp_,fz_,fq_,fk_,ft_,fs_,f0_,c5_,bd_,cx_,co_,cr_,cf_,an_,fb_,fc_,fd_,eg_,d8_,cl_,ds_,cv_,fv_,Int.toNat_natCast,eh_,b9_,c7_,ej_,f3_,Nat.reduceAdd,Nat.reduceMul,Int.reduceNeg,Nat.reduceLeDiff,List.length_cons,List.length_nil,true_and,and_true,Nat.zero_add,eq_self,Nat.reduceEqDiff,Int.reduceAdd,Int.reduceSub,Int.reduceMul,not_true_eq_false,Nat.reduceLT,Int.reduceEq,Int.reduceNe,Int.reduceLT,Int.reduceLE,and_self,and_false,false_and,false_implies,true_implies]))
        all_goals first | omega | exact step
  exact loop _ 0 (Nat.zero_add _)
end C3
end
/-! looks -/
section
/-! ===== days; what is looked up of the road and the men ===== -/
section C4
variable {h : AH} {r : Nat} {R : RR} {Q : Option Value → AH → Prop}
theorem con_waitsOneDay (hG : GR R) (hQ : Q (some (.int (zI (b2i (waitX R))))) (he_ h r (dayX R))) : Con M_Re_waitsOneDay [.ref r] (he_ h r R) Q := by
  have hG0 : GR (sDay R (hh_ R + 1)) := hG
  have gk := hG.king
  have gs := hG.snow
  have gb := brF_256 hG0
  have gb' := gb
  unfold sDay at gb'
  refine g8_ (L := [some (.ref r), none]) ok_Re_waitsOneDay (Nat.le_of_ble_eq_true rfl) rfl ?_
  refine w_Re_waitsOneDay_0 ?_
  simp (disch := omega) only [cm_,aq_,ay_,ag_,b8_,af_,ba_,bc_,bb_,cp_,bf_,b3_,bv_,bg_,am_,ac_,b2_,bq_,ed_,bs_,ao_,as_,a2_,az_,ar_,c1_,dw_,d6_,ea_,d3_,b5_,b1_,fl_,fn_,fh_,fu_,fp_,fz_,fq_,fk_,fr_,ft_,f0_,c5_,bt_,bd_,c3_,ct_,cx_,cr_,cj_,cf_,ch_,an_,fb_,fe_,ff_,fc_,fd_,dy_,dt_,dv_,du_,dr_,ds_,cd_,a9_,a8_,a7_,ce_,cv_,fv_,d1_,Int.toNat_natCast,eh_,b9_,c7_,c6_,ej_,ei_,f3_,Nat.reduceAdd,Nat.reduceMul,Int.reduceNeg,Nat.reduceLeDiff,List.length_cons,List.length_nil,true_and,and_true,Nat.zero_add,eq_self,Nat.reduceEqDiff,Int.reduceAdd,Int.reduceSub,Int.reduceMul,not_true_eq_false,not_false_eq_true,Nat.reduceLT,Int.reduceEq,Int.reduceNe,Int.reduceLT,Int.reduceLE,or_true,or_false,and_self,and_false,false_and,false_implies,true_implies]
  refine con_isHome hG0 (fun c => ?_) (fun c => ?_)
  · have c : hd_ R = 12 := c
    have e1 : dayX R = sDay R (hh_ R + 1) := by simp only [dayX]; rw [if_pos c]
    have e2 : waitX R = false := by simp [waitX, c]
    rw [e1, e2] at hQ
    simp (disch := omega) only [cm_,aq_,ay_,ag_,b8_,af_,ba_,bc_,bb_,cp_,bf_,b3_,bv_,bg_,am_,ac_,b2_,bq_,ed_,bs_,ao_,as_,a2_,az_,ar_,c1_,dw_,d6_,ea_,d3_,b5_,b1_,fl_,fn_,fh_,fu_,fp_,fz_,fq_,fk_,fr_,ft_,f0_,c5_,bt_,bd_,c3_,ct_,cx_,cr_,cj_,cf_,ch_,an_,fb_,fe_,ff_,fc_,fd_,dy_,dt_,dv_,du_,dr_,ds_,cd_,a9_,a8_,a7_,ce_,cv_,fv_,d1_,Int.toNat_natCast,eh_,b9_,c7_,c6_,ej_,ei_,f3_,Nat.reduceAdd,Nat.reduceMul,Int.reduceNeg,Nat.reduceLeDiff,List.length_cons,List.length_nil,true_and,and_true,Nat.zero_add,eq_self,Nat.reduceEqDiff,Int.reduceAdd,Int.reduceSub,Int.reduceMul,not_true_eq_false,not_false_eq_true,Nat.reduceLT,Int.reduceEq,Int.reduceNe,Int.reduceLT,Int.reduceLE,or_true,or_false,and_self,and_false,false_and,false_implies,true_implies]
    repeat' (first | with_reducible refine And.intro ?_ ?_ | with_reducible intro _ | ((first | with_reducible refine w_Re_waitsOneDay_19 ?_ | with_reducible refine w_Re_waitsOneDay_47 ?_ | with_reducible refine w_Re_waitsOneDay_69 ?_ | with_reducible refine w_Re_waitsOneDay_70 ?_); simp (disch := omega) only [cm_,aq_,ay_,ag_,b8_,af_,ba_,bc_,bb_,cp_,bf_,b3_,bv_,bg_,am_,ac_,b2_,bq_,ed_,bs_,ao_,as_,a2_,az_,ar_,c1_,dw_,d6_,ea_,d3_,b5_,b1_,fl_,fn_,fh_,fu_,fp_,fz_,fq_,fk_,fr_,ft_,f0_,c5_,bt_,bd_,c3_,ct_,cx_,cr_,cj_,cf_,ch_,an_,fb_,fe_,ff_,fc_,fd_,dy_,dt_,dv_,du_,dr_,ds_,cd_,a9_,a8_,a7_,ce_,cv_,fv_,d1_,Int.toNat_natCast,eh_,b9_,c7_,c6_,ej_,ei_,f3_,Nat.reduceAdd,Nat.reduceMul,Int.reduceNeg,Nat.reduceLeDiff,List.length_cons,List.length_nil,true_and,and_true,Nat.zero_add,eq_self,Nat.reduceEqDiff,Int.reduceAdd,Int.reduceSub,Int.reduceMul,not_true_eq_false,not_false_eq_true,Nat.reduceLT,Int.reduceEq,Int.reduceNe,Int.reduceLT,Int.reduceLE,or_true,or_false,and_self,and_false,false_and,false_implies,true_implies]))
    all_goals first | omega | exact hQ
  · have c : ¬ hd_ R = 12 := c
    have e1 : dayX R = coldX (movedX (sDay R (hh_ R + 1))) := by simp only [dayX]; rw [if_neg c]
    simp (disch := omega) only [cm_,aq_,ay_,ag_,b8_,af_,ba_,bc_,bb_,cp_,bf_,b3_,bv_,bg_,am_,ac_,b2_,bq_,ed_,bs_,ao_,as_,a2_,az_,ar_,c1_,dw_,d6_,ea_,d3_,b5_,b1_,fl_,fn_,fh_,fu_,fp_,fz_,fq_,fk_,fr_,ft_,f0_,c5_,bt_,bd_,c3_,ct_,cx_,cr_,cj_,cf_,ch_,an_,fb_,fe_,ff_,fc_,fd_,dy_,dt_,dv_,du_,dr_,ds_,cd_,a9_,a8_,a7_,ce_,cv_,fv_,d1_,Int.toNat_natCast,eh_,b9_,c7_,c6_,ej_,ei_,f3_,Nat.reduceAdd,Nat.reduceMul,Int.reduceNeg,Nat.reduceLeDiff,List.length_cons,List.length_nil,true_and,and_true,Nat.zero_add,eq_self,Nat.reduceEqDiff,Int.reduceAdd,Int.reduceSub,Int.reduceMul,not_true_eq_false,not_false_eq_true,Nat.reduceLT,Int.reduceEq,Int.reduceNe,Int.reduceLT,Int.reduceLE,or_true,or_false,and_self,and_false,false_and,false_implies,true_implies]
    repeat' (first | with_reducible refine And.intro ?_ ?_ | with_reducible intro _ | ((first | with_reducible refine w_Re_waitsOneDay_19 ?_ | with_reducible refine w_Re_waitsOneDay_47 ?_ | with_reducible refine w_Re_waitsOneDay_69 ?_ | with_reducible refine w_Re_waitsOneDay_70 ?_); simp (disch := omega) only [cm_,aq_,ay_,ag_,b8_,af_,ba_,bc_,bb_,cp_,bf_,b3_,bv_,bg_,am_,ac_,b2_,bq_,ed_,bs_,ao_,as_,a2_,az_,ar_,c1_,dw_,d6_,ea_,d3_,b5_,b1_,fl_,fn_,fh_,fu_,fp_,fz_,fq_,fk_,fr_,ft_,f0_,c5_,bt_,bd_,c3_,ct_,cx_,cr_,cj_,cf_,ch_,an_,fb_,fe_,ff_,fc_,fd_,dy_,dt_,dv_,du_,dr_,ds_,cd_,a9_,a8_,a7_,ce_,cv_,fv_,d1_,Int.toNat_natCast,eh_,b9_,c7_,c6_,ej_,ei_,f3_,Nat.reduceAdd,Nat.reduceMul,Int.reduceNeg,Nat.reduceLeDiff,List.length_cons,List.length_nil,true_and,and_true,Nat.zero_add,eq_self,Nat.reduceEqDiff,Int.reduceAdd,Int.reduceSub,Int.reduceMul,not_true_eq_false,not_false_eq_true,Nat.reduceLT,Int.reduceEq,Int.reduceNe,Int.reduceLT,Int.reduceLE,or_true,or_false,and_self,and_false,false_and,false_implies,true_implies]))
    all_goals first | omega | skip
    refine con_bearers hG0 ?_
    by_cases cb : brF (sDay R (hh_ R + 1)) = 0
    · have e2 : waitX R = true := by simp [waitX, c, cb]
      have e3 : movedX (sDay R (hh_ R + 1)) = sDay R (hh_ R + 1) := by simp only [movedX]; rw [if_pos cb]
      rw [e1, e2, e3] at hQ
      rw [cb]
      simp (disch := omega) only [cm_,aq_,ay_,ag_,b8_,af_,ba_,bc_,bb_,cp_,bf_,b3_,bv_,bg_,am_,ac_,b2_,bq_,ed_,bs_,ao_,as_,a2_,az_,ar_,c1_,dw_,d6_,ea_,d3_,b5_,b1_,fl_,fn_,fh_,fu_,fp_,fz_,fq_,fk_,fr_,ft_,f0_,c5_,bt_,bd_,c3_,ct_,cx_,cr_,cj_,cf_,ch_,an_,fb_,fe_,ff_,fc_,fd_,dy_,dt_,dv_,du_,dr_,ds_,cd_,a9_,a8_,a7_,ce_,cv_,fv_,d1_,Int.toNat_natCast,eh_,b9_,c7_,c6_,ej_,ei_,f3_,Nat.reduceAdd,Nat.reduceMul,Int.reduceNeg,Nat.reduceLeDiff,List.length_cons,List.length_nil,true_and,and_true,Nat.zero_add,eq_self,Nat.reduceEqDiff,Int.reduceAdd,Int.reduceSub,Int.reduceMul,not_true_eq_false,not_false_eq_true,Nat.reduceLT,Int.reduceEq,Int.reduceNe,Int.reduceLT,Int.reduceLE,or_true,or_false,and_self,and_false,false_and,false_implies,true_implies]
      repeat' (first | with_reducible refine And.intro ?_ ?_ | with_reducible intro _ | ((first | with_reducible refine w_Re_waitsOneDay_19 ?_ | with_reducible refine w_Re_waitsOneDay_47 ?_ | with_reducible refine w_Re_waitsOneDay_69 ?_ | with_reducible refine w_Re_waitsOneDay_70 ?_); simp (disch := omega) only [cm_,aq_,ay_,ag_,b8_,af_,ba_,bc_,bb_,cp_,bf_,b3_,bv_,bg_,am_,ac_,b2_,bq_,ed_,bs_,ao_,as_,a2_,az_,ar_,c1_,dw_,d6_,ea_,d3_,b5_,b1_,fl_,fn_,fh_,fu_,fp_,fz_,fq_,fk_,fr_,ft_,f0_,c5_,bt_,bd_,c3_,ct_,cx_,cr_,cj_,cf_,ch_,an_,fb_,fe_,ff_,fc_,fd_,dy_,dt_,dv_,du_,dr_,ds_,cd_,a9_,a8_,a7_,ce_,cv_,fv_,d1_,Int.toNat_natCast,eh_,b9_,c7_,c6_,ej_,ei_,f3_,Nat.reduceAdd,Nat.reduceMul,Int.reduceNeg,Nat.reduceLeDiff,List.length_cons,List.length_nil,true_and,and_true,Nat.zero_add,eq_self,Nat.reduceEqDiff,Int.reduceAdd,Int.reduceSub,Int.reduceMul,not_true_eq_false,not_false_eq_true,Nat.reduceLT,Int.reduceEq,Int.reduceNe,Int.reduceLT,Int.reduceLE,or_true,or_false,and_self,and_false,false_and,false_implies,true_implies]))
      all_goals first | omega | exact hQ
    · have e2 : waitX R = false := by simp [waitX, cb]
      have e3 : movedX (sDay R (hh_ R + 1)) = buryN (sKing (wearN (sDay R (hh_ R + 1)) (brF (sDay R (hh_ R + 1))) 8) (hd_ R + 1)) (hb_ R) := by simp only [movedX]; rw [if_neg cb]; rfl
      have hGw := GR.wear hG0 (brF (sDay R (hh_ R + 1))) 8
      have hGk : GR (sKing (wearN (sDay R (hh_ R + 1)) (brF (sDay R (hh_ R + 1))) 8) (hd_ R + 1)) := GR.setKing hGw (by omega)
      have ek : hd_ (wearN (sDay R (hh_ R + 1)) (brF (sDay R (hh_ R + 1))) 8) = hd_ R := rfl
      rw [e1, e2, e3] at hQ
      simp (disch := omega) only [cm_,aq_,ay_,ag_,b8_,af_,ba_,bc_,bb_,cp_,bf_,b3_,bv_,bg_,am_,ac_,b2_,bq_,ed_,bs_,ao_,as_,a2_,az_,ar_,c1_,dw_,d6_,ea_,d3_,b5_,b1_,fl_,fn_,fh_,fu_,fp_,fz_,fq_,fk_,fr_,ft_,f0_,c5_,bt_,bd_,c3_,ct_,cx_,cr_,cj_,cf_,ch_,an_,fb_,fe_,ff_,fc_,fd_,dy_,dt_,dv_,du_,dr_,ds_,cd_,a9_,a8_,a7_,ce_,cv_,fv_,d1_,Int.toNat_natCast,eh_,b9_,c7_,c6_,ej_,ei_,f3_,Nat.reduceAdd,Nat.reduceMul,Int.reduceNeg,Nat.reduceLeDiff,List.length_cons,List.length_nil,true_and,and_true,Nat.zero_add,eq_self,Nat.reduceEqDiff,Int.reduceAdd,Int.reduceSub,Int.reduceMul,not_true_eq_false,not_false_eq_true,Nat.reduceLT,Int.reduceEq,Int.reduceNe,Int.reduceLT,Int.reduceLE,or_true,or_false,and_self,and_false,false_and,false_implies,true_implies]
      refine ⟨fun q => absurd (Int.natCast_eq_zero.mp q) cb, fun _ => ?_⟩
      refine con_wearOut gb hG0 ?_
      simp (disch := omega) only [cm_,aq_,ay_,ag_,b8_,af_,ba_,bc_,bb_,cp_,bf_,b3_,bv_,bg_,am_,ac_,b2_,bq_,ed_,bs_,ao_,as_,a2_,az_,ar_,c1_,dw_,d6_,ea_,d3_,b5_,b1_,fl_,fn_,fh_,fu_,fp_,fz_,fq_,fk_,fr_,ft_,f0_,c5_,bt_,bd_,c3_,ct_,cx_,cr_,cj_,cf_,ch_,an_,fb_,fe_,ff_,fc_,fd_,dy_,dt_,dv_,du_,dr_,ds_,cd_,a9_,a8_,a7_,ce_,cv_,fv_,d1_,Int.toNat_natCast,eh_,b9_,c7_,c6_,ej_,ei_,f3_,Nat.reduceAdd,Nat.reduceMul,Int.reduceNeg,Nat.reduceLeDiff,List.length_cons,List.length_nil,true_and,and_true,Nat.zero_add,eq_self,Nat.reduceEqDiff,Int.reduceAdd,Int.reduceSub,Int.reduceMul,not_true_eq_false,not_false_eq_true,Nat.reduceLT,Int.reduceEq,Int.reduceNe,Int.reduceLT,Int.reduceLE,or_true,or_false,and_self,and_false,false_and,false_implies,true_implies,ek]
      refine con_buryTheWornOut hGk ?_
      have es : rSnow (buryN (sKing (wearN (sDay R (hh_ R + 1)) (brF (sDay R (hh_ R + 1))) 8) (hd_ R + 1)) (hb_ R)) = rSnow R := rfl
      have en : hb_ (sKing (wearN (sDay R (hh_ R + 1)) (brF (sDay R (hh_ R + 1))) 8) (hd_ R + 1)) = hb_ R := rfl
      rw [en]
      simp (disch := omega) only [cm_,aq_,ay_,ag_,b8_,af_,ba_,bc_,bb_,cp_,bf_,b3_,bv_,bg_,am_,ac_,b2_,bq_,ed_,bs_,ao_,as_,a2_,az_,ar_,c1_,dw_,d6_,ea_,d3_,b5_,b1_,fl_,fn_,fh_,fu_,fp_,fz_,fq_,fk_,fr_,ft_,f0_,c5_,bt_,bd_,c3_,ct_,cx_,cr_,cj_,cf_,ch_,an_,fb_,fe_,ff_,fc_,fd_,dy_,dt_,dv_,du_,dr_,ds_,cd_,a9_,a8_,a7_,ce_,cv_,fv_,d1_,Int.toNat_natCast,eh_,b9_,c7_,c6_,ej_,ei_,f3_,Nat.reduceAdd,Nat.reduceMul,Int.reduceNeg,Nat.reduceLeDiff,List.length_cons,List.length_nil,true_and,and_true,Nat.zero_add,eq_self,Nat.reduceEqDiff,Int.reduceAdd,Int.reduceSub,Int.reduceMul,not_true_eq_false,not_false_eq_true,Nat.reduceLT,Int.reduceEq,Int.reduceNe,Int.reduceLT,Int.reduceLE,or_true,or_false,and_self,and_false,false_and,false_implies,true_implies]
      refine w_Re_waitsOneDay_47 ?_
      simp (disch := omega) only [cm_,aq_,ay_,ag_,b8_,af_,ba_,bc_,bb_,cp_,bf_,b3_,bv_,bg_,am_,ac_,b2_,bq_,ed_,bs_,ao_,as_,a2_,az_,ar_,c1_,dw_,d6_,ea_,d3_,b5_,b1_,fl_,fn_,fh_,fu_,fp_,fz_,fq_,fk_,fr_,ft_,f0_,c5_,bt_,bd_,c3_,ct_,cx_,cr_,cj_,cf_,ch_,an_,fb_,fe_,ff_,fc_,fd_,dy_,dt_,dv_,du_,dr_,ds_,cd_,a9_,a8_,a7_,ce_,cv_,fv_,d1_,Int.toNat_natCast,eh_,b9_,c7_,c6_,ej_,ei_,f3_,Nat.reduceAdd,Nat.reduceMul,Int.reduceNeg,Nat.reduceLeDiff,List.length_cons,List.length_nil,true_and,and_true,Nat.zero_add,eq_self,Nat.reduceEqDiff,Int.reduceAdd,Int.reduceSub,Int.reduceMul,not_true_eq_false,not_false_eq_true,Nat.reduceLT,Int.reduceEq,Int.reduceNe,Int.reduceLT,Int.reduceLE,or_true,or_false,and_self,and_false,false_and,false_implies,true_implies,es]
      repeat' (first | with_reducible refine And.intro ?_ ?_ | with_reducible intro _ | ((first | with_reducible refine w_Re_waitsOneDay_19 ?_ | with_reducible refine w_Re_waitsOneDay_47 ?_ | with_reducible refine w_Re_waitsOneDay_69 ?_ | with_reducible refine w_Re_waitsOneDay_70 ?_); simp (disch := omega) only [cm_,aq_,ay_,ag_,b8_,af_,ba_,bc_,bb_,cp_,bf_,b3_,bv_,bg_,am_,ac_,b2_,bq_,ed_,bs_,ao_,as_,a2_,az_,ar_,c1_,dw_,d6_,ea_,d3_,b5_,b1_,fl_,fn_,fh_,fu_,fp_,fz_,fq_,fk_,fr_,ft_,f0_,c5_,bt_,bd_,c3_,ct_,cx_,cr_,cj_,cf_,ch_,an_,fb_,fe_,ff_,fc_,fd_,dy_,dt_,dv_,du_,dr_,ds_,cd_,a9_,a8_,a7_,ce_,cv_,fv_,d1_,Int.toNat_natCast,eh_,b9_,c7_,c6_,ej_,ei_,f3_,Nat.reduceAdd,Nat.reduceMul,Int.reduceNeg,Nat.reduceLeDiff,List.length_cons,List.length_nil,true_and,and_true,Nat.zero_add,eq_self,Nat.reduceEqDiff,Int.reduceAdd,Int.reduceSub,Int.reduceMul,not_true_eq_false,not_false_eq_true,Nat.reduceLT,Int.reduceEq,Int.reduceNe,Int.reduceLT,Int.reduceLE,or_true,or_false,and_self,and_false,false_and,false_implies,true_implies]))
      all_goals first | omega | exact hQ
theorem con_passDays {n : Nat} (hn : n ≤ 100) (hG : GR R) (hQ : Q (some (.int (zI (wtX R n)))) (he_ h r (g6_ R n))) : Con M_Re_passDays [.ref r, .int (zI n)] (he_ h r R) Q := by
  refine g8_ (L := [some (.ref r), some (.int (zI n)), none, none]) ok_Re_passDays (Nat.le_of_ble_eq_true rfl) rfl ?_
  refine w_Re_passDays_0 ?_
  simp (disch := omega) only [cm_,aq_,ay_,ag_,b8_,af_,ba_,bc_,bb_,cp_,bf_,b3_,bv_,bg_,am_,ac_,b2_,bq_,ed_,bs_,ao_,as_,a2_,az_,ar_,c1_,dw_,d6_,ea_,d3_,b5_,b1_,fl_,fn_,fh_,fu_,fp_,fz_,fq_,fk_,fr_,ft_,f0_,c5_,bt_,bd_,c3_,ct_,cx_,cr_,cj_,cf_,ch_,an_,fb_,fe_,ff_,fc_,fd_,dy_,dt_,dv_,du_,dr_,ds_,cd_,a9_,a8_,a7_,ce_,cv_,fv_,d1_,Int.toNat_natCast,eh_,b9_,c7_,c6_,ej_,ei_,f3_,Nat.reduceAdd,Nat.reduceMul,Int.reduceNeg,Nat.reduceLeDiff,List.length_cons,List.length_nil,true_and,and_true,Nat.zero_add,eq_self,Nat.reduceEqDiff,Int.reduceAdd,Int.reduceSub,Int.reduceMul,not_true_eq_false,not_false_eq_true,Nat.reduceLT,Int.reduceEq,Int.reduceNe,Int.reduceLT,Int.reduceLE,or_true,or_false,and_self,and_false,false_and,false_implies,true_implies]
  have loop : ∀ k i : Nat, i + k = n → J M_Re_passDays 4 [some (.ref r), some (.int (zI n)), some (.int (zI (wtX R i))), some (.int (zI i))] [] (he_ h r (g6_ R i)) Q := by
    intro k
    induction k with
    | zero =>
      intro i hi
      have e : i = n := by omega
      subst e
      refine w_Re_passDays_4 ?_
      simp (disch := omega) only [cm_,aq_,ay_,ag_,b8_,af_,ba_,bc_,bb_,cp_,bf_,b3_,bv_,bg_,am_,ac_,b2_,bq_,ed_,bs_,ao_,as_,a2_,az_,ar_,c1_,dw_,d6_,ea_,d3_,b5_,b1_,fl_,fn_,fh_,fu_,fp_,fz_,fq_,fk_,fr_,ft_,f0_,c5_,bt_,bd_,c3_,ct_,cx_,cr_,cj_,cf_,ch_,an_,fb_,fe_,ff_,fc_,fd_,dy_,dt_,dv_,du_,dr_,ds_,cd_,a9_,a8_,a7_,ce_,cv_,fv_,d1_,Int.toNat_natCast,eh_,b9_,c7_,c6_,ej_,ei_,f3_,Nat.reduceAdd,Nat.reduceMul,Int.reduceNeg,Nat.reduceLeDiff,List.length_cons,List.length_nil,true_and,and_true,Nat.zero_add,eq_self,Nat.reduceEqDiff,Int.reduceAdd,Int.reduceSub,Int.reduceMul,not_true_eq_false,not_false_eq_true,Nat.reduceLT,Int.reduceEq,Int.reduceNe,Int.reduceLT,Int.reduceLE,or_true,or_false,and_self,and_false,false_and,false_implies,true_implies]
      repeat' (first | with_reducible refine And.intro ?_ ?_ | with_reducible intro _ | ((first | with_reducible refine w_Re_passDays_19 ?_ | with_reducible refine w_Re_passDays_25 ?_); simp (disch := omega) only [cm_,aq_,ay_,ag_,b8_,af_,ba_,bc_,bb_,cp_,bf_,b3_,bv_,bg_,am_,ac_,b2_,bq_,ed_,bs_,ao_,as_,a2_,az_,ar_,c1_,dw_,d6_,ea_,d3_,b5_,b1_,fl_,fn_,fh_,fu_,fp_,fz_,fq_,fk_,fr_,ft_,f0_,c5_,bt_,bd_,c3_,ct_,cx_,cr_,cj_,cf_,ch_,an_,fb_,fe_,ff_,fc_,fd_,dy_,dt_,dv_,du_,dr_,ds_,cd_,a9_,a8_,a7_,ce_,cv_,fv_,d1_,Int.toNat_natCast,eh_,b9_,c7_,c6_,ej_,ei_,f3_,Nat.reduceAdd,Nat.reduceMul,Int.reduceNeg,Nat.reduceLeDiff,List.length_cons,List.length_nil,true_and,and_true,Nat.zero_add,eq_self,Nat.reduceEqDiff,Int.reduceAdd,Int.reduceSub,Int.reduceMul,not_true_eq_false,not_false_eq_true,Nat.reduceLT,Int.reduceEq,Int.reduceNe,Int.reduceLT,Int.reduceLE,or_true,or_false,and_self,and_false,false_and,false_implies,true_implies]))
      all_goals first | omega | exact hQ
    | succ k ih =>
      intro i hi
      have step := ih (i + 1) (by omega)
      have hw := wtX_rng R i
      simp only [wtX, g6_] at step
      refine w_Re_passDays_4 ?_
      simp (disch := omega) only [cm_,aq_,ay_,ag_,b8_,af_,ba_,bc_,bb_,cp_,bf_,b3_,bv_,bg_,am_,ac_,b2_,bq_,ed_,bs_,ao_,as_,a2_,az_,ar_,c1_,dw_,d6_,ea_,d3_,b5_,b1_,fl_,fn_,fh_,fu_,fp_,fz_,fq_,fk_,fr_,ft_,f0_,c5_,bt_,bd_,c3_,ct_,cx_,cr_,cj_,cf_,ch_,an_,fb_,fe_,ff_,fc_,fd_,dy_,dt_,dv_,du_,dr_,ds_,cd_,a9_,a8_,a7_,ce_,cv_,fv_,d1_,Int.toNat_natCast,eh_,b9_,c7_,c6_,ej_,ei_,f3_,Nat.reduceAdd,Nat.reduceMul,Int.reduceNeg,Nat.reduceLeDiff,List.length_cons,List.length_nil,true_and,and_true,Nat.zero_add,eq_self,Nat.reduceEqDiff,Int.reduceAdd,Int.reduceSub,Int.reduceMul,not_true_eq_false,not_false_eq_true,Nat.reduceLT,Int.reduceEq,Int.reduceNe,Int.reduceLT,Int.reduceLE,or_true,or_false,and_self,and_false,false_and,false_implies,true_implies]
      refine ⟨fun _ => by omega, fun _ => ?_⟩
      refine con_waitsOneDay (hG.dsX i) ?_
      simp (disch := omega) only [cm_,aq_,ay_,ag_,b8_,af_,ba_,bc_,bb_,cp_,bf_,b3_,bv_,bg_,am_,ac_,b2_,bq_,ed_,bs_,ao_,as_,a2_,az_,ar_,c1_,dw_,d6_,ea_,d3_,b5_,b1_,fl_,fn_,fh_,fu_,fp_,fz_,fq_,fk_,fr_,ft_,f0_,c5_,bt_,bd_,c3_,ct_,cx_,cr_,cj_,cf_,ch_,an_,fb_,fe_,ff_,fc_,fd_,dy_,dt_,dv_,du_,dr_,ds_,cd_,a9_,a8_,a7_,ce_,cv_,fv_,d1_,Int.toNat_natCast,eh_,b9_,c7_,c6_,ej_,ei_,f3_,Nat.reduceAdd,Nat.reduceMul,Int.reduceNeg,Nat.reduceLeDiff,List.length_cons,List.length_nil,true_and,and_true,Nat.zero_add,eq_self,Nat.reduceEqDiff,Int.reduceAdd,Int.reduceSub,Int.reduceMul,not_true_eq_false,not_false_eq_true,Nat.reduceLT,Int.reduceEq,Int.reduceNe,Int.reduceLT,Int.reduceLE,or_true,or_false,and_self,and_false,false_and,false_implies,true_implies]
      repeat' (first | with_reducible refine And.intro ?_ ?_ | with_reducible intro _ | ((first | with_reducible refine w_Re_passDays_19 ?_ | with_reducible refine w_Re_passDays_25 ?_); simp (disch := omega) only [cm_,aq_,ay_,ag_,b8_,af_,ba_,bc_,bb_,cp_,bf_,b3_,bv_,bg_,am_,ac_,b2_,bq_,ed_,bs_,ao_,as_,a2_,az_,ar_,c1_,dw_,d6_,ea_,d3_,b5_,b1_,fl_,fn_,fh_,fu_,fp_,fz_,fq_,fk_,fr_,ft_,f0_,c5_,bt_,bd_,c3_,ct_,cx_,cr_,cj_,cf_,ch_,an_,fb_,fe_,ff_,fc_,fd_,dy_,dt_,dv_,du_,dr_,ds_,cd_,a9_,a8_,a7_,ce_,cv_,fv_,d1_,Int.toNat_natCast,eh_,b9_,c7_,c6_,ej_,ei_,f3_,Nat.reduceAdd,Nat.reduceMul,Int.reduceNeg,Nat.reduceLeDiff,List.length_cons,List.length_nil,true_and,and_true,Nat.zero_add,eq_self,Nat.reduceEqDiff,Int.reduceAdd,Int.reduceSub,Int.reduceMul,not_true_eq_false,not_false_eq_true,Nat.reduceLT,Int.reduceEq,Int.reduceNe,Int.reduceLT,Int.reduceLE,or_true,or_false,and_self,and_false,false_and,false_implies,true_implies]))
      all_goals first | omega | (rw [if_neg (by simp_all)] at step; exact step) | (rw [if_pos (by simp_all)] at step; exact step)
  exact loop _ 0 (Nat.zero_add _)
theorem slAn_rng {f : Nat → Int} (hf : ∀ k, 0 ≤ f k ∧ f k ≤ 9) (k n : Nat) : 0 ≤ slAn f k n ∧ slAn f k n ≤ 9 * n := by
  induction n generalizing k with
  | zero => simp [slAn]
  | succ n ih =>
    have := ih (k + 1)
    have := hf k
    simp only [slAn]
    omega
abbrev kgN (R : RR) : Nat := (hd_ R).toNat
theorem GR.kg {R : RR} (h : GR R) : ((kgN R : Nat) : Int) = hd_ R ∧ kgN R ≤ 12 ∧ max 0 (hd_ R) = ((kgN R : Nat) : Int) := by
  have := h.king
  show (((hd_ R).toNat : Nat) : Int) = hd_ R ∧ (hd_ R).toNat ≤ 12 ∧ max 0 (hd_ R) = (((hd_ R).toNat : Nat) : Int)
  omega
theorem con_slopesAhead (hG : GR R) (hQ : Q (some (.int (zI (slAn (rSl R) (kgN R) (12 - kgN R))))) (he_ h r R)) : Con M_Re_slopesAhead [.ref r] (he_ h r R) Q := by
  have gk := hG.king
  have gg := hG.kg
  refine g8_ (L := [some (.ref r), none, none]) ok_Re_slopesAhead (Nat.le_of_ble_eq_true rfl) rfl ?_
  refine w_Re_slopesAhead_0 ?_
  simp (disch := omega) only [cm_,aq_,ay_,ag_,b8_,af_,ba_,bc_,bb_,cp_,bf_,b3_,bv_,bg_,am_,ac_,b2_,bq_,ed_,bs_,ao_,as_,a2_,az_,ar_,c1_,dw_,d6_,ea_,d3_,b5_,b1_,fl_,fn_,fh_,fu_,fp_,fz_,fq_,fk_,fr_,ft_,f0_,c5_,bt_,bd_,c3_,ct_,cx_,cr_,cj_,cf_,ch_,an_,fb_,fe_,ff_,fc_,fd_,dy_,dt_,dv_,du_,dr_,ds_,cd_,a9_,a8_,a7_,ce_,cv_,fv_,d1_,Int.toNat_natCast,eh_,b9_,c7_,c6_,ej_,ei_,f3_,Nat.reduceAdd,Nat.reduceMul,Int.reduceNeg,Nat.reduceLeDiff,List.length_cons,List.length_nil,true_and,and_true,Nat.zero_add,eq_self,Nat.reduceEqDiff,Int.reduceAdd,Int.reduceSub,Int.reduceMul,not_true_eq_false,not_false_eq_true,Nat.reduceLT,Int.reduceEq,Int.reduceNe,Int.reduceLT,Int.reduceLE,or_true,or_false,and_self,and_false,false_and,false_implies,true_implies,gg.2.2]
  have loop : ∀ n i : Nat, i + n = 12 → ∀ t : Int, t + slAn (rSl R) i n = slAn (rSl R) (kgN R) (12 - kgN R) → J M_Re_slopesAhead 11 [some (.ref r), some (.int (zI t)), some (.int (zI i))] [] (he_ h r R) Q := by
    intro n
    induction n with
    | zero =>
      intro i hi t ht
      have e : i = 12 := by omega
      subst e
      simp only [slAn, Int.add_zero] at ht
      rw [← ht] at hQ
      refine w_Re_slopesAhead_11 ?_
      simp (disch := omega) only [cm_,aq_,ay_,ag_,b8_,af_,ba_,bc_,bb_,cp_,bf_,b3_,bv_,bg_,am_,ac_,b2_,bq_,ed_,bs_,ao_,as_,a2_,az_,ar_,c1_,dw_,d6_,ea_,d3_,b5_,b1_,fl_,fn_,fh_,fu_,fp_,fz_,fq_,fk_,fr_,ft_,f0_,c5_,bt_,bd_,c3_,ct_,cx_,cr_,cj_,cf_,ch_,an_,fb_,fe_,ff_,fc_,fd_,dy_,dt_,dv_,du_,dr_,ds_,cd_,a9_,a8_,a7_,ce_,cv_,fv_,d1_,Int.toNat_natCast,eh_,b9_,c7_,c6_,ej_,ei_,f3_,Nat.reduceAdd,Nat.reduceMul,Int.reduceNeg,Nat.reduceLeDiff,List.length_cons,List.length_nil,true_and,and_true,Nat.zero_add,eq_self,Nat.reduceEqDiff,Int.reduceAdd,Int.reduceSub,Int.reduceMul,not_true_eq_false,not_false_eq_true,Nat.reduceLT,Int.reduceEq,Int.reduceNe,Int.reduceLT,Int.reduceLE,or_true,or_false,and_self,and_false,false_and,false_implies,true_implies]
      repeat' (first | with_reducible refine And.intro ?_ ?_ | with_reducible intro _ | ((first | with_reducible refine w_Re_slopesAhead_32 ?_); simp (disch := omega) only [cm_,aq_,ay_,ag_,b8_,af_,ba_,bc_,bb_,cp_,bf_,b3_,bv_,bg_,am_,ac_,b2_,bq_,ed_,bs_,ao_,as_,a2_,az_,ar_,c1_,dw_,d6_,ea_,d3_,b5_,b1_,fl_,fn_,fh_,fu_,fp_,fz_,fq_,fk_,fr_,ft_,f0_,c5_,bt_,bd_,c3_,ct_,cx_,cr_,cj_,cf_,ch_,an_,fb_,fe_,ff_,fc_,fd_,dy_,dt_,dv_,du_,dr_,ds_,cd_,a9_,a8_,a7_,ce_,cv_,fv_,d1_,Int.toNat_natCast,eh_,b9_,c7_,c6_,ej_,ei_,f3_,Nat.reduceAdd,Nat.reduceMul,Int.reduceNeg,Nat.reduceLeDiff,List.length_cons,List.length_nil,true_and,and_true,Nat.zero_add,eq_self,Nat.reduceEqDiff,Int.reduceAdd,Int.reduceSub,Int.reduceMul,not_true_eq_false,not_false_eq_true,Nat.reduceLT,Int.reduceEq,Int.reduceNe,Int.reduceLT,Int.reduceLE,or_true,or_false,and_self,and_false,false_and,false_implies,true_implies]))
      all_goals first | omega | exact hQ
    | succ n ih =>
      intro i hi t ht
      have step := ih (i + 1) (by omega) (t + rSl R i) (by rw [← ht]; simp only [slAn]; omega)
      refine w_Re_slopesAhead_11 ?_
      simp (disch := omega) only [cm_,aq_,ay_,ag_,b8_,af_,ba_,bc_,bb_,cp_,bf_,b3_,bv_,bg_,am_,ac_,b2_,bq_,ed_,bs_,ao_,as_,a2_,az_,ar_,c1_,dw_,d6_,ea_,d3_,b5_,b1_,fl_,fn_,fh_,fu_,fp_,fz_,fq_,fk_,fr_,ft_,f0_,c5_,bt_,bd_,c3_,ct_,cx_,cr_,cj_,cf_,ch_,an_,fb_,fe_,ff_,fc_,fd_,dy_,dt_,dv_,du_,dr_,ds_,cd_,a9_,a8_,a7_,ce_,cv_,fv_,d1_,Int.toNat_natCast,eh_,b9_,c7_,c6_,ej_,ei_,f3_,Nat.reduceAdd,Nat.reduceMul,Int.reduceNeg,Nat.reduceLeDiff,List.length_cons,List.length_nil,true_and,and_true,Nat.zero_add,eq_self,Nat.reduceEqDiff,Int.reduceAdd,Int.reduceSub,Int.reduceMul,not_true_eq_false,not_false_eq_true,Nat.reduceLT,Int.reduceEq,Int.reduceNe,Int.reduceLT,Int.reduceLE,or_true,or_false,and_self,and_false,false_and,false_implies,true_implies]
      repeat' (first | with_reducible refine And.intro ?_ ?_ | with_reducible intro _ | ((first | with_reducible refine w_Re_slopesAhead_32 ?_); simp (disch := omega) only [cm_,aq_,ay_,ag_,b8_,af_,ba_,bc_,bb_,cp_,bf_,b3_,bv_,bg_,am_,ac_,b2_,bq_,ed_,bs_,ao_,as_,a2_,az_,ar_,c1_,dw_,d6_,ea_,d3_,b5_,b1_,fl_,fn_,fh_,fu_,fp_,fz_,fq_,fk_,fr_,ft_,f0_,c5_,bt_,bd_,c3_,ct_,cx_,cr_,cj_,cf_,ch_,an_,fb_,fe_,ff_,fc_,fd_,dy_,dt_,dv_,du_,dr_,ds_,cd_,a9_,a8_,a7_,ce_,cv_,fv_,d1_,Int.toNat_natCast,eh_,b9_,c7_,c6_,ej_,ei_,f3_,Nat.reduceAdd,Nat.reduceMul,Int.reduceNeg,Nat.reduceLeDiff,List.length_cons,List.length_nil,true_and,and_true,Nat.zero_add,eq_self,Nat.reduceEqDiff,Int.reduceAdd,Int.reduceSub,Int.reduceMul,not_true_eq_false,not_false_eq_true,Nat.reduceLT,Int.reduceEq,Int.reduceNe,Int.reduceLT,Int.reduceLE,or_true,or_false,and_self,and_false,false_and,false_implies,true_implies]))
      all_goals first | omega | exact step
  exact loop (12 - kgN R) _ (by omega) 0 (by omega)
theorem con_steepest (hG : GR R) (hQ : Q (some (.int (zI (stp R 12)))) (he_ h r R)) : Con M_Re_steepest [.ref r] (he_ h r R) Q := by
  have hst : ∀ n, stp R n < 12 ∨ 12 ≤ n ∧ stp R n < n := by
    intro n
    induction n with
    | zero => left; simp [stp]
    | succ n ih =>
      simp only [stp]
      split <;> omega
  refine g8_ (L := [some (.ref r), none, none]) ok_Re_steepest (Nat.le_of_ble_eq_true rfl) rfl ?_
  refine w_Re_steepest_0 ?_
  simp (disch := omega) only [cm_,aq_,ay_,ag_,b8_,af_,ba_,bc_,bb_,cp_,bf_,b3_,bv_,bg_,am_,ac_,b2_,bq_,ed_,bs_,ao_,as_,a2_,az_,ar_,c1_,dw_,d6_,ea_,d3_,b5_,b1_,fl_,fn_,fh_,fu_,fp_,fz_,fq_,fk_,fr_,ft_,f0_,c5_,bt_,bd_,c3_,ct_,cx_,cr_,cj_,cf_,ch_,an_,fb_,fe_,ff_,fc_,fd_,dy_,dt_,dv_,du_,dr_,ds_,cd_,a9_,a8_,a7_,ce_,cv_,fv_,d1_,Int.toNat_natCast,eh_,b9_,c7_,c6_,ej_,ei_,f3_,Nat.reduceAdd,Nat.reduceMul,Int.reduceNeg,Nat.reduceLeDiff,List.length_cons,List.length_nil,true_and,and_true,Nat.zero_add,eq_self,Nat.reduceEqDiff,Int.reduceAdd,Int.reduceSub,Int.reduceMul,not_true_eq_false,not_false_eq_true,Nat.reduceLT,Int.reduceEq,Int.reduceNe,Int.reduceLT,Int.reduceLE,or_true,or_false,and_self,and_false,false_and,false_implies,true_implies]
  have loop : ∀ n i : Nat, i + n = 12 → J M_Re_steepest 4 [some (.ref r), some (.int (zI (stp R i))), some (.int (zI i))] [] (he_ h r R) Q := by
    intro n
    induction n with
    | zero =>
      intro i hi
      have e : i = 12 := by omega
      subst e
      refine w_Re_steepest_4 ?_
      simp (disch := omega) only [cm_,aq_,ay_,ag_,b8_,af_,ba_,bc_,bb_,cp_,bf_,b3_,bv_,bg_,am_,ac_,b2_,bq_,ed_,bs_,ao_,as_,a2_,az_,ar_,c1_,dw_,d6_,ea_,d3_,b5_,b1_,fl_,fn_,fh_,fu_,fp_,fz_,fq_,fk_,fr_,ft_,f0_,c5_,bt_,bd_,c3_,ct_,cx_,cr_,cj_,cf_,ch_,an_,fb_,fe_,ff_,fc_,fd_,dy_,dt_,dv_,du_,dr_,ds_,cd_,a9_,a8_,a7_,ce_,cv_,fv_,d1_,Int.toNat_natCast,eh_,b9_,c7_,c6_,ej_,ei_,f3_,Nat.reduceAdd,Nat.reduceMul,Int.reduceNeg,Nat.reduceLeDiff,List.length_cons,List.length_nil,true_and,and_true,Nat.zero_add,eq_self,Nat.reduceEqDiff,Int.reduceAdd,Int.reduceSub,Int.reduceMul,not_true_eq_false,not_false_eq_true,Nat.reduceLT,Int.reduceEq,Int.reduceNe,Int.reduceLT,Int.reduceLE,or_true,or_false,and_self,and_false,false_and,false_implies,true_implies]
      repeat' (first | with_reducible refine And.intro ?_ ?_ | with_reducible intro _ | ((first | with_reducible refine w_Re_steepest_26 ?_ | with_reducible refine w_Re_steepest_32 ?_); simp (disch := omega) only [cm_,aq_,ay_,ag_,b8_,af_,ba_,bc_,bb_,cp_,bf_,b3_,bv_,bg_,am_,ac_,b2_,bq_,ed_,bs_,ao_,as_,a2_,az_,ar_,c1_,dw_,d6_,ea_,d3_,b5_,b1_,fl_,fn_,fh_,fu_,fp_,fz_,fq_,fk_,fr_,ft_,f0_,c5_,bt_,bd_,c3_,ct_,cx_,cr_,cj_,cf_,ch_,an_,fb_,fe_,ff_,fc_,fd_,dy_,dt_,dv_,du_,dr_,ds_,cd_,a9_,a8_,a7_,ce_,cv_,fv_,d1_,Int.toNat_natCast,eh_,b9_,c7_,c6_,ej_,ei_,f3_,Nat.reduceAdd,Nat.reduceMul,Int.reduceNeg,Nat.reduceLeDiff,List.length_cons,List.length_nil,true_and,and_true,Nat.zero_add,eq_self,Nat.reduceEqDiff,Int.reduceAdd,Int.reduceSub,Int.reduceMul,not_true_eq_false,not_false_eq_true,Nat.reduceLT,Int.reduceEq,Int.reduceNe,Int.reduceLT,Int.reduceLE,or_true,or_false,and_self,and_false,false_and,false_implies,true_implies]))
      all_goals first | omega | exact hQ
    | succ n ih =>
      intro i hi
      have step := ih (i + 1) (by omega)
      have hs := hst i
      have g1 := hG.sl i
      have g2 := hG.sl (stp R i)
      simp only [stp] at step
      refine w_Re_steepest_4 ?_
      simp (disch := omega) only [cm_,aq_,ay_,ag_,b8_,af_,ba_,bc_,bb_,cp_,bf_,b3_,bv_,bg_,am_,ac_,b2_,bq_,ed_,bs_,ao_,as_,a2_,az_,ar_,c1_,dw_,d6_,ea_,d3_,b5_,b1_,fl_,fn_,fh_,fu_,fp_,fz_,fq_,fk_,fr_,ft_,f0_,c5_,bt_,bd_,c3_,ct_,cx_,cr_,cj_,cf_,ch_,an_,fb_,fe_,ff_,fc_,fd_,dy_,dt_,dv_,du_,dr_,ds_,cd_,a9_,a8_,a7_,ce_,cv_,fv_,d1_,Int.toNat_natCast,eh_,b9_,c7_,c6_,ej_,ei_,f3_,Nat.reduceAdd,Nat.reduceMul,Int.reduceNeg,Nat.reduceLeDiff,List.length_cons,List.length_nil,true_and,and_true,Nat.zero_add,eq_self,Nat.reduceEqDiff,Int.reduceAdd,Int.reduceSub,Int.reduceMul,not_true_eq_false,not_false_eq_true,Nat.reduceLT,Int.reduceEq,Int.reduceNe,Int.reduceLT,Int.reduceLE,or_true,or_false,and_self,and_false,false_and,false_implies,true_implies]
      refine ⟨fun _ => by omega, fun _ => ⟨by omega, ?_⟩⟩
      refine con_slopeOf (by unfold inI; omega) (fun _ => ?_) (fun q => absurd (by omega) q)
      simp (disch := omega) only [cm_,aq_,ay_,ag_,b8_,af_,ba_,bc_,bb_,cp_,bf_,b3_,bv_,bg_,am_,ac_,b2_,bq_,ed_,bs_,ao_,as_,a2_,az_,ar_,c1_,dw_,d6_,ea_,d3_,b5_,b1_,fl_,fn_,fh_,fu_,fp_,fz_,fq_,fk_,fr_,ft_,f0_,c5_,bt_,bd_,c3_,ct_,cx_,cr_,cj_,cf_,ch_,an_,fb_,fe_,ff_,fc_,fd_,dy_,dt_,dv_,du_,dr_,ds_,cd_,a9_,a8_,a7_,ce_,cv_,fv_,d1_,Int.toNat_natCast,eh_,b9_,c7_,c6_,ej_,ei_,f3_,Nat.reduceAdd,Nat.reduceMul,Int.reduceNeg,Nat.reduceLeDiff,List.length_cons,List.length_nil,true_and,and_true,Nat.zero_add,eq_self,Nat.reduceEqDiff,Int.reduceAdd,Int.reduceSub,Int.reduceMul,not_true_eq_false,not_false_eq_true,Nat.reduceLT,Int.reduceEq,Int.reduceNe,Int.reduceLT,Int.reduceLE,or_true,or_false,and_self,and_false,false_and,false_implies,true_implies]
      repeat' (first | with_reducible refine And.intro ?_ ?_ | with_reducible intro _ | ((first | with_reducible refine w_Re_steepest_26 ?_ | with_reducible refine w_Re_steepest_32 ?_); simp (disch := omega) only [cm_,aq_,ay_,ag_,b8_,af_,ba_,bc_,bb_,cp_,bf_,b3_,bv_,bg_,am_,ac_,b2_,bq_,ed_,bs_,ao_,as_,a2_,az_,ar_,c1_,dw_,d6_,ea_,d3_,b5_,b1_,fl_,fn_,fh_,fu_,fp_,fz_,fq_,fk_,fr_,ft_,f0_,c5_,bt_,bd_,c3_,ct_,cx_,cr_,cj_,cf_,ch_,an_,fb_,fe_,ff_,fc_,fd_,dy_,dt_,dv_,du_,dr_,ds_,cd_,a9_,a8_,a7_,ce_,cv_,fv_,d1_,Int.toNat_natCast,eh_,b9_,c7_,c6_,ej_,ei_,f3_,Nat.reduceAdd,Nat.reduceMul,Int.reduceNeg,Nat.reduceLeDiff,List.length_cons,List.length_nil,true_and,and_true,Nat.zero_add,eq_self,Nat.reduceEqDiff,Int.reduceAdd,Int.reduceSub,Int.reduceMul,not_true_eq_false,not_false_eq_true,Nat.reduceLT,Int.reduceEq,Int.reduceNe,Int.reduceLT,Int.reduceLE,or_true,or_false,and_self,and_false,false_and,false_implies,true_implies]))
      all_goals first | omega | (rw [if_neg (by omega)] at step; exact step) | (rw [if_pos (by omega)] at step; exact step)
  have e1 : stp R 1 = 0 := by simp [stp]
  have := loop 11 1 rfl
  rw [e1] at this
  exact this
theorem con_firstTooSteep (hG : GR R) (hQ : Q (some (.int (zI (ftsN R (stN R (mask (isF R 1) (hb_ R)) 8) (kgN R) (12 - kgN R))))) (he_ h r R)) : Con M_Re_firstTooSteep [.ref r] (he_ h r R) Q := by
  have gk := hG.king
  have gg := hG.kg
  have gn := hG.nM
  have gl := hG.load
  have gm := mask_256 (isF R 1) gn.2
  have gt := stN_rng hG (mask (isF R 1) (hb_ R)) 8
  refine g8_ (L := [some (.ref r), none, none]) ok_Re_firstTooSteep (Nat.le_of_ble_eq_true rfl) rfl ?_
  refine w_Re_firstTooSteep_0 ?_
  simp (disch := omega) only [cm_,aq_,ay_,ag_,b8_,af_,ba_,bc_,bb_,cp_,bf_,b3_,bv_,bg_,am_,ac_,b2_,bq_,ed_,bs_,ao_,as_,a2_,az_,ar_,c1_,dw_,d6_,ea_,d3_,b5_,b1_,fl_,fn_,fh_,fu_,fp_,fz_,fq_,fk_,fr_,ft_,f0_,c5_,bt_,bd_,c3_,ct_,cx_,cr_,cj_,cf_,ch_,an_,fb_,fe_,ff_,fc_,fd_,dy_,dt_,dv_,du_,dr_,ds_,cd_,a9_,a8_,a7_,ce_,cv_,fv_,d1_,Int.toNat_natCast,eh_,b9_,c7_,c6_,ej_,ei_,f3_,Nat.reduceAdd,Nat.reduceMul,Int.reduceNeg,Nat.reduceLeDiff,List.length_cons,List.length_nil,true_and,and_true,Nat.zero_add,eq_self,Nat.reduceEqDiff,Int.reduceAdd,Int.reduceSub,Int.reduceMul,not_true_eq_false,not_false_eq_true,Nat.reduceLT,Int.reduceEq,Int.reduceNe,Int.reduceLT,Int.reduceLE,or_true,or_false,and_self,and_false,false_and,false_implies,true_implies]
  refine con_menWhoAre (by unfold inI; omega) hG ?_
  simp (disch := omega) only [cm_,aq_,ay_,ag_,b8_,af_,ba_,bc_,bb_,cp_,bf_,b3_,bv_,bg_,am_,ac_,b2_,bq_,ed_,bs_,ao_,as_,a2_,az_,ar_,c1_,dw_,d6_,ea_,d3_,b5_,b1_,fl_,fn_,fh_,fu_,fp_,fz_,fq_,fk_,fr_,ft_,f0_,c5_,bt_,bd_,c3_,ct_,cx_,cr_,cj_,cf_,ch_,an_,fb_,fe_,ff_,fc_,fd_,dy_,dt_,dv_,du_,dr_,ds_,cd_,a9_,a8_,a7_,ce_,cv_,fv_,d1_,Int.toNat_natCast,eh_,b9_,c7_,c6_,ej_,ei_,f3_,Nat.reduceAdd,Nat.reduceMul,Int.reduceNeg,Nat.reduceLeDiff,List.length_cons,List.length_nil,true_and,and_true,Nat.zero_add,eq_self,Nat.reduceEqDiff,Int.reduceAdd,Int.reduceSub,Int.reduceMul,not_true_eq_false,not_false_eq_true,Nat.reduceLT,Int.reduceEq,Int.reduceNe,Int.reduceLT,Int.reduceLE,or_true,or_false,and_self,and_false,false_and,false_implies,true_implies]
  refine con_strengthOf gm hG ?_
  simp (disch := omega) only [cm_,aq_,ay_,ag_,b8_,af_,ba_,bc_,bb_,cp_,bf_,b3_,bv_,bg_,am_,ac_,b2_,bq_,ed_,bs_,ao_,as_,a2_,az_,ar_,c1_,dw_,d6_,ea_,d3_,b5_,b1_,fl_,fn_,fh_,fu_,fp_,fz_,fq_,fk_,fr_,ft_,f0_,c5_,bt_,bd_,c3_,ct_,cx_,cr_,cj_,cf_,ch_,an_,fb_,fe_,ff_,fc_,fd_,dy_,dt_,dv_,du_,dr_,ds_,cd_,a9_,a8_,a7_,ce_,cv_,fv_,d1_,Int.toNat_natCast,eh_,b9_,c7_,c6_,ej_,ei_,f3_,Nat.reduceAdd,Nat.reduceMul,Int.reduceNeg,Nat.reduceLeDiff,List.length_cons,List.length_nil,true_and,and_true,Nat.zero_add,eq_self,Nat.reduceEqDiff,Int.reduceAdd,Int.reduceSub,Int.reduceMul,not_true_eq_false,not_false_eq_true,Nat.reduceLT,Int.reduceEq,Int.reduceNe,Int.reduceLT,Int.reduceLE,or_true,or_false,and_self,and_false,false_and,false_implies,true_implies,gg.2.2]
  generalize stN R (mask (isF R 1) (hb_ R)) 8 = t at hQ gt ⊢
  have loop : ∀ n i : Nat, i + n = 12 → ftsN R t i n = ftsN R t (kgN R) (12 - kgN R) → J M_Re_firstTooSteep 19 [some (.ref r), some (.int (zI t)), some (.int (zI i))] [] (he_ h r R) Q := by
    intro n
    induction n with
    | zero =>
      intro i hi ht
      have e : i = 12 := by omega
      subst e
      rw [← ht] at hQ
      refine w_Re_firstTooSteep_19 ?_
      simp (disch := omega) only [cm_,aq_,ay_,ag_,b8_,af_,ba_,bc_,bb_,cp_,bf_,b3_,bv_,bg_,am_,ac_,b2_,bq_,ed_,bs_,ao_,as_,a2_,az_,ar_,c1_,dw_,d6_,ea_,d3_,b5_,b1_,fl_,fn_,fh_,fu_,fp_,fz_,fq_,fk_,fr_,ft_,f0_,c5_,bt_,bd_,c3_,ct_,cx_,cr_,cj_,cf_,ch_,an_,fb_,fe_,ff_,fc_,fd_,dy_,dt_,dv_,du_,dr_,ds_,cd_,a9_,a8_,a7_,ce_,cv_,fv_,d1_,Int.toNat_natCast,eh_,b9_,c7_,c6_,ej_,ei_,f3_,Nat.reduceAdd,Nat.reduceMul,Int.reduceNeg,Nat.reduceLeDiff,List.length_cons,List.length_nil,true_and,and_true,Nat.zero_add,eq_self,Nat.reduceEqDiff,Int.reduceAdd,Int.reduceSub,Int.reduceMul,not_true_eq_false,not_false_eq_true,Nat.reduceLT,Int.reduceEq,Int.reduceNe,Int.reduceLT,Int.reduceLE,or_true,or_false,and_self,and_false,false_and,false_implies,true_implies]
      repeat' (first | with_reducible refine And.intro ?_ ?_ | with_reducible intro _ | ((first | with_reducible refine w_Re_firstTooSteep_42 ?_ | with_reducible refine w_Re_firstTooSteep_48 ?_); simp (disch := omega) only [cm_,aq_,ay_,ag_,b8_,af_,ba_,bc_,bb_,cp_,bf_,b3_,bv_,bg_,am_,ac_,b2_,bq_,ed_,bs_,ao_,as_,a2_,az_,ar_,c1_,dw_,d6_,ea_,d3_,b5_,b1_,fl_,fn_,fh_,fu_,fp_,fz_,fq_,fk_,fr_,ft_,f0_,c5_,bt_,bd_,c3_,ct_,cx_,cr_,cj_,cf_,ch_,an_,fb_,fe_,ff_,fc_,fd_,dy_,dt_,dv_,du_,dr_,ds_,cd_,a9_,a8_,a7_,ce_,cv_,fv_,d1_,Int.toNat_natCast,eh_,b9_,c7_,c6_,ej_,ei_,f3_,Nat.reduceAdd,Nat.reduceMul,Int.reduceNeg,Nat.reduceLeDiff,List.length_cons,List.length_nil,true_and,and_true,Nat.zero_add,eq_self,Nat.reduceEqDiff,Int.reduceAdd,Int.reduceSub,Int.reduceMul,not_true_eq_false,not_false_eq_true,Nat.reduceLT,Int.reduceEq,Int.reduceNe,Int.reduceLT,Int.reduceLE,or_true,or_false,and_self,and_false,false_and,false_implies,true_implies]))
      all_goals first | omega | exact hQ
    | succ n ih =>
      intro i hi ht
      have g1 := hG.sl i
      simp only [ftsN] at ht
      by_cases c : t < rLoad R + rSl R i
      · rw [if_pos c] at ht
        rw [← ht] at hQ
        refine w_Re_firstTooSteep_19 ?_
        simp (disch := omega) only [cm_,aq_,ay_,ag_,b8_,af_,ba_,bc_,bb_,cp_,bf_,b3_,bv_,bg_,am_,ac_,b2_,bq_,ed_,bs_,ao_,as_,a2_,az_,ar_,c1_,dw_,d6_,ea_,d3_,b5_,b1_,fl_,fn_,fh_,fu_,fp_,fz_,fq_,fk_,fr_,ft_,f0_,c5_,bt_,bd_,c3_,ct_,cx_,cr_,cj_,cf_,ch_,an_,fb_,fe_,ff_,fc_,fd_,dy_,dt_,dv_,du_,dr_,ds_,cd_,a9_,a8_,a7_,ce_,cv_,fv_,d1_,Int.toNat_natCast,eh_,b9_,c7_,c6_,ej_,ei_,f3_,Nat.reduceAdd,Nat.reduceMul,Int.reduceNeg,Nat.reduceLeDiff,List.length_cons,List.length_nil,true_and,and_true,Nat.zero_add,eq_self,Nat.reduceEqDiff,Int.reduceAdd,Int.reduceSub,Int.reduceMul,not_true_eq_false,not_false_eq_true,Nat.reduceLT,Int.reduceEq,Int.reduceNe,Int.reduceLT,Int.reduceLE,or_true,or_false,and_self,and_false,false_and,false_implies,true_implies]
        repeat' (first | with_reducible refine And.intro ?_ ?_ | with_reducible intro _ | ((first | with_reducible refine w_Re_firstTooSteep_42 ?_ | with_reducible refine w_Re_firstTooSteep_48 ?_); simp (disch := omega) only [cm_,aq_,ay_,ag_,b8_,af_,ba_,bc_,bb_,cp_,bf_,b3_,bv_,bg_,am_,ac_,b2_,bq_,ed_,bs_,ao_,as_,a2_,az_,ar_,c1_,dw_,d6_,ea_,d3_,b5_,b1_,fl_,fn_,fh_,fu_,fp_,fz_,fq_,fk_,fr_,ft_,f0_,c5_,bt_,bd_,c3_,ct_,cx_,cr_,cj_,cf_,ch_,an_,fb_,fe_,ff_,fc_,fd_,dy_,dt_,dv_,du_,dr_,ds_,cd_,a9_,a8_,a7_,ce_,cv_,fv_,d1_,Int.toNat_natCast,eh_,b9_,c7_,c6_,ej_,ei_,f3_,Nat.reduceAdd,Nat.reduceMul,Int.reduceNeg,Nat.reduceLeDiff,List.length_cons,List.length_nil,true_and,and_true,Nat.zero_add,eq_self,Nat.reduceEqDiff,Int.reduceAdd,Int.reduceSub,Int.reduceMul,not_true_eq_false,not_false_eq_true,Nat.reduceLT,Int.reduceEq,Int.reduceNe,Int.reduceLT,Int.reduceLE,or_true,or_false,and_self,and_false,false_and,false_implies,true_implies]))
        all_goals first | omega | exact hQ
      · rw [if_neg c] at ht
        have step := ih (i + 1) (by omega) ht
        refine w_Re_firstTooSteep_19 ?_
        simp (disch := omega) only [cm_,aq_,ay_,ag_,b8_,af_,ba_,bc_,bb_,cp_,bf_,b3_,bv_,bg_,am_,ac_,b2_,bq_,ed_,bs_,ao_,as_,a2_,az_,ar_,c1_,dw_,d6_,ea_,d3_,b5_,b1_,fl_,fn_,fh_,fu_,fp_,fz_,fq_,fk_,fr_,ft_,f0_,c5_,bt_,bd_,c3_,ct_,cx_,cr_,cj_,cf_,ch_,an_,fb_,fe_,ff_,fc_,fd_,dy_,dt_,dv_,du_,dr_,ds_,cd_,a9_,a8_,a7_,ce_,cv_,fv_,d1_,Int.toNat_natCast,eh_,b9_,c7_,c6_,ej_,ei_,f3_,Nat.reduceAdd,Nat.reduceMul,Int.reduceNeg,Nat.reduceLeDiff,List.length_cons,List.length_nil,true_and,and_true,Nat.zero_add,eq_self,Nat.reduceEqDiff,Int.reduceAdd,Int.reduceSub,Int.reduceMul,not_true_eq_false,not_false_eq_true,Nat.reduceLT,Int.reduceEq,Int.reduceNe,Int.reduceLT,Int.reduceLE,or_true,or_false,and_self,and_false,false_and,false_implies,true_implies]
        repeat' (first | with_reducible refine And.intro ?_ ?_ | with_reducible intro _ | ((first | with_reducible refine w_Re_firstTooSteep_42 ?_ | with_reducible refine w_Re_firstTooSteep_48 ?_); simp (disch := omega) only [cm_,aq_,ay_,ag_,b8_,af_,ba_,bc_,bb_,cp_,bf_,b3_,bv_,bg_,am_,ac_,b2_,bq_,ed_,bs_,ao_,as_,a2_,az_,ar_,c1_,dw_,d6_,ea_,d3_,b5_,b1_,fl_,fn_,fh_,fu_,fp_,fz_,fq_,fk_,fr_,ft_,f0_,c5_,bt_,bd_,c3_,ct_,cx_,cr_,cj_,cf_,ch_,an_,fb_,fe_,ff_,fc_,fd_,dy_,dt_,dv_,du_,dr_,ds_,cd_,a9_,a8_,a7_,ce_,cv_,fv_,d1_,Int.toNat_natCast,eh_,b9_,c7_,c6_,ej_,ei_,f3_,Nat.reduceAdd,Nat.reduceMul,Int.reduceNeg,Nat.reduceLeDiff,List.length_cons,List.length_nil,true_and,and_true,Nat.zero_add,eq_self,Nat.reduceEqDiff,Int.reduceAdd,Int.reduceSub,Int.reduceMul,not_true_eq_false,not_false_eq_true,Nat.reduceLT,Int.reduceEq,Int.reduceNe,Int.reduceLT,Int.reduceLE,or_true,or_false,and_self,and_false,false_and,false_implies,true_implies]))
        all_goals first | omega | exact step
  exact loop (12 - kgN R) _ (by omega) rfl
theorem owN_rng (R : RR) (v : Int) (b k n : Nat) : owN R v b k n = -9 ∨ ((k : Int) ≤ owN R v b k n ∧ owN R v b k n < k + n) := by
  induction n generalizing k with
  | zero => left; rfl
  | succ n ih =>
    simp only [owN]
    split
    · right; omega
    · have := ih (k + 1)
      omega
theorem con_oneWhoBears {v : Int} {b : Nat} (hv : inI v) (hb : b < 256) (hG : GR R) (hQ : Q (some (.int (zI (owN R v b 0 8)))) (he_ h r R)) : Con M_Re_oneWhoBears [.ref r, .int (zI v), .int (zI b)] (he_ h r R) Q := by
  obtain ⟨v1, v2⟩ := id hv
  refine g8_ (L := [some (.ref r), some (.int (zI v)), some (.int (zI b)), none]) ok_Re_oneWhoBears (Nat.le_of_ble_eq_true rfl) rfl ?_
  refine w_Re_oneWhoBears_0 ?_
  simp (disch := omega) only [cm_,aq_,ay_,ag_,b8_,af_,ba_,bc_,bb_,cp_,bf_,b3_,bv_,bg_,am_,ac_,b2_,bq_,ed_,bs_,ao_,as_,a2_,az_,ar_,c1_,dw_,d6_,ea_,d3_,b5_,b1_,fl_,fn_,fh_,fu_,fp_,fz_,fq_,fk_,fr_,ft_,f0_,c5_,bt_,bd_,c3_,ct_,cx_,cr_,cj_,cf_,ch_,an_,fb_,fe_,ff_,fc_,fd_,dy_,dt_,dv_,du_,dr_,ds_,cd_,a9_,a8_,a7_,ce_,cv_,fv_,d1_,Int.toNat_natCast,eh_,b9_,c7_,c6_,ej_,ei_,f3_,Nat.reduceAdd,Nat.reduceMul,Int.reduceNeg,Nat.reduceLeDiff,List.length_cons,List.length_nil,true_and,and_true,Nat.zero_add,eq_self,Nat.reduceEqDiff,Int.reduceAdd,Int.reduceSub,Int.reduceMul,not_true_eq_false,not_false_eq_true,Nat.reduceLT,Int.reduceEq,Int.reduceNe,Int.reduceLT,Int.reduceLE,or_true,or_false,and_self,and_false,false_and,false_implies,true_implies]
  have loop : ∀ n i : Nat, i + n = 8 → owN R v b i n = owN R v b 0 8 → J M_Re_oneWhoBears 2 [some (.ref r), some (.int (zI v)), some (.int (zI b)), some (.int (zI i))] [] (he_ h r R) Q := by
    intro n
    induction n with
    | zero =>
      intro i hi ht
      have e : i = 8 := by omega
      subst e
      rw [← ht] at hQ
      refine w_Re_oneWhoBears_2 ?_
      simp (disch := omega) only [cm_,aq_,ay_,ag_,b8_,af_,ba_,bc_,bb_,cp_,bf_,b3_,bv_,bg_,am_,ac_,b2_,bq_,ed_,bs_,ao_,as_,a2_,az_,ar_,c1_,dw_,d6_,ea_,d3_,b5_,b1_,fl_,fn_,fh_,fu_,fp_,fz_,fq_,fk_,fr_,ft_,f0_,c5_,bt_,bd_,c3_,ct_,cx_,cr_,cj_,cf_,ch_,an_,fb_,fe_,ff_,fc_,fd_,dy_,dt_,dv_,du_,dr_,ds_,cd_,a9_,a8_,a7_,ce_,cv_,fv_,d1_,Int.toNat_natCast,eh_,b9_,c7_,c6_,ej_,ei_,f3_,Nat.reduceAdd,Nat.reduceMul,Int.reduceNeg,Nat.reduceLeDiff,List.length_cons,List.length_nil,true_and,and_true,Nat.zero_add,eq_self,Nat.reduceEqDiff,Int.reduceAdd,Int.reduceSub,Int.reduceMul,not_true_eq_false,not_false_eq_true,Nat.reduceLT,Int.reduceEq,Int.reduceNe,Int.reduceLT,Int.reduceLE,or_true,or_false,and_self,and_false,false_and,false_implies,true_implies]
      repeat' (first | with_reducible refine And.intro ?_ ?_ | with_reducible intro _ | ((first | with_reducible refine w_Re_oneWhoBears_28 ?_ | with_reducible refine w_Re_oneWhoBears_34 ?_); simp (disch := omega) only [cm_,aq_,ay_,ag_,b8_,af_,ba_,bc_,bb_,cp_,bf_,b3_,bv_,bg_,am_,ac_,b2_,bq_,ed_,bs_,ao_,as_,a2_,az_,ar_,c1_,dw_,d6_,ea_,d3_,b5_,b1_,fl_,fn_,fh_,fu_,fp_,fz_,fq_,fk_,fr_,ft_,f0_,c5_,bt_,bd_,c3_,ct_,cx_,cr_,cj_,cf_,ch_,an_,fb_,fe_,ff_,fc_,fd_,dy_,dt_,dv_,du_,dr_,ds_,cd_,a9_,a8_,a7_,ce_,cv_,fv_,d1_,Int.toNat_natCast,eh_,b9_,c7_,c6_,ej_,ei_,f3_,Nat.reduceAdd,Nat.reduceMul,Int.reduceNeg,Nat.reduceLeDiff,List.length_cons,List.length_nil,true_and,and_true,Nat.zero_add,eq_self,Nat.reduceEqDiff,Int.reduceAdd,Int.reduceSub,Int.reduceMul,not_true_eq_false,not_false_eq_true,Nat.reduceLT,Int.reduceEq,Int.reduceNe,Int.reduceLT,Int.reduceLE,or_true,or_false,and_self,and_false,false_and,false_implies,true_implies]))
      all_goals first | omega | exact hQ
    | succ n ih =>
      intro i hi ht
      have gb := bears_rng hG i
      have hs : owN R v b i (n + 1) = if b.testBit i = true ∧ bears R i = v then (i : Int) else owN R v b (i + 1) n := rfl
      rw [hs] at ht
      by_cases c : b.testBit i = true ∧ bears R i = v
      · rw [if_pos c] at ht
        rw [← ht] at hQ
        refine w_Re_oneWhoBears_2 ?_
        simp (disch := omega) only [cm_,aq_,ay_,ag_,b8_,af_,ba_,bc_,bb_,cp_,bf_,b3_,bv_,bg_,am_,ac_,b2_,bq_,ed_,bs_,ao_,as_,a2_,az_,ar_,c1_,dw_,d6_,ea_,d3_,b5_,b1_,fl_,fn_,fh_,fu_,fp_,fz_,fq_,fk_,fr_,ft_,f0_,c5_,bt_,bd_,c3_,ct_,cx_,cr_,cj_,cf_,ch_,an_,fb_,fe_,ff_,fc_,fd_,dy_,dt_,dv_,du_,dr_,ds_,cd_,a9_,a8_,a7_,ce_,cv_,fv_,d1_,Int.toNat_natCast,eh_,b9_,c7_,c6_,ej_,ei_,f3_,Nat.reduceAdd,Nat.reduceMul,Int.reduceNeg,Nat.reduceLeDiff,List.length_cons,List.length_nil,true_and,and_true,Nat.zero_add,eq_self,Nat.reduceEqDiff,Int.reduceAdd,Int.reduceSub,Int.reduceMul,not_true_eq_false,not_false_eq_true,Nat.reduceLT,Int.reduceEq,Int.reduceNe,Int.reduceLT,Int.reduceLE,or_true,or_false,and_self,and_false,false_and,false_implies,true_implies]
        repeat' (first | with_reducible refine And.intro ?_ ?_ | with_reducible intro _ | ((first | with_reducible refine w_Re_oneWhoBears_28 ?_ | with_reducible refine w_Re_oneWhoBears_34 ?_ | (refine con_bears (by omega) hG ?_)); simp (disch := omega) only [cm_,aq_,ay_,ag_,b8_,af_,ba_,bc_,bb_,cp_,bf_,b3_,bv_,bg_,am_,ac_,b2_,bq_,ed_,bs_,ao_,as_,a2_,az_,ar_,c1_,dw_,d6_,ea_,d3_,b5_,b1_,fl_,fn_,fh_,fu_,fp_,fz_,fq_,fk_,fr_,ft_,f0_,c5_,bt_,bd_,c3_,ct_,cx_,cr_,cj_,cf_,ch_,an_,fb_,fe_,ff_,fc_,fd_,dy_,dt_,dv_,du_,dr_,ds_,cd_,a9_,a8_,a7_,ce_,cv_,fv_,d1_,Int.toNat_natCast,eh_,b9_,c7_,c6_,ej_,ei_,f3_,Nat.reduceAdd,Nat.reduceMul,Int.reduceNeg,Nat.reduceLeDiff,List.length_cons,List.length_nil,true_and,and_true,Nat.zero_add,eq_self,Nat.reduceEqDiff,Int.reduceAdd,Int.reduceSub,Int.reduceMul,not_true_eq_false,not_false_eq_true,Nat.reduceLT,Int.reduceEq,Int.reduceNe,Int.reduceLT,Int.reduceLE,or_true,or_false,and_self,and_false,false_and,false_implies,true_implies]))
        all_goals first | omega | exact hQ | (exact absurd c.1 (by assumption))
      · rw [if_neg c] at ht
        have step := ih (i + 1) (by omega) ht
        refine w_Re_oneWhoBears_2 ?_
        simp (disch := omega) only [cm_,aq_,ay_,ag_,b8_,af_,ba_,bc_,bb_,cp_,bf_,b3_,bv_,bg_,am_,ac_,b2_,bq_,ed_,bs_,ao_,as_,a2_,az_,ar_,c1_,dw_,d6_,ea_,d3_,b5_,b1_,fl_,fn_,fh_,fu_,fp_,fz_,fq_,fk_,fr_,ft_,f0_,c5_,bt_,bd_,c3_,ct_,cx_,cr_,cj_,cf_,ch_,an_,fb_,fe_,ff_,fc_,fd_,dy_,dt_,dv_,du_,dr_,ds_,cd_,a9_,a8_,a7_,ce_,cv_,fv_,d1_,Int.toNat_natCast,eh_,b9_,c7_,c6_,ej_,ei_,f3_,Nat.reduceAdd,Nat.reduceMul,Int.reduceNeg,Nat.reduceLeDiff,List.length_cons,List.length_nil,true_and,and_true,Nat.zero_add,eq_self,Nat.reduceEqDiff,Int.reduceAdd,Int.reduceSub,Int.reduceMul,not_true_eq_false,not_false_eq_true,Nat.reduceLT,Int.reduceEq,Int.reduceNe,Int.reduceLT,Int.reduceLE,or_true,or_false,and_self,and_false,false_and,false_implies,true_implies]
        repeat' (first | with_reducible refine And.intro ?_ ?_ | with_reducible intro _ | ((first | with_reducible refine w_Re_oneWhoBears_28 ?_ | with_reducible refine w_Re_oneWhoBears_34 ?_ | (refine con_bears (by omega) hG ?_)); simp (disch := omega) only [cm_,aq_,ay_,ag_,b8_,af_,ba_,bc_,bb_,cp_,bf_,b3_,bv_,bg_,am_,ac_,b2_,bq_,ed_,bs_,ao_,as_,a2_,az_,ar_,c1_,dw_,d6_,ea_,d3_,b5_,b1_,fl_,fn_,fh_,fu_,fp_,fz_,fq_,fk_,fr_,ft_,f0_,c5_,bt_,bd_,c3_,ct_,cx_,cr_,cj_,cf_,ch_,an_,fb_,fe_,ff_,fc_,fd_,dy_,dt_,dv_,du_,dr_,ds_,cd_,a9_,a8_,a7_,ce_,cv_,fv_,d1_,Int.toNat_natCast,eh_,b9_,c7_,c6_,ej_,ei_,f3_,Nat.reduceAdd,Nat.reduceMul,Int.reduceNeg,Nat.reduceLeDiff,List.length_cons,List.length_nil,true_and,and_true,Nat.zero_add,eq_self,Nat.reduceEqDiff,Int.reduceAdd,Int.reduceSub,Int.reduceMul,not_true_eq_false,not_false_eq_true,Nat.reduceLT,Int.reduceEq,Int.reduceNe,Int.reduceLT,Int.reduceLE,or_true,or_false,and_self,and_false,false_and,false_implies,true_implies]))
        all_goals first | omega | exact step | (exact absurd ⟨by simp_all, by omega⟩ c)
  exact loop 8 0 rfl rfl
theorem twsN_rng {R : RR} (n : Nat) (hn : n ≤ 8) : (twsN R n).1 < 256 ∧ 0 ≤ (twsN R n).2 ∧ (twsN R n).2 ≤ n := by
  induction n with
  | zero => simp [twsN]
  | succ n ih =>
    have ih := ih (by omega)
    simp only [twsN]
    split
    · split
      · exact ⟨or_256 ih.1 (by omega), by omega, by omega⟩
      · exact ⟨anb_256 ih.1, by show 0 ≤ (twsN R n).2 + 1; omega, by show (twsN R n).2 + 1 ≤ _; omega⟩
    · omega
theorem con_twosInStep (hG : GR R) (hQ : Q (some (.int (zI (twsN R (hb_ R)).2))) (he_ h r R)) : Con M_Re_twosInStep [.ref r] (he_ h r R) Q := by
  have gm := hG.men
  have gn := hG.nM
  refine g8_ (L := [some (.ref r), none, none, none, none]) ok_Re_twosInStep (Nat.le_of_ble_eq_true rfl) rfl ?_
  refine w_Re_twosInStep_0 ?_
  simp (disch := omega) only [cm_,aq_,ay_,ag_,b8_,af_,ba_,bc_,bb_,cp_,bf_,b3_,bv_,bg_,am_,ac_,b2_,bq_,ed_,bs_,ao_,as_,a2_,az_,ar_,c1_,dw_,d6_,ea_,d3_,b5_,b1_,fl_,fn_,fh_,fu_,fp_,fz_,fq_,fk_,fr_,ft_,f0_,c5_,bt_,bd_,c3_,ct_,cx_,cr_,cj_,cf_,ch_,an_,fb_,fe_,ff_,fc_,fd_,dy_,dt_,dv_,du_,dr_,ds_,cd_,a9_,a8_,a7_,ce_,cv_,fv_,d1_,Int.toNat_natCast,eh_,b9_,c7_,c6_,ej_,ei_,f3_,Nat.reduceAdd,Nat.reduceMul,Int.reduceNeg,Nat.reduceLeDiff,List.length_cons,List.length_nil,true_and,and_true,Nat.zero_add,eq_self,Nat.reduceEqDiff,Int.reduceAdd,Int.reduceSub,Int.reduceMul,not_true_eq_false,not_false_eq_true,Nat.reduceLT,Int.reduceEq,Int.reduceNe,Int.reduceLT,Int.reduceLE,or_true,or_false,and_self,and_false,false_and,false_implies,true_implies]
  have loop : ∀ n i : Nat, i + n = hb_ R → ∀ x4 : Option Value, J M_Re_twosInStep 6 [some (.ref r), some (.int (zI (twsN R i).1)), some (.int (zI (twsN R i).2)), some (.int (zI i)), x4] [] (he_ h r R) Q := by
    intro n
    induction n with
    | zero =>
      intro i hi x4
      have e : i = hb_ R := by omega
      subst e
      refine w_Re_twosInStep_6 ?_
      simp (disch := omega) only [cm_,aq_,ay_,ag_,b8_,af_,ba_,bc_,bb_,cp_,bf_,b3_,bv_,bg_,am_,ac_,b2_,bq_,ed_,bs_,ao_,as_,a2_,az_,ar_,c1_,dw_,d6_,ea_,d3_,b5_,b1_,fl_,fn_,fh_,fu_,fp_,fz_,fq_,fk_,fr_,ft_,f0_,c5_,bt_,bd_,c3_,ct_,cx_,cr_,cj_,cf_,ch_,an_,fb_,fe_,ff_,fc_,fd_,dy_,dt_,dv_,du_,dr_,ds_,cd_,a9_,a8_,a7_,ce_,cv_,fv_,d1_,Int.toNat_natCast,eh_,b9_,c7_,c6_,ej_,ei_,f3_,Nat.reduceAdd,Nat.reduceMul,Int.reduceNeg,Nat.reduceLeDiff,List.length_cons,List.length_nil,true_and,and_true,Nat.zero_add,eq_self,Nat.reduceEqDiff,Int.reduceAdd,Int.reduceSub,Int.reduceMul,not_true_eq_false,not_false_eq_true,Nat.reduceLT,Int.reduceEq,Int.reduceNe,Int.reduceLT,Int.reduceLE,or_true,or_false,and_self,and_false,false_and,false_implies,true_implies]
      repeat' (first | with_reducible refine And.intro ?_ ?_ | with_reducible intro _ | ((first | with_reducible refine w_Re_twosInStep_56 ?_ | with_reducible refine w_Re_twosInStep_68 ?_ | with_reducible refine w_Re_twosInStep_74 ?_); simp (disch := omega) only [cm_,aq_,ay_,ag_,b8_,af_,ba_,bc_,bb_,cp_,bf_,b3_,bv_,bg_,am_,ac_,b2_,bq_,ed_,bs_,ao_,as_,a2_,az_,ar_,c1_,dw_,d6_,ea_,d3_,b5_,b1_,fl_,fn_,fh_,fu_,fp_,fz_,fq_,fk_,fr_,ft_,f0_,c5_,bt_,bd_,c3_,ct_,cx_,cr_,cj_,cf_,ch_,an_,fb_,fe_,ff_,fc_,fd_,dy_,dt_,dv_,du_,dr_,ds_,cd_,a9_,a8_,a7_,ce_,cv_,fv_,d1_,Int.toNat_natCast,eh_,b9_,c7_,c6_,ej_,ei_,f3_,Nat.reduceAdd,Nat.reduceMul,Int.reduceNeg,Nat.reduceLeDiff,List.length_cons,List.length_nil,true_and,and_true,Nat.zero_add,eq_self,Nat.reduceEqDiff,Int.reduceAdd,Int.reduceSub,Int.reduceMul,not_true_eq_false,not_false_eq_true,Nat.reduceLT,Int.reduceEq,Int.reduceNe,Int.reduceLT,Int.reduceLE,or_true,or_false,and_self,and_false,false_and,false_implies,true_implies]))
      all_goals first | omega | exact hQ
    | succ n ih =>
      intro i hi x4
      have em : (i : Int) < rMen R := by omega
      have gf := hG.fa i
      have gb := bears_rng hG i
      have gt := twsN_rng (R := R) i (by omega)
      have gw := owN_rng R (bears R i) (twsN R i).1 0 8
      have step := ih (i + 1) (by omega)
      simp only [twsN] at step
      refine w_Re_twosInStep_6 ?_
      simp (disch := omega) only [cm_,aq_,ay_,ag_,b8_,af_,ba_,bc_,bb_,cp_,bf_,b3_,bv_,bg_,am_,ac_,b2_,bq_,ed_,bs_,ao_,as_,a2_,az_,ar_,c1_,dw_,d6_,ea_,d3_,b5_,b1_,fl_,fn_,fh_,fu_,fp_,fz_,fq_,fk_,fr_,ft_,f0_,c5_,bt_,bd_,c3_,ct_,cx_,cr_,cj_,cf_,ch_,an_,fb_,fe_,ff_,fc_,fd_,dy_,dt_,dv_,du_,dr_,ds_,cd_,a9_,a8_,a7_,ce_,cv_,fv_,d1_,Int.toNat_natCast,eh_,b9_,c7_,c6_,ej_,ei_,f3_,Nat.reduceAdd,Nat.reduceMul,Int.reduceNeg,Nat.reduceLeDiff,List.length_cons,List.length_nil,true_and,and_true,Nat.zero_add,eq_self,Nat.reduceEqDiff,Int.reduceAdd,Int.reduceSub,Int.reduceMul,not_true_eq_false,not_false_eq_true,Nat.reduceLT,Int.reduceEq,Int.reduceNe,Int.reduceLT,Int.reduceLE,or_true,or_false,and_self,and_false,false_and,false_implies,true_implies]
      refine ⟨fun _ => by omega, fun _ => ⟨fun _ => by omega, fun _ => ⟨by omega, fun c => ?_, fun c => ?_⟩⟩⟩
      · rw [if_neg c] at step
        refine w_Re_twosInStep_68 ?_
        simp (disch := omega) only [cm_,aq_,ay_,ag_,b8_,af_,ba_,bc_,bb_,cp_,bf_,b3_,bv_,bg_,am_,ac_,b2_,bq_,ed_,bs_,ao_,as_,a2_,az_,ar_,c1_,dw_,d6_,ea_,d3_,b5_,b1_,fl_,fn_,fh_,fu_,fp_,fz_,fq_,fk_,fr_,ft_,f0_,c5_,bt_,bd_,c3_,ct_,cx_,cr_,cj_,cf_,ch_,an_,fb_,fe_,ff_,fc_,fd_,dy_,dt_,dv_,du_,dr_,ds_,cd_,a9_,a8_,a7_,ce_,cv_,fv_,d1_,Int.toNat_natCast,eh_,b9_,c7_,c6_,ej_,ei_,f3_,Nat.reduceAdd,Nat.reduceMul,Int.reduceNeg,Nat.reduceLeDiff,List.length_cons,List.length_nil,true_and,and_true,Nat.zero_add,eq_self,Nat.reduceEqDiff,Int.reduceAdd,Int.reduceSub,Int.reduceMul,not_true_eq_false,not_false_eq_true,Nat.reduceLT,Int.reduceEq,Int.reduceNe,Int.reduceLT,Int.reduceLE,or_true,or_false,and_self,and_false,false_and,false_implies,true_implies]
        exact step _
      · rw [if_pos (by omega)] at step
        refine con_bears (by omega) hG ?_
        simp (disch := omega) only [cm_,aq_,ay_,ag_,b8_,af_,ba_,bc_,bb_,cp_,bf_,b3_,bv_,bg_,am_,ac_,b2_,bq_,ed_,bs_,ao_,as_,a2_,az_,ar_,c1_,dw_,d6_,ea_,d3_,b5_,b1_,fl_,fn_,fh_,fu_,fp_,fz_,fq_,fk_,fr_,ft_,f0_,c5_,bt_,bd_,c3_,ct_,cx_,cr_,cj_,cf_,ch_,an_,fb_,fe_,ff_,fc_,fd_,dy_,dt_,dv_,du_,dr_,ds_,cd_,a9_,a8_,a7_,ce_,cv_,fv_,d1_,Int.toNat_natCast,eh_,b9_,c7_,c6_,ej_,ei_,f3_,Nat.reduceAdd,Nat.reduceMul,Int.reduceNeg,Nat.reduceLeDiff,List.length_cons,List.length_nil,true_and,and_true,Nat.zero_add,eq_self,Nat.reduceEqDiff,Int.reduceAdd,Int.reduceSub,Int.reduceMul,not_true_eq_false,not_false_eq_true,Nat.reduceLT,Int.reduceEq,Int.reduceNe,Int.reduceLT,Int.reduceLE,or_true,or_false,and_self,and_false,false_and,false_implies,true_implies]
        refine con_oneWhoBears (by unfold inI; omega) gt.1 hG ?_
        simp (disch := omega) only [cm_,aq_,ay_,ag_,b8_,af_,ba_,bc_,bb_,cp_,bf_,b3_,bv_,bg_,am_,ac_,b2_,bq_,ed_,bs_,ao_,as_,a2_,az_,ar_,c1_,dw_,d6_,ea_,d3_,b5_,b1_,fl_,fn_,fh_,fu_,fp_,fz_,fq_,fk_,fr_,ft_,f0_,c5_,bt_,bd_,c3_,ct_,cx_,cr_,cj_,cf_,ch_,an_,fb_,fe_,ff_,fc_,fd_,dy_,dt_,dv_,du_,dr_,ds_,cd_,a9_,a8_,a7_,ce_,cv_,fv_,d1_,Int.toNat_natCast,eh_,b9_,c7_,c6_,ej_,ei_,f3_,Nat.reduceAdd,Nat.reduceMul,Int.reduceNeg,Nat.reduceLeDiff,List.length_cons,List.length_nil,true_and,and_true,Nat.zero_add,eq_self,Nat.reduceEqDiff,Int.reduceAdd,Int.reduceSub,Int.reduceMul,not_true_eq_false,not_false_eq_true,Nat.reduceLT,Int.reduceEq,Int.reduceNe,Int.reduceLT,Int.reduceLE,or_true,or_false,and_self,and_false,false_and,false_implies,true_implies]
        repeat' (first | with_reducible refine And.intro ?_ ?_ | with_reducible intro _ | ((first | with_reducible refine w_Re_twosInStep_56 ?_ | with_reducible refine w_Re_twosInStep_68 ?_ | with_reducible refine w_Re_twosInStep_74 ?_); simp (disch := omega) only [cm_,aq_,ay_,ag_,b8_,af_,ba_,bc_,bb_,cp_,bf_,b3_,bv_,bg_,am_,ac_,b2_,bq_,ed_,bs_,ao_,as_,a2_,az_,ar_,c1_,dw_,d6_,ea_,d3_,b5_,b1_,fl_,fn_,fh_,fu_,fp_,fz_,fq_,fk_,fr_,ft_,f0_,c5_,bt_,bd_,c3_,ct_,cx_,cr_,cj_,cf_,ch_,an_,fb_,fe_,ff_,fc_,fd_,dy_,dt_,dv_,du_,dr_,ds_,cd_,a9_,a8_,a7_,ce_,cv_,fv_,d1_,Int.toNat_natCast,eh_,b9_,c7_,c6_,ej_,ei_,f3_,Nat.reduceAdd,Nat.reduceMul,Int.reduceNeg,Nat.reduceLeDiff,List.length_cons,List.length_nil,true_and,and_true,Nat.zero_add,eq_self,Nat.reduceEqDiff,Int.reduceAdd,Int.reduceSub,Int.reduceMul,not_true_eq_false,not_false_eq_true,Nat.reduceLT,Int.reduceEq,Int.reduceNe,Int.reduceLT,Int.reduceLE,or_true,or_false,and_self,and_false,false_and,false_implies,true_implies]))
        all_goals first | omega | (rw [if_neg (by omega)] at step; exact step _) | (rw [if_pos (by omega)] at step; exact step _)
  exact loop _ 0 (Nat.zero_add _) none
theorem con_howManyOwe (hG : GR R) (hQ : Q (some (.int (zI (cntN (fun k => decide (rFa R k = 1 ∧ 0 < rWo R k)) (hb_ R))))) (he_ h r R)) : Con M_Re_howManyOwe [.ref r] (he_ h r R) Q := by
  have gm := hG.men
  have gn := hG.nM
  refine g8_ (L := [some (.ref r), none, none]) ok_Re_howManyOwe (Nat.le_of_ble_eq_true rfl) rfl ?_
  refine w_Re_howManyOwe_0 ?_
  simp (disch := omega) only [cm_,aq_,ay_,ag_,b8_,af_,ba_,bc_,bb_,cp_,bf_,b3_,bv_,bg_,am_,ac_,b2_,bq_,ed_,bs_,ao_,as_,a2_,az_,ar_,c1_,dw_,d6_,ea_,d3_,b5_,b1_,fl_,fn_,fh_,fu_,fp_,fz_,fq_,fk_,fr_,ft_,f0_,c5_,bt_,bd_,c3_,ct_,cx_,cr_,cj_,cf_,ch_,an_,fb_,fe_,ff_,fc_,fd_,dy_,dt_,dv_,du_,dr_,ds_,cd_,a9_,a8_,a7_,ce_,cv_,fv_,d1_,Int.toNat_natCast,eh_,b9_,c7_,c6_,ej_,ei_,f3_,Nat.reduceAdd,Nat.reduceMul,Int.reduceNeg,Nat.reduceLeDiff,List.length_cons,List.length_nil,true_and,and_true,Nat.zero_add,eq_self,Nat.reduceEqDiff,Int.reduceAdd,Int.reduceSub,Int.reduceMul,not_true_eq_false,not_false_eq_true,Nat.reduceLT,Int.reduceEq,Int.reduceNe,Int.reduceLT,Int.reduceLE,or_true,or_false,and_self,and_false,false_and,false_implies,true_implies]
  have loop : ∀ n i : Nat, i + n = hb_ R → J M_Re_howManyOwe 4 [some (.ref r), some (.int (zI (cntN (fun k => decide (rFa R k = 1 ∧ 0 < rWo R k)) i))), some (.int (zI i))] [] (he_ h r R) Q := by
    intro n
    induction n with
    | zero =>
      intro i hi
      have e : i = hb_ R := by omega
      subst e
      refine w_Re_howManyOwe_4 ?_
      simp (disch := omega) only [cm_,aq_,ay_,ag_,b8_,af_,ba_,bc_,bb_,cp_,bf_,b3_,bv_,bg_,am_,ac_,b2_,bq_,ed_,bs_,ao_,as_,a2_,az_,ar_,c1_,dw_,d6_,ea_,d3_,b5_,b1_,fl_,fn_,fh_,fu_,fp_,fz_,fq_,fk_,fr_,ft_,f0_,c5_,bt_,bd_,c3_,ct_,cx_,cr_,cj_,cf_,ch_,an_,fb_,fe_,ff_,fc_,fd_,dy_,dt_,dv_,du_,dr_,ds_,cd_,a9_,a8_,a7_,ce_,cv_,fv_,d1_,Int.toNat_natCast,eh_,b9_,c7_,c6_,ej_,ei_,f3_,Nat.reduceAdd,Nat.reduceMul,Int.reduceNeg,Nat.reduceLeDiff,List.length_cons,List.length_nil,true_and,and_true,Nat.zero_add,eq_self,Nat.reduceEqDiff,Int.reduceAdd,Int.reduceSub,Int.reduceMul,not_true_eq_false,not_false_eq_true,Nat.reduceLT,Int.reduceEq,Int.reduceNe,Int.reduceLT,Int.reduceLE,or_true,or_false,and_self,and_false,false_and,false_implies,true_implies]
      repeat' (first | with_reducible refine And.intro ?_ ?_ | with_reducible intro _ | ((first | with_reducible refine w_Re_howManyOwe_40 ?_ | with_reducible refine w_Re_howManyOwe_46 ?_); simp (disch := omega) only [cm_,aq_,ay_,ag_,b8_,af_,ba_,bc_,bb_,cp_,bf_,b3_,bv_,bg_,am_,ac_,b2_,bq_,ed_,bs_,ao_,as_,a2_,az_,ar_,c1_,dw_,d6_,ea_,d3_,b5_,b1_,fl_,fn_,fh_,fu_,fp_,fz_,fq_,fk_,fr_,ft_,f0_,c5_,bt_,bd_,c3_,ct_,cx_,cr_,cj_,cf_,ch_,an_,fb_,fe_,ff_,fc_,fd_,dy_,dt_,dv_,du_,dr_,ds_,cd_,a9_,a8_,a7_,ce_,cv_,fv_,d1_,Int.toNat_natCast,eh_,b9_,c7_,c6_,ej_,ei_,f3_,Nat.reduceAdd,Nat.reduceMul,Int.reduceNeg,Nat.reduceLeDiff,List.length_cons,List.length_nil,true_and,and_true,Nat.zero_add,eq_self,Nat.reduceEqDiff,Int.reduceAdd,Int.reduceSub,Int.reduceMul,not_true_eq_false,not_false_eq_true,Nat.reduceLT,Int.reduceEq,Int.reduceNe,Int.reduceLT,Int.reduceLE,or_true,or_false,and_self,and_false,false_and,false_implies,true_implies]))
      all_goals first | omega | exact hQ
    | succ n ih =>
      intro i hi
      have em : (i : Int) < rMen R := by omega
      have gf := hG.fa i
      have gw := hG.wo i
      have step := ih (i + 1) (by omega)
      simp only [cntN, decide_eq_true_eq] at step
      refine w_Re_howManyOwe_4 ?_
      simp (disch := omega) only [cm_,aq_,ay_,ag_,b8_,af_,ba_,bc_,bb_,cp_,bf_,b3_,bv_,bg_,am_,ac_,b2_,bq_,ed_,bs_,ao_,as_,a2_,az_,ar_,c1_,dw_,d6_,ea_,d3_,b5_,b1_,fl_,fn_,fh_,fu_,fp_,fz_,fq_,fk_,fr_,ft_,f0_,c5_,bt_,bd_,c3_,ct_,cx_,cr_,cj_,cf_,ch_,an_,fb_,fe_,ff_,fc_,fd_,dy_,dt_,dv_,du_,dr_,ds_,cd_,a9_,a8_,a7_,ce_,cv_,fv_,d1_,Int.toNat_natCast,eh_,b9_,c7_,c6_,ej_,ei_,f3_,Nat.reduceAdd,Nat.reduceMul,Int.reduceNeg,Nat.reduceLeDiff,List.length_cons,List.length_nil,true_and,and_true,Nat.zero_add,eq_self,Nat.reduceEqDiff,Int.reduceAdd,Int.reduceSub,Int.reduceMul,not_true_eq_false,not_false_eq_true,Nat.reduceLT,Int.reduceEq,Int.reduceNe,Int.reduceLT,Int.reduceLE,or_true,or_false,and_self,and_false,false_and,false_implies,true_implies]
      repeat' (first | with_reducible refine And.intro ?_ ?_ | with_reducible intro _ | ((first | with_reducible refine w_Re_howManyOwe_40 ?_ | with_reducible refine w_Re_howManyOwe_46 ?_); simp (disch := omega) only [cm_,aq_,ay_,ag_,b8_,af_,ba_,bc_,bb_,cp_,bf_,b3_,bv_,bg_,am_,ac_,b2_,bq_,ed_,bs_,ao_,as_,a2_,az_,ar_,c1_,dw_,d6_,ea_,d3_,b5_,b1_,fl_,fn_,fh_,fu_,fp_,fz_,fq_,fk_,fr_,ft_,f0_,c5_,bt_,bd_,c3_,ct_,cx_,cr_,cj_,cf_,ch_,an_,fb_,fe_,ff_,fc_,fd_,dy_,dt_,dv_,du_,dr_,ds_,cd_,a9_,a8_,a7_,ce_,cv_,fv_,d1_,Int.toNat_natCast,eh_,b9_,c7_,c6_,ej_,ei_,f3_,Nat.reduceAdd,Nat.reduceMul,Int.reduceNeg,Nat.reduceLeDiff,List.length_cons,List.length_nil,true_and,and_true,Nat.zero_add,eq_self,Nat.reduceEqDiff,Int.reduceAdd,Int.reduceSub,Int.reduceMul,not_true_eq_false,not_false_eq_true,Nat.reduceLT,Int.reduceEq,Int.reduceNe,Int.reduceLT,Int.reduceLE,or_true,or_false,and_self,and_false,false_and,false_implies,true_implies]))
      all_goals first | omega | (rw [if_neg (by omega)] at step; exact step) | (rw [if_pos (by omega)] at step; exact step)
  exact loop _ 0 (Nat.zero_add _)
theorem con_pardonedOfKind {z : Int} (hz : inI z) (hG : GR R) (hQ : Q (some (.int (zI (cntN (fun k => decide (rFa R k = 1 ∧ rKi R k = z)) (hb_ R))))) (he_ h r R)) : Con M_Re_pardonedOfKind [.ref r, .int (zI z)] (he_ h r R) Q := by
  have gm := hG.men
  have gn := hG.nM
  obtain ⟨z1, z2⟩ := id hz
  refine g8_ (L := [some (.ref r), some (.int (zI z)), none, none]) ok_Re_pardonedOfKind (Nat.le_of_ble_eq_true rfl) rfl ?_
  refine w_Re_pardonedOfKind_0 ?_
  simp (disch := omega) only [cm_,aq_,ay_,ag_,b8_,af_,ba_,bc_,bb_,cp_,bf_,b3_,bv_,bg_,am_,ac_,b2_,bq_,ed_,bs_,ao_,as_,a2_,az_,ar_,c1_,dw_,d6_,ea_,d3_,b5_,b1_,fl_,fn_,fh_,fu_,fp_,fz_,fq_,fk_,fr_,ft_,f0_,c5_,bt_,bd_,c3_,ct_,cx_,cr_,cj_,cf_,ch_,an_,fb_,fe_,ff_,fc_,fd_,dy_,dt_,dv_,du_,dr_,ds_,cd_,a9_,a8_,a7_,ce_,cv_,fv_,d1_,Int.toNat_natCast,eh_,b9_,c7_,c6_,ej_,ei_,f3_,Nat.reduceAdd,Nat.reduceMul,Int.reduceNeg,Nat.reduceLeDiff,List.length_cons,List.length_nil,true_and,and_true,Nat.zero_add,eq_self,Nat.reduceEqDiff,Int.reduceAdd,Int.reduceSub,Int.reduceMul,not_true_eq_false,not_false_eq_true,Nat.reduceLT,Int.reduceEq,Int.reduceNe,Int.reduceLT,Int.reduceLE,or_true,or_false,and_self,and_false,false_and,false_implies,true_implies]
  have loop : ∀ n i : Nat, i + n = hb_ R → J M_Re_pardonedOfKind 4 [some (.ref r), some (.int (zI z)), some (.int (zI (cntN (fun k => decide (rFa R k = 1 ∧ rKi R k = z)) i))), some (.int (zI i))] [] (he_ h r R) Q := by
    intro n
    induction n with
    | zero =>
      intro i hi
      have e : i = hb_ R := by omega
      subst e
      refine w_Re_pardonedOfKind_4 ?_
      simp (disch := omega) only [cm_,aq_,ay_,ag_,b8_,af_,ba_,bc_,bb_,cp_,bf_,b3_,bv_,bg_,am_,ac_,b2_,bq_,ed_,bs_,ao_,as_,a2_,az_,ar_,c1_,dw_,d6_,ea_,d3_,b5_,b1_,fl_,fn_,fh_,fu_,fp_,fz_,fq_,fk_,fr_,ft_,f0_,c5_,bt_,bd_,c3_,ct_,cx_,cr_,cj_,cf_,ch_,an_,fb_,fe_,ff_,fc_,fd_,dy_,dt_,dv_,du_,dr_,ds_,cd_,a9_,a8_,a7_,ce_,cv_,fv_,d1_,Int.toNat_natCast,eh_,b9_,c7_,c6_,ej_,ei_,f3_,Nat.reduceAdd,Nat.reduceMul,Int.reduceNeg,Nat.reduceLeDiff,List.length_cons,List.length_nil,true_and,and_true,Nat.zero_add,eq_self,Nat.reduceEqDiff,Int.reduceAdd,Int.reduceSub,Int.reduceMul,not_true_eq_false,not_false_eq_true,Nat.reduceLT,Int.reduceEq,Int.reduceNe,Int.reduceLT,Int.reduceLE,or_true,or_false,and_self,and_false,false_and,false_implies,true_implies]
      repeat' (first | with_reducible refine And.intro ?_ ?_ | with_reducible intro _ | ((first | with_reducible refine w_Re_pardonedOfKind_41 ?_ | with_reducible refine w_Re_pardonedOfKind_47 ?_); simp (disch := omega) only [cm_,aq_,ay_,ag_,b8_,af_,ba_,bc_,bb_,cp_,bf_,b3_,bv_,bg_,am_,ac_,b2_,bq_,ed_,bs_,ao_,as_,a2_,az_,ar_,c1_,dw_,d6_,ea_,d3_,b5_,b1_,fl_,fn_,fh_,fu_,fp_,fz_,fq_,fk_,fr_,ft_,f0_,c5_,bt_,bd_,c3_,ct_,cx_,cr_,cj_,cf_,ch_,an_,fb_,fe_,ff_,fc_,fd_,dy_,dt_,dv_,du_,dr_,ds_,cd_,a9_,a8_,a7_,ce_,cv_,fv_,d1_,Int.toNat_natCast,eh_,b9_,c7_,c6_,ej_,ei_,f3_,Nat.reduceAdd,Nat.reduceMul,Int.reduceNeg,Nat.reduceLeDiff,List.length_cons,List.length_nil,true_and,and_true,Nat.zero_add,eq_self,Nat.reduceEqDiff,Int.reduceAdd,Int.reduceSub,Int.reduceMul,not_true_eq_false,not_false_eq_true,Nat.reduceLT,Int.reduceEq,Int.reduceNe,Int.reduceLT,Int.reduceLE,or_true,or_false,and_self,and_false,false_and,false_implies,true_implies]))
      all_goals first | omega | exact hQ
    | succ n ih =>
      intro i hi
      have em : (i : Int) < rMen R := by omega
      have gf := hG.fa i
      have gw := hG.ki i
      have step := ih (i + 1) (by omega)
      simp only [cntN, decide_eq_true_eq] at step
      refine w_Re_pardonedOfKind_4 ?_
      simp (disch := omega) only [cm_,aq_,ay_,ag_,b8_,af_,ba_,bc_,bb_,cp_,bf_,b3_,bv_,bg_,am_,ac_,b2_,bq_,ed_,bs_,ao_,as_,a2_,az_,ar_,c1_,dw_,d6_,ea_,d3_,b5_,b1_,fl_,fn_,fh_,fu_,fp_,fz_,fq_,fk_,fr_,ft_,f0_,c5_,bt_,bd_,c3_,ct_,cx_,cr_,cj_,cf_,ch_,an_,fb_,fe_,ff_,fc_,fd_,dy_,dt_,dv_,du_,dr_,ds_,cd_,a9_,a8_,a7_,ce_,cv_,fv_,d1_,Int.toNat_natCast,eh_,b9_,c7_,c6_,ej_,ei_,f3_,Nat.reduceAdd,Nat.reduceMul,Int.reduceNeg,Nat.reduceLeDiff,List.length_cons,List.length_nil,true_and,and_true,Nat.zero_add,eq_self,Nat.reduceEqDiff,Int.reduceAdd,Int.reduceSub,Int.reduceMul,not_true_eq_false,not_false_eq_true,Nat.reduceLT,Int.reduceEq,Int.reduceNe,Int.reduceLT,Int.reduceLE,or_true,or_false,and_self,and_false,false_and,false_implies,true_implies]
      repeat' (first | with_reducible refine And.intro ?_ ?_ | with_reducible intro _ | ((first | with_reducible refine w_Re_pardonedOfKind_41 ?_ | with_reducible refine w_Re_pardonedOfKind_47 ?_); simp (disch := omega) only [cm_,aq_,ay_,ag_,b8_,af_,ba_,bc_,bb_,cp_,bf_,b3_,bv_,bg_,am_,ac_,b2_,bq_,ed_,bs_,ao_,as_,a2_,az_,ar_,c1_,dw_,d6_,ea_,d3_,b5_,b1_,fl_,fn_,fh_,fu_,fp_,fz_,fq_,fk_,fr_,ft_,f0_,c5_,bt_,bd_,c3_,ct_,cx_,cr_,cj_,cf_,ch_,an_,fb_,fe_,ff_,fc_,fd_,dy_,dt_,dv_,du_,dr_,ds_,cd_,a9_,a8_,a7_,ce_,cv_,fv_,d1_,Int.toNat_natCast,eh_,b9_,c7_,c6_,ej_,ei_,f3_,Nat.reduceAdd,Nat.reduceMul,Int.reduceNeg,Nat.reduceLeDiff,List.length_cons,List.length_nil,true_and,and_true,Nat.zero_add,eq_self,Nat.reduceEqDiff,Int.reduceAdd,Int.reduceSub,Int.reduceMul,not_true_eq_false,not_false_eq_true,Nat.reduceLT,Int.reduceEq,Int.reduceNe,Int.reduceLT,Int.reduceLE,or_true,or_false,and_self,and_false,false_and,false_implies,true_implies]))
      all_goals first | omega | (rw [if_neg (by omega)] at step; exact step) | (rw [if_pos (by omega)] at step; exact step)
  exact loop _ 0 (Nat.zero_add _)
end C4
end
/-! become -/
section
/-! ===== one realm becomes as another ===== -/
theorem con_become {h : AH} {r r2 : Nat} {R R2 : RR} {Q : Option Value → AH → Prop} (hap : r + 5 < r2 ∨ r2 + 5 < r) (hQ : Q none (he_ (he_ h r2 R2) r R2)) : Con M_Re_become [.ref r, .ref r2] (he_ (he_ h r2 R2) r R) Q := by
  refine g8_ (L := [some (.ref r), some (.ref r2)]) ok_Re_become (Nat.le_of_ble_eq_true rfl) rfl ?_
  refine w_Re_become_0 ?_
  simp (disch := omega) only [ay_,af_,ac_,b2_,ab_,c4_,cn_,dw_,d6_,fl_,fn_,fu_,fz_,fq_,fk_,fr_,fo_,c3_,an_,fb_,fe_,ff_,fg_,fc_,fd_,dy_,d2_,d4_,ee_,eg_,d8_,dt_,dv_,du_,dr_,ds_,cd_,a9_,a8_,a7_,ce_,fv_,d1_,Int.toNat_natCast,Nat.reduceAdd,Nat.reduceMul,Int.reduceNeg,Nat.reduceLeDiff,List.length_cons,List.length_nil,true_and,Nat.zero_add,eq_self,Nat.reduceEqDiff,Int.reduceAdd,Int.reduceSub,Int.reduceMul,Nat.reduceLT,Int.reduceEq,Int.reduceNe,Int.reduceLT,Int.reduceLE]
  refine w_Re_become_5 ?_
  simp (disch := omega) only [ay_,af_,ac_,b2_,ab_,c4_,cn_,dw_,d6_,fl_,fn_,fu_,fz_,fq_,fk_,fr_,fo_,c3_,an_,fb_,fe_,ff_,fg_,fc_,fd_,dy_,d2_,d4_,ee_,eg_,d8_,dt_,dv_,du_,dr_,ds_,cd_,a9_,a8_,a7_,ce_,fv_,d1_,Int.toNat_natCast,Nat.reduceAdd,Nat.reduceMul,Int.reduceNeg,Nat.reduceLeDiff,List.length_cons,List.length_nil,true_and,Nat.zero_add,eq_self,Nat.reduceEqDiff,Int.reduceAdd,Int.reduceSub,Int.reduceMul,Nat.reduceLT,Int.reduceEq,Int.reduceNe,Int.reduceLT,Int.reduceLE,sR_o]
  exact hQ
end
/-! heapX -/
section
/-! ===== the class's object and all that it reaches, by numbers: realm i at 6 i (0 now, 1 mind, 2 image, 3 .. 10 what is kept, 11 the counsel's, 12 the chances'); 78 .. 89 the others ===== -/
def cellX (rs : Nat → RR) (pi : Nat → Nat) (psz : Int) (lt : Nat → Int) (lsz : Int) (tn : Nat → Int) (tsz : Int) (g1 g2 : Nat → Int) (sd : Int) (rf : Nat → Int) (im : Int) (k : Nat) : Option AC :=
  if k = 78 then some (.inr (.inr (6, [.ref 0, .ref 6, .ref 12, .ref 79, .ref 81, .ref 83, .ref 85, .ref 88, .ref 89, .int (zI im)])))
  else if k = 79 then some (.inr (.inr (3, [.ref 80, .int (zI psz)])))
  else if k = 80 then some (.inr (.inl (8, fun j => some (6 * (3 + pi j)))))
  else if k = 81 then some (.inr (.inr (2, [.ref 82, .int (zI lsz)])))
  else if k = 82 then some (.inl (96, fun j => zI (lt j)))
  else if k = 83 then some (.inr (.inr (5, [.ref 84, .int (zI tsz)])))
  else if k = 84 then some (.inl (12, fun j => zI (tn j)))
  else if k = 85 then some (.inr (.inr (1, [.ref 66, .ref 86, .ref 87])))
  else if k = 86 then some (.inl (4, fun j => zI (g1 j)))
  else if k = 87 then some (.inl (4, fun j => zI (g2 j)))
  else if k = 88 then some (.inr (.inr (0, [.ref 72, .int (zI sd)])))
  else if k = 89 then some (.inl (7, fun j => zI (rf j)))
  else he_ (fun _ => none) (6 * (k / 6)) (rs (k / 6)) k
def HX (rs : Nat → RR) (pi : Nat → Nat) (psz : Int) (lt : Nat → Int) (lsz : Int) (tn : Nat → Int) (tsz : Int) (g1 g2 : Nat → Int) (sd : Int) (rf : Nat → Int) (im : Int) (hM : AH) : AH := fun k =>
  if k < 90 then cellX rs pi psz lt lsz tn tsz g1 g2 sd rf im k else hM k
def upR (rs : Nat → RR) (i : Nat) (R : RR) : Nat → RR := fun j => if j = i then R else rs j
theorem et_ (rs : Nat → RR) (i : Nat) (R : RR) : upR rs i R i = R := by simp [upR]
theorem upR_n (rs : Nat → RR) {i j : Nat} (R : RR) (h : j ≠ i) : upR rs i R j = rs j := by simp [upR, h]
section HXS
variable {rs : Nat → RR} {pi : Nat → Nat} {psz : Int} {lt : Nat → Int} {lsz : Int} {tn : Nat → Int} {tsz : Int} {g1 g2 : Nat → Int} {sd : Int} {rf : Nat → Int} {im : Int} {hM : AH}
theorem eu_ : HX rs pi psz lt lsz tn tsz g1 g2 sd rf im hM 78 = some (.inr (.inr (6, [.ref 0, .ref 6, .ref 12, .ref 79, .ref 81, .ref 83, .ref 85, .ref 88, .ref 89, .int (zI im)]))) := by simp [HX, cellX]
theorem e3_ : HX rs pi psz lt lsz tn tsz g1 g2 sd rf im hM 79 = some (.inr (.inr (3, [.ref 80, .int (zI psz)]))) := by simp [HX, cellX]
theorem e2_ : HX rs pi psz lt lsz tn tsz g1 g2 sd rf im hM 80 = some (.inr (.inl (8, fun j => some (6 * (3 + pi j))))) := by simp [HX, cellX]
theorem e0_ : HX rs pi psz lt lsz tn tsz g1 g2 sd rf im hM 81 = some (.inr (.inr (2, [.ref 82, .int (zI lsz)]))) := by simp [HX, cellX]
theorem ev_ : HX rs pi psz lt lsz tn tsz g1 g2 sd rf im hM 82 = some (.inl (96, fun j => zI (lt j))) := by simp [HX, cellX]
theorem e1_ : HX rs pi psz lt lsz tn tsz g1 g2 sd rf im hM 83 = some (.inr (.inr (5, [.ref 84, .int (zI tsz)]))) := by simp [HX, cellX]
theorem e6_ : HX rs pi psz lt lsz tn tsz g1 g2 sd rf im hM 84 = some (.inl (12, fun j => zI (tn j))) := by simp [HX, cellX]
theorem e4_ : HX rs pi psz lt lsz tn tsz g1 g2 sd rf im hM 85 = some (.inr (.inr (1, [.ref 66, .ref 86, .ref 87]))) := by simp [HX, cellX]
theorem ex_ : HX rs pi psz lt lsz tn tsz g1 g2 sd rf im hM 86 = some (.inl (4, fun j => zI (g1 j))) := by simp [HX, cellX]
theorem e5_ : HX rs pi psz lt lsz tn tsz g1 g2 sd rf im hM 87 = some (.inl (4, fun j => zI (g2 j))) := by simp [HX, cellX]
theorem e9_ : HX rs pi psz lt lsz tn tsz g1 g2 sd rf im hM 88 = some (.inr (.inr (0, [.ref 72, .int (zI sd)]))) := by simp [HX, cellX]
theorem e7_ : HX rs pi psz lt lsz tn tsz g1 g2 sd rf im hM 89 = some (.inl (7, fun j => zI (rf j))) := by simp [HX, cellX]
theorem hX_R {i j : Nat} (hi : i < 13) (hj : j < 6) : HX rs pi psz lt lsz tn tsz g1 g2 sd rf im hM (6 * i + j) = he_ (fun _ => none) (6 * i) (rs i) (6 * i + j) := by
  have e : (6 * i + j) / 6 = i := by omega
  simp only [HX, cellX]
  rw [if_pos (by omega), if_neg (by omega), if_neg (by omega), if_neg (by omega), if_neg (by omega), if_neg (by omega), if_neg (by omega), if_neg (by omega), if_neg (by omega), if_neg (by omega), if_neg (by omega), if_neg (by omega), if_neg (by omega), e]
/-- a realm of it, taken in hand and put back -/
theorem hX_get {i : Nat} (hi : i < 13) : he_ (HX rs pi psz lt lsz tn tsz g1 g2 sd rf im hM) (6 * i) (rs i) = HX rs pi psz lt lsz tn tsz g1 g2 sd rf im hM := by
  funext k
  by_cases hk : 6 * i ≤ k ∧ k ≤ 6 * i + 5
  · obtain ⟨j, hj, rfl⟩ : ∃ j, j < 6 ∧ k = 6 * i + j := ⟨k - 6 * i, by omega, by omega⟩
    rw [hX_R hi hj]
    match j, hj with
    | 0, _ => rw [Nat.add_zero, fb_, fb_]
    | 1, _ => rw [fe_, fe_]
    | 2, _ => rw [ff_, ff_]
    | 3, _ => rw [fg_, fg_]
    | 4, _ => rw [fc_, fc_]
    | 5, _ => rw [fd_, fd_]
  · rw [sR_o (by omega)]
theorem hX_set {i : Nat} (hi : i < 13) {R : RR} : he_ (HX rs pi psz lt lsz tn tsz g1 g2 sd rf im hM) (6 * i) R = HX (upR rs i R) pi psz lt lsz tn tsz g1 g2 sd rf im hM := by
  rw [← hX_get (rs := upR rs i R) hi, et_]
  funext k
  by_cases hk : 6 * i ≤ k ∧ k ≤ 6 * i + 5
  · obtain ⟨j, hj, rfl⟩ : ∃ j, j < 6 ∧ k = 6 * i + j := ⟨k - 6 * i, by omega, by omega⟩
    match j, hj with
    | 0, _ => rw [Nat.add_zero, fb_, fb_]
    | 1, _ => rw [fe_, fe_]
    | 2, _ => rw [ff_, ff_]
    | 3, _ => rw [fg_, fg_]
    | 4, _ => rw [fc_, fc_]
    | 5, _ => rw [fd_, fd_]
  · rw [sR_o (by omega), sR_o (by omega)]
    simp only [HX, cellX]
    have e : upR rs i R (k / 6) = rs (k / 6) := upR_n _ _ (by omega)
    rw [e]
theorem gd_ : HX rs pi psz lt lsz tn tsz g1 g2 sd rf im hM 0 = some (.inr (.inr (4, [.ref 1, .ref 2, .ref 3, .ref 4, .ref 5, .int (zI (rMen (rs 0))), .int (zI (hd_ (rs 0))), .int (zI (rLoad (rs 0))), .int (zI (rSnow (rs 0))), .int (zI (hh_ (rs 0)))]))) := by
  have := hX_R (rs := rs) (pi := pi) (psz := psz) (lt := lt) (lsz := lsz) (tn := tn) (tsz := tsz) (g1 := g1) (g2 := g2) (sd := sd) (rf := rf) (im := im) (hM := hM) (i := 0) (j := 0) (by omega) (by omega)
  rw [this]
  exact fb_
theorem gc_ : HX rs pi psz lt lsz tn tsz g1 g2 sd rf im hM 6 = some (.inr (.inr (4, [.ref 7, .ref 8, .ref 9, .ref 10, .ref 11, .int (zI (rMen (rs 1))), .int (zI (hd_ (rs 1))), .int (zI (rLoad (rs 1))), .int (zI (rSnow (rs 1))), .int (zI (hh_ (rs 1)))]))) := by
  have := hX_R (rs := rs) (pi := pi) (psz := psz) (lt := lt) (lsz := lsz) (tn := tn) (tsz := tsz) (g1 := g1) (g2 := g2) (sd := sd) (rf := rf) (im := im) (hM := hM) (i := 1) (j := 0) (by omega) (by omega)
  rw [this]
  exact fb_
theorem ew_ : HX rs pi psz lt lsz tn tsz g1 g2 sd rf im hM 12 = some (.inr (.inr (4, [.ref 13, .ref 14, .ref 15, .ref 16, .ref 17, .int (zI (rMen (rs 2))), .int (zI (hd_ (rs 2))), .int (zI (rLoad (rs 2))), .int (zI (rSnow (rs 2))), .int (zI (hh_ (rs 2)))]))) := by
  have := hX_R (rs := rs) (pi := pi) (psz := psz) (lt := lt) (lsz := lsz) (tn := tn) (tsz := tsz) (g1 := g1) (g2 := g2) (sd := sd) (rf := rf) (im := im) (hM := hM) (i := 2) (j := 0) (by omega) (by omega)
  rw [this]
  exact fb_
theorem e8_ : HX rs pi psz lt lsz tn tsz g1 g2 sd rf im hM 66 = some (.inr (.inr (4, [.ref 67, .ref 68, .ref 69, .ref 70, .ref 71, .int (zI (rMen (rs 11))), .int (zI (hd_ (rs 11))), .int (zI (rLoad (rs 11))), .int (zI (rSnow (rs 11))), .int (zI (hh_ (rs 11)))]))) := by
  have := hX_R (rs := rs) (pi := pi) (psz := psz) (lt := lt) (lsz := lsz) (tn := tn) (tsz := tsz) (g1 := g1) (g2 := g2) (sd := sd) (rf := rf) (im := im) (hM := hM) (i := 11) (j := 0) (by omega) (by omega)
  rw [this]
  exact fb_
theorem fa_ : HX rs pi psz lt lsz tn tsz g1 g2 sd rf im hM 72 = some (.inr (.inr (4, [.ref 73, .ref 74, .ref 75, .ref 76, .ref 77, .int (zI (rMen (rs 12))), .int (zI (hd_ (rs 12))), .int (zI (rLoad (rs 12))), .int (zI (rSnow (rs 12))), .int (zI (hh_ (rs 12)))]))) := by
  have := hX_R (rs := rs) (pi := pi) (psz := psz) (lt := lt) (lsz := lsz) (tn := tn) (tsz := tsz) (g1 := g1) (g2 := g2) (sd := sd) (rf := rf) (im := im) (hM := hM) (i := 12) (j := 0) (by omega) (by omega)
  rw [this]
  exact fb_
/-- a kept one -/
theorem hX_K {i : Nat} (hi : i < 8) : HX rs pi psz lt lsz tn tsz g1 g2 sd rf im hM (6 * (3 + i)) = some (.inr (.inr (4, [.ref (6 * (3 + i) + 1), .ref (6 * (3 + i) + 2), .ref (6 * (3 + i) + 3), .ref (6 * (3 + i) + 4), .ref (6 * (3 + i) + 5), .int (zI (rMen (rs (3 + i)))), .int (zI (hd_ (rs (3 + i)))), .int (zI (rLoad (rs (3 + i)))), .int (zI (rSnow (rs (3 + i)))), .int (zI (hh_ (rs (3 + i))))]))) := by
  have := hX_R (rs := rs) (pi := pi) (psz := psz) (lt := lt) (lsz := lsz) (tn := tn) (tsz := tsz) (g1 := g1) (g2 := g2) (sd := sd) (rf := rf) (im := im) (hM := hM) (i := 3 + i) (j := 0) (by omega) (by omega)
  rw [Nat.add_zero] at this
  rw [this]
  exact fb_
theorem dd_ {x : Int} : hU (HX rs pi psz lt lsz tn tsz g1 g2 sd rf im hM) 78 (.inr (.inr (6, [.ref 0, .ref 6, .ref 12, .ref 79, .ref 81, .ref 83, .ref 85, .ref 88, .ref 89, .int (zI x)]))) = HX rs pi psz lt lsz tn tsz g1 g2 sd rf x hM := by
  funext k
  by_cases e : k = 78
  · subst e; simp [hU, HX, cellX]
  · simp only [hU, if_neg e, HX, cellX]
theorem db_ {x : Int} : hU (HX rs pi psz lt lsz tn tsz g1 g2 sd rf im hM) 79 (.inr (.inr (3, [.ref 80, .int (zI x)]))) = HX rs pi x lt lsz tn tsz g1 g2 sd rf im hM := by
  funext k
  by_cases e : k = 79
  · subst e; simp [hU, HX, cellX]
  · simp only [hU, if_neg e, HX, cellX]
theorem dh_ {x : Int} : hU (HX rs pi psz lt lsz tn tsz g1 g2 sd rf im hM) 81 (.inr (.inr (2, [.ref 82, .int (zI x)]))) = HX rs pi psz lt x tn tsz g1 g2 sd rf im hM := by
  funext k
  by_cases e : k = 81
  · subst e; simp [hU, HX, cellX]
  · simp only [hU, if_neg e, HX, cellX]
theorem dp_ {x : Nat → Int} : hU (HX rs pi psz lt lsz tn tsz g1 g2 sd rf im hM) 82 (.inl (96, fun j => zI (x j))) = HX rs pi psz x lsz tn tsz g1 g2 sd rf im hM := by
  funext k
  by_cases e : k = 82
  · subst e; simp [hU, HX, cellX]
  · simp only [hU, if_neg e, HX, cellX]
theorem dk_ {x : Int} : hU (HX rs pi psz lt lsz tn tsz g1 g2 sd rf im hM) 83 (.inr (.inr (5, [.ref 84, .int (zI x)]))) = HX rs pi psz lt lsz tn x g1 g2 sd rf im hM := by
  funext k
  by_cases e : k = 83
  · subst e; simp [hU, HX, cellX]
  · simp only [hU, if_neg e, HX, cellX]
theorem dl_ {x : Nat → Int} : hU (HX rs pi psz lt lsz tn tsz g1 g2 sd rf im hM) 84 (.inl (12, fun j => zI (x j))) = HX rs pi psz lt lsz x tsz g1 g2 sd rf im hM := by
  funext k
  by_cases e : k = 84
  · subst e; simp [hU, HX, cellX]
  · simp only [hU, if_neg e, HX, cellX]
theorem dg_ {x : Nat → Int} : hU (HX rs pi psz lt lsz tn tsz g1 g2 sd rf im hM) 86 (.inl (4, fun j => zI (x j))) = HX rs pi psz lt lsz tn tsz x g2 sd rf im hM := by
  funext k
  by_cases e : k = 86
  · subst e; simp [hU, HX, cellX]
  · simp only [hU, if_neg e, HX, cellX]
theorem dc_ {x : Nat → Int} : hU (HX rs pi psz lt lsz tn tsz g1 g2 sd rf im hM) 87 (.inl (4, fun j => zI (x j))) = HX rs pi psz lt lsz tn tsz g1 x sd rf im hM := by
  funext k
  by_cases e : k = 87
  · subst e; simp [hU, HX, cellX]
  · simp only [hU, if_neg e, HX, cellX]
theorem dq_ {x : Int} : hU (HX rs pi psz lt lsz tn tsz g1 g2 sd rf im hM) 88 (.inr (.inr (0, [.ref 72, .int (zI x)]))) = HX rs pi psz lt lsz tn tsz g1 g2 x rf im hM := by
  funext k
  by_cases e : k = 88
  · subst e; simp [hU, HX, cellX]
  · simp only [hU, if_neg e, HX, cellX]
theorem de_ {x : Nat → Int} : hU (HX rs pi psz lt lsz tn tsz g1 g2 sd rf im hM) 89 (.inl (7, fun j => zI (x j))) = HX rs pi psz lt lsz tn tsz g1 g2 sd x im hM := by
  funext k
  by_cases e : k = 89
  · subst e; simp [hU, HX, cellX]
  · simp only [hU, if_neg e, HX, cellX]
theorem hUX_80 {x : Nat → Nat} : hU (HX rs pi psz lt lsz tn tsz g1 g2 sd rf im hM) 80 (.inr (.inl (8, fun j => some (6 * (3 + x j))))) = HX rs x psz lt lsz tn tsz g1 g2 sd rf im hM := by
  funext k
  by_cases e : k = 80
  · subst e; simp [hU, HX, cellX]
  · simp only [hU, if_neg e, HX, cellX]
theorem up_pi (i v : Nat) : va_up (fun j => some (6 * (3 + pi j))) i (some (6 * (3 + v))) = fun j => some (6 * (3 + (if j = i then v else pi j))) := by
  funext j
  simp only [va_up]
  split <;> rfl
theorem hUX_r0 {i : Nat} (hi : i < 13) {a b c d e : Int} : hU (HX rs pi psz lt lsz tn tsz g1 g2 sd rf im hM) (6 * i) (.inr (.inr (4, [.ref (6 * i + 1), .ref (6 * i + 2), .ref (6 * i + 3), .ref (6 * i + 4), .ref (6 * i + 5), .int (zI a), .int (zI b), .int (zI c), .int (zI d), .int (zI e)]))) = HX (upR rs i (mkR (rSl (rs i)) (rKi (rs i)) (rFi (rs i)) (rFa (rs i)) (rWo (rs i)) a b c d e)) pi psz lt lsz tn tsz g1 g2 sd rf im hM := by
  rw [← hX_set hi, ← dy_, hX_get hi]
theorem cb_ {a b c d e : Int} : hU (HX rs pi psz lt lsz tn tsz g1 g2 sd rf im hM) 0 (.inr (.inr (4, [.ref 1, .ref 2, .ref 3, .ref 4, .ref 5, .int (zI a), .int (zI b), .int (zI c), .int (zI d), .int (zI e)]))) = HX (upR rs 0 (mkR (rSl (rs 0)) (rKi (rs 0)) (rFi (rs 0)) (rFa (rs 0)) (rWo (rs 0)) a b c d e)) pi psz lt lsz tn tsz g1 g2 sd rf im hM := hUX_r0 (i := 0) (by omega)
theorem ca_ {a b c d e : Int} : hU (HX rs pi psz lt lsz tn tsz g1 g2 sd rf im hM) 6 (.inr (.inr (4, [.ref 7, .ref 8, .ref 9, .ref 10, .ref 11, .int (zI a), .int (zI b), .int (zI c), .int (zI d), .int (zI e)]))) = HX (upR rs 1 (mkR (rSl (rs 1)) (rKi (rs 1)) (rFi (rs 1)) (rFa (rs 1)) (rWo (rs 1)) a b c d e)) pi psz lt lsz tn tsz g1 g2 sd rf im hM := hUX_r0 (i := 1) (by omega)
theorem a5_ {a b c d e : Int} : hU (HX rs pi psz lt lsz tn tsz g1 g2 sd rf im hM) 66 (.inr (.inr (4, [.ref 67, .ref 68, .ref 69, .ref 70, .ref 71, .int (zI a), .int (zI b), .int (zI c), .int (zI d), .int (zI e)]))) = HX (upR rs 11 (mkR (rSl (rs 11)) (rKi (rs 11)) (rFi (rs 11)) (rFa (rs 11)) (rWo (rs 11)) a b c d e)) pi psz lt lsz tn tsz g1 g2 sd rf im hM := hUX_r0 (i := 11) (by omega)
theorem a6_ {a b c d e : Int} : hU (HX rs pi psz lt lsz tn tsz g1 g2 sd rf im hM) 72 (.inr (.inr (4, [.ref 73, .ref 74, .ref 75, .ref 76, .ref 77, .int (zI a), .int (zI b), .int (zI c), .int (zI d), .int (zI e)]))) = HX (upR rs 12 (mkR (rSl (rs 12)) (rKi (rs 12)) (rFi (rs 12)) (rFa (rs 12)) (rWo (rs 12)) a b c d e)) pi psz lt lsz tn tsz g1 g2 sd rf im hM := hUX_r0 (i := 12) (by omega)
end HXS
end
/-! parts -/
section
/-! ===== letters, row, past ===== -/
section C5
variable {rs : Nat → RR} {pi : Nat → Nat} {psz : Int} {lt : Nat → Int} {lsz : Int} {tn : Nat → Int} {tsz : Int} {g1 g2 : Nat → Int} {sd : Int} {rf : Nat → Int} {im : Int} {hM : AH} {Q : Option Value → AH → Prop}
theorem c9_ (rs : Nat → RR) (i : Nat) : upR rs i (rs i) = rs := by
  funext j
  simp only [upR]
  split
  · rename_i e; rw [e]
  · rfl
theorem c8_ (rs : Nat → RR) (i : Nat) (A B : RR) : upR (upR rs i A) i B = upR rs i B := by
  funext j
  simp only [upR]
  split <;> rfl
theorem ey_ {R : RR} : he_ (HX rs pi psz lt lsz tn tsz g1 g2 sd rf im hM) 0 R = (HX (upR rs 0 R) pi psz lt lsz tn tsz g1 g2 sd rf im hM) := hX_set (i := 0) (by omega)
theorem ez_ {R : RR} : he_ (HX rs pi psz lt lsz tn tsz g1 g2 sd rf im hM) 6 R = (HX (upR rs 1 R) pi psz lt lsz tn tsz g1 g2 sd rf im hM) := hX_set (i := 1) (by omega)
theorem df_ {R : RR} : he_ (HX rs pi psz lt lsz tn tsz g1 g2 sd rf im hM) 12 R = (HX (upR rs 2 R) pi psz lt lsz tn tsz g1 g2 sd rf im hM) := hX_set (i := 2) (by omega)
theorem da_ {R : RR} : he_ (HX rs pi psz lt lsz tn tsz g1 g2 sd rf im hM) 66 R = (HX (upR rs 11 R) pi psz lt lsz tn tsz g1 g2 sd rf im hM) := hX_set (i := 11) (by omega)
theorem dj_ {R : RR} : he_ (HX rs pi psz lt lsz tn tsz g1 g2 sd rf im hM) 72 R = (HX (upR rs 12 R) pi psz lt lsz tn tsz g1 g2 sd rf im hM) := hX_set (i := 12) (by omega)
theorem di_ {rs : Nat → RR} {R : RR} : upR rs 1 R 0 = rs 0 := rfl
theorem dm_ {rs : Nat → RR} {R : RR} : upR rs 11 R 0 = rs 0 := rfl
theorem dn_ {rs : Nat → RR} {R : RR} : upR rs 12 R 0 = rs 0 := rfl
theorem conX_at {i : Nat} (hi : i < 13) {Y : MD} {as : List Value} (H : Con Y as (he_ (HX rs pi psz lt lsz tn tsz g1 g2 sd rf im hM) (6 * i) (rs i)) Q) : Con Y as (HX rs pi psz lt lsz tn tsz g1 g2 sd rf im hM) Q := by
  rw [hX_get hi] at H
  exact H
theorem conX_become {i j : Nat} (hi : i < 13) (hj : j < 13) (hij : i ≠ j) (hQ : Q none (HX (upR rs i (rs j)) pi psz lt lsz tn tsz g1 g2 sd rf im hM)) : Con M_Re_become [.ref (6 * i), .ref (6 * j)] (HX rs pi psz lt lsz tn tsz g1 g2 sd rf im hM) Q := by
  have e : he_ (he_ (HX rs pi psz lt lsz tn tsz g1 g2 sd rf im hM) (6 * j) (rs j)) (6 * i) (rs i) = (HX rs pi psz lt lsz tn tsz g1 g2 sd rf im hM) := by rw [hX_get hj, hX_get hi]
  have H : Con M_Re_become [.ref (6 * i), .ref (6 * j)] (he_ (he_ (HX rs pi psz lt lsz tn tsz g1 g2 sd rf im hM) (6 * j) (rs j)) (6 * i) (rs i)) Q := by
    refine con_become (by omega) ?_
    rw [hX_get hj, hX_set hi]
    exact hQ
  rw [e] at H
  exact H
/-! letters -/
def atL (lt : Nat → Int) (lsz p : Int) : Int := if 0 ≤ p ∧ p < lsz then lt p.toNat else -9
def dgL (lt : Nat → Int) (lsz p : Int) : Int := if 48 ≤ atL lt lsz p ∧ atL lt lsz p ≤ 57 then atL lt lsz p - 48 else -9
def dbL (c : Int) : Int := if c = 112 ∨ c = 119 then 1 else if c = 109 ∨ c = 108 ∨ c = 107 ∨ c = 100 then 2 else if c = 115 then 3 else -9
def GL (lt : Nat → Int) (lsz : Int) : Prop := (0 ≤ lsz ∧ lsz ≤ 96) ∧ ∀ k, 0 ≤ lt k ∧ lt k ≤ 255
theorem atL_rng {lt : Nat → Int} {lsz : Int} (h : GL lt lsz) (p : Int) : -9 ≤ atL lt lsz p ∧ atL lt lsz p ≤ 255 := by
  have := h.2 p.toNat
  simp only [atL]
  split <;> omega
theorem dgL_rng {lt : Nat → Int} {lsz : Int} (h : GL lt lsz) (p : Int) : -9 ≤ dgL lt lsz p ∧ dgL lt lsz p ≤ 9 := by
  simp only [dgL]
  split <;> omega
theorem dbL_rng (c : Int) : dbL c = -9 ∨ (1 ≤ dbL c ∧ dbL c ≤ 3) := by
  simp only [dbL]
  repeat' split
  all_goals omega
theorem con_Lat {p : Int} (hp : inI p) (hG : GL lt lsz) (hQ : Q (some (.int (zI (atL lt lsz p)))) (HX rs pi psz lt lsz tn tsz g1 g2 sd rf im hM)) : Con M_Le_at [.ref 81, .int (zI p)] (HX rs pi psz lt lsz tn tsz g1 g2 sd rf im hM) Q := by
  obtain ⟨p1, p2⟩ := id hp
  have gl := hG.1
  simp only [atL] at hQ
  refine g8_ (L := [some (.ref 81), some (.int (zI p))]) ok_Le_at (Nat.le_of_ble_eq_true rfl) rfl ?_
  refine w_Le_at_0 ?_
  simp (disch := omega) only [cm_,aq_,ay_,ag_,ak_,b8_,af_,ba_,bc_,bx_,bg_,am_,ae_,ai_,ad_,ac_,b2_,bq_,ed_,bs_,al_,a0_,ao_,as_,c4_,a2_,az_,av_,c1_,dw_,d6_,ea_,d3_,b1_,fl_,fn_,fh_,fu_,fp_,fz_,fq_,fk_,fr_,ft_,fs_,fj_,fi_,fx_,f0_,c5_,bt_,bd_,c3_,ct_,co_,cr_,cz_,cj_,eb_,d5_,cf_,ch_,ci_,an_,cl_,fv_,d1_,dz_,Int.toNat_natCast,f3_,e3_,e2_,e0_,ev_,e1_,e6_,gd_,db_,dh_,dp_,dk_,dl_,c9_,c8_,ey_,ez_,df_,da_,dj_,di_,dm_,dn_,Nat.reduceAdd,Nat.reduceMul,Int.reduceNeg,Nat.reduceLeDiff,List.length_cons,List.length_nil,true_and,and_true,Nat.zero_add,eq_self,Nat.reduceEqDiff,Int.reduceAdd,Int.reduceSub,Int.reduceMul,not_true_eq_false,not_false_eq_true,Nat.reduceLT,Int.reduceToNat,Int.reduceEq,Int.reduceNe,Int.reduceLT,Int.reduceLE,or_true,or_false,and_self,and_false,false_and,false_implies,true_implies]
  repeat' (first | with_reducible refine And.intro ?_ ?_ | with_reducible intro _ | ((first | with_reducible refine w_Le_at_27 ?_ | with_reducible refine w_Le_at_29 ?_); simp (disch := omega) only [cm_,aq_,ay_,ag_,ak_,b8_,af_,ba_,bc_,bx_,bg_,am_,ae_,ai_,ad_,ac_,b2_,bq_,ed_,bs_,al_,a0_,ao_,as_,c4_,a2_,az_,av_,c1_,dw_,d6_,ea_,d3_,b1_,fl_,fn_,fh_,fu_,fp_,fz_,fq_,fk_,fr_,ft_,fs_,fj_,fi_,fx_,f0_,c5_,bt_,bd_,c3_,ct_,co_,cr_,cz_,cj_,eb_,d5_,cf_,ch_,ci_,an_,cl_,fv_,d1_,dz_,Int.toNat_natCast,f3_,e3_,e2_,e0_,ev_,e1_,e6_,gd_,db_,dh_,dp_,dk_,dl_,c9_,c8_,ey_,ez_,df_,da_,dj_,di_,dm_,dn_,Nat.reduceAdd,Nat.reduceMul,Int.reduceNeg,Nat.reduceLeDiff,List.length_cons,List.length_nil,true_and,and_true,Nat.zero_add,eq_self,Nat.reduceEqDiff,Int.reduceAdd,Int.reduceSub,Int.reduceMul,not_true_eq_false,not_false_eq_true,Nat.reduceLT,Int.reduceToNat,Int.reduceEq,Int.reduceNe,Int.reduceLT,Int.reduceLE,or_true,or_false,and_self,and_false,false_and,false_implies,true_implies]))
  all_goals first | omega | (rw [if_neg (by omega)] at hQ; exact hQ) | (rw [if_pos (by omega)] at hQ; exact hQ)
theorem con_LisDigit {p : Int} (hp : inI p) (hG : GL lt lsz) (h1 : 48 ≤ atL lt lsz p ∧ atL lt lsz p ≤ 57 → Q (some (.int (zI 1))) (HX rs pi psz lt lsz tn tsz g1 g2 sd rf im hM)) (h0 : ¬ (48 ≤ atL lt lsz p ∧ atL lt lsz p ≤ 57) → Q (some (.int (zI 0))) (HX rs pi psz lt lsz tn tsz g1 g2 sd rf im hM)) : Con M_Le_isDigit [.ref 81, .int (zI p)] (HX rs pi psz lt lsz tn tsz g1 g2 sd rf im hM) Q := by
  have ga := atL_rng hG p
  refine g8_ (L := [some (.ref 81), some (.int (zI p))]) ok_Le_isDigit (Nat.le_of_ble_eq_true rfl) rfl ?_
  refine w_Le_isDigit_0 ?_
  simp (disch := omega) only [cm_,aq_,ay_,ag_,ak_,b8_,af_,ba_,bc_,bx_,bg_,am_,ae_,ai_,ad_,ac_,b2_,bq_,ed_,bs_,al_,a0_,ao_,as_,c4_,a2_,az_,av_,c1_,dw_,d6_,ea_,d3_,b1_,fl_,fn_,fh_,fu_,fp_,fz_,fq_,fk_,fr_,ft_,fs_,fj_,fi_,fx_,f0_,c5_,bt_,bd_,c3_,ct_,co_,cr_,cz_,cj_,eb_,d5_,cf_,ch_,ci_,an_,cl_,fv_,d1_,dz_,Int.toNat_natCast,f3_,e3_,e2_,e0_,ev_,e1_,e6_,gd_,db_,dh_,dp_,dk_,dl_,c9_,c8_,ey_,ez_,df_,da_,dj_,di_,dm_,dn_,Nat.reduceAdd,Nat.reduceMul,Int.reduceNeg,Nat.reduceLeDiff,List.length_cons,List.length_nil,true_and,and_true,Nat.zero_add,eq_self,Nat.reduceEqDiff,Int.reduceAdd,Int.reduceSub,Int.reduceMul,not_true_eq_false,not_false_eq_true,Nat.reduceLT,Int.reduceToNat,Int.reduceEq,Int.reduceNe,Int.reduceLT,Int.reduceLE,or_true,or_false,and_self,and_false,false_and,false_implies,true_implies]
  repeat' (first | with_reducible refine And.intro ?_ ?_ | with_reducible intro _ | ((first | with_reducible refine w_Le_isDigit_24 ?_ | with_reducible refine w_Le_isDigit_25 ?_ | (refine con_Lat hp hG ?_)); simp (disch := omega) only [cm_,aq_,ay_,ag_,ak_,b8_,af_,ba_,bc_,bx_,bg_,am_,ae_,ai_,ad_,ac_,b2_,bq_,ed_,bs_,al_,a0_,ao_,as_,c4_,a2_,az_,av_,c1_,dw_,d6_,ea_,d3_,b1_,fl_,fn_,fh_,fu_,fp_,fz_,fq_,fk_,fr_,ft_,fs_,fj_,fi_,fx_,f0_,c5_,bt_,bd_,c3_,ct_,co_,cr_,cz_,cj_,eb_,d5_,cf_,ch_,ci_,an_,cl_,fv_,d1_,dz_,Int.toNat_natCast,f3_,e3_,e2_,e0_,ev_,e1_,e6_,gd_,db_,dh_,dp_,dk_,dl_,c9_,c8_,ey_,ez_,df_,da_,dj_,di_,dm_,dn_,Nat.reduceAdd,Nat.reduceMul,Int.reduceNeg,Nat.reduceLeDiff,List.length_cons,List.length_nil,true_and,and_true,Nat.zero_add,eq_self,Nat.reduceEqDiff,Int.reduceAdd,Int.reduceSub,Int.reduceMul,not_true_eq_false,not_false_eq_true,Nat.reduceLT,Int.reduceToNat,Int.reduceEq,Int.reduceNe,Int.reduceLT,Int.reduceLE,or_true,or_false,and_self,and_false,false_and,false_implies,true_implies]))
  all_goals first | omega | (exact h1 (by omega)) | (exact h0 (by omega))
theorem con_Ldigit {p : Int} (hp : inI p) (hG : GL lt lsz) (hQ : Q (some (.int (zI (dgL lt lsz p)))) (HX rs pi psz lt lsz tn tsz g1 g2 sd rf im hM)) : Con M_Le_digit [.ref 81, .int (zI p)] (HX rs pi psz lt lsz tn tsz g1 g2 sd rf im hM) Q := by
  have ga := atL_rng hG p
  simp only [dgL] at hQ
  refine g8_ (L := [some (.ref 81), some (.int (zI p))]) ok_Le_digit (Nat.le_of_ble_eq_true rfl) rfl ?_
  refine w_Le_digit_0 ?_
  simp (disch := omega) only [cm_,aq_,ay_,ag_,ak_,b8_,af_,ba_,bc_,bx_,bg_,am_,ae_,ai_,ad_,ac_,b2_,bq_,ed_,bs_,al_,a0_,ao_,as_,c4_,a2_,az_,av_,c1_,dw_,d6_,ea_,d3_,b1_,fl_,fn_,fh_,fu_,fp_,fz_,fq_,fk_,fr_,ft_,fs_,fj_,fi_,fx_,f0_,c5_,bt_,bd_,c3_,ct_,co_,cr_,cz_,cj_,eb_,d5_,cf_,ch_,ci_,an_,cl_,fv_,d1_,dz_,Int.toNat_natCast,f3_,e3_,e2_,e0_,ev_,e1_,e6_,gd_,db_,dh_,dp_,dk_,dl_,c9_,c8_,ey_,ez_,df_,da_,dj_,di_,dm_,dn_,Nat.reduceAdd,Nat.reduceMul,Int.reduceNeg,Nat.reduceLeDiff,List.length_cons,List.length_nil,true_and,and_true,Nat.zero_add,eq_self,Nat.reduceEqDiff,Int.reduceAdd,Int.reduceSub,Int.reduceMul,not_true_eq_false,not_false_eq_true,Nat.reduceLT,Int.reduceToNat,Int.reduceEq,Int.reduceNe,Int.reduceLT,Int.reduceLE,or_true,or_false,and_self,and_false,false_and,false_implies,true_implies]
  refine con_LisDigit hp hG (fun c => ?_) (fun c => ?_)
  · rw [if_pos c] at hQ
    simp (disch := omega) only [cm_,aq_,ay_,ag_,ak_,b8_,af_,ba_,bc_,bx_,bg_,am_,ae_,ai_,ad_,ac_,b2_,bq_,ed_,bs_,al_,a0_,ao_,as_,c4_,a2_,az_,av_,c1_,dw_,d6_,ea_,d3_,b1_,fl_,fn_,fh_,fu_,fp_,fz_,fq_,fk_,fr_,ft_,fs_,fj_,fi_,fx_,f0_,c5_,bt_,bd_,c3_,ct_,co_,cr_,cz_,cj_,eb_,d5_,cf_,ch_,ci_,an_,cl_,fv_,d1_,dz_,Int.toNat_natCast,f3_,e3_,e2_,e0_,ev_,e1_,e6_,gd_,db_,dh_,dp_,dk_,dl_,c9_,c8_,ey_,ez_,df_,da_,dj_,di_,dm_,dn_,Nat.reduceAdd,Nat.reduceMul,Int.reduceNeg,Nat.reduceLeDiff,List.length_cons,List.length_nil,true_and,and_true,Nat.zero_add,eq_self,Nat.reduceEqDiff,Int.reduceAdd,Int.reduceSub,Int.reduceMul,not_true_eq_false,not_false_eq_true,Nat.reduceLT,Int.reduceToNat,Int.reduceEq,Int.reduceNe,Int.reduceLT,Int.reduceLE,or_true,or_false,and_self,and_false,false_and,false_implies,true_implies]
    repeat' (first | with_reducible refine And.intro ?_ ?_ | with_reducible intro _ | ((first | with_reducible refine w_Le_digit_19 ?_ | with_reducible refine w_Le_digit_21 ?_ | (refine con_Lat hp hG ?_)); simp (disch := omega) only [cm_,aq_,ay_,ag_,ak_,b8_,af_,ba_,bc_,bx_,bg_,am_,ae_,ai_,ad_,ac_,b2_,bq_,ed_,bs_,al_,a0_,ao_,as_,c4_,a2_,az_,av_,c1_,dw_,d6_,ea_,d3_,b1_,fl_,fn_,fh_,fu_,fp_,fz_,fq_,fk_,fr_,ft_,fs_,fj_,fi_,fx_,f0_,c5_,bt_,bd_,c3_,ct_,co_,cr_,cz_,cj_,eb_,d5_,cf_,ch_,ci_,an_,cl_,fv_,d1_,dz_,Int.toNat_natCast,f3_,e3_,e2_,e0_,ev_,e1_,e6_,gd_,db_,dh_,dp_,dk_,dl_,c9_,c8_,ey_,ez_,df_,da_,dj_,di_,dm_,dn_,Nat.reduceAdd,Nat.reduceMul,Int.reduceNeg,Nat.reduceLeDiff,List.length_cons,List.length_nil,true_and,and_true,Nat.zero_add,eq_self,Nat.reduceEqDiff,Int.reduceAdd,Int.reduceSub,Int.reduceMul,not_true_eq_false,not_false_eq_true,Nat.reduceLT,Int.reduceToNat,Int.reduceEq,Int.reduceNe,Int.reduceLT,Int.reduceLE,or_true,or_false,and_self,and_false,false_and,false_implies,true_implies]))
    all_goals first | omega | exact hQ
  · rw [if_neg c] at hQ
    simp (disch := omega) only [cm_,aq_,ay_,ag_,ak_,b8_,af_,ba_,bc_,bx_,bg_,am_,ae_,ai_,ad_,ac_,b2_,bq_,ed_,bs_,al_,a0_,ao_,as_,c4_,a2_,az_,av_,c1_,dw_,d6_,ea_,d3_,b1_,fl_,fn_,fh_,fu_,fp_,fz_,fq_,fk_,fr_,ft_,fs_,fj_,fi_,fx_,f0_,c5_,bt_,bd_,c3_,ct_,co_,cr_,cz_,cj_,eb_,d5_,cf_,ch_,ci_,an_,cl_,fv_,d1_,dz_,Int.toNat_natCast,f3_,e3_,e2_,e0_,ev_,e1_,e6_,gd_,db_,dh_,dp_,dk_,dl_,c9_,c8_,ey_,ez_,df_,da_,dj_,di_,dm_,dn_,Nat.reduceAdd,Nat.reduceMul,Int.reduceNeg,Nat.reduceLeDiff,List.length_cons,List.length_nil,true_and,and_true,Nat.zero_add,eq_self,Nat.reduceEqDiff,Int.reduceAdd,Int.reduceSub,Int.reduceMul,not_true_eq_false,not_false_eq_true,Nat.reduceLT,Int.reduceToNat,Int.reduceEq,Int.reduceNe,Int.reduceLT,Int.reduceLE,or_true,or_false,and_self,and_false,false_and,false_implies,true_implies]
    repeat' (first | with_reducible refine And.intro ?_ ?_ | with_reducible intro _ | ((first | with_reducible refine w_Le_digit_19 ?_ | with_reducible refine w_Le_digit_21 ?_); simp (disch := omega) only [cm_,aq_,ay_,ag_,ak_,b8_,af_,ba_,bc_,bx_,bg_,am_,ae_,ai_,ad_,ac_,b2_,bq_,ed_,bs_,al_,a0_,ao_,as_,c4_,a2_,az_,av_,c1_,dw_,d6_,ea_,d3_,b1_,fl_,fn_,fh_,fu_,fp_,fz_,fq_,fk_,fr_,ft_,fs_,fj_,fi_,fx_,f0_,c5_,bt_,bd_,c3_,ct_,co_,cr_,cz_,cj_,eb_,d5_,cf_,ch_,ci_,an_,cl_,fv_,d1_,dz_,Int.toNat_natCast,f3_,e3_,e2_,e0_,ev_,e1_,e6_,gd_,db_,dh_,dp_,dk_,dl_,c9_,c8_,ey_,ez_,df_,da_,dj_,di_,dm_,dn_,Nat.reduceAdd,Nat.reduceMul,Int.reduceNeg,Nat.reduceLeDiff,List.length_cons,List.length_nil,true_and,and_true,Nat.zero_add,eq_self,Nat.reduceEqDiff,Int.reduceAdd,Int.reduceSub,Int.reduceMul,not_true_eq_false,not_false_eq_true,Nat.reduceLT,Int.reduceToNat,Int.reduceEq,Int.reduceNe,Int.reduceLT,Int.reduceLE,or_true,or_false,and_self,and_false,false_and,false_implies,true_implies]))
    all_goals first | omega | exact hQ
theorem con_LtwoDigits {p : Int} (hp : -1000 ≤ p ∧ p ≤ 1000) (hG : GL lt lsz) (hQ : Q (some (.int (zI (dgL lt lsz p * 10 + dgL lt lsz (p + 1))))) (HX rs pi psz lt lsz tn tsz g1 g2 sd rf im hM)) : Con M_Le_twoDigits [.ref 81, .int (zI p)] (HX rs pi psz lt lsz tn tsz g1 g2 sd rf im hM) Q := by
  refine g8_ (L := [some (.ref 81), some (.int (zI p))]) ok_Le_twoDigits (Nat.le_of_ble_eq_true rfl) rfl ?_
  refine w_Le_twoDigits_0 ?_
  simp (disch := omega) only [cm_,aq_,ay_,ag_,ak_,b8_,af_,ba_,bc_,bx_,bg_,am_,ae_,ai_,ad_,ac_,b2_,bq_,ed_,bs_,al_,a0_,ao_,as_,c4_,a2_,az_,av_,c1_,dw_,d6_,ea_,d3_,b1_,fl_,fn_,fh_,fu_,fp_,fz_,fq_,fk_,fr_,ft_,fs_,fj_,fi_,fx_,f0_,c5_,bt_,bd_,c3_,ct_,co_,cr_,cz_,cj_,eb_,d5_,cf_,ch_,ci_,an_,cl_,fv_,d1_,dz_,Int.toNat_natCast,f3_,e3_,e2_,e0_,ev_,e1_,e6_,gd_,db_,dh_,dp_,dk_,dl_,c9_,c8_,ey_,ez_,df_,da_,dj_,di_,dm_,dn_,Nat.reduceAdd,Nat.reduceMul,Int.reduceNeg,Nat.reduceLeDiff,List.length_cons,List.length_nil,true_and,and_true,Nat.zero_add,eq_self,Nat.reduceEqDiff,Int.reduceAdd,Int.reduceSub,Int.reduceMul,not_true_eq_false,not_false_eq_true,Nat.reduceLT,Int.reduceToNat,Int.reduceEq,Int.reduceNe,Int.reduceLT,Int.reduceLE,or_true,or_false,and_self,and_false,false_and,false_implies,true_implies]
  refine con_Ldigit (by unfold inI; omega) hG ?_
  simp (disch := omega) only [cm_,aq_,ay_,ag_,ak_,b8_,af_,ba_,bc_,bx_,bg_,am_,ae_,ai_,ad_,ac_,b2_,bq_,ed_,bs_,al_,a0_,ao_,as_,c4_,a2_,az_,av_,c1_,dw_,d6_,ea_,d3_,b1_,fl_,fn_,fh_,fu_,fp_,fz_,fq_,fk_,fr_,ft_,fs_,fj_,fi_,fx_,f0_,c5_,bt_,bd_,c3_,ct_,co_,cr_,cz_,cj_,eb_,d5_,cf_,ch_,ci_,an_,cl_,fv_,d1_,dz_,Int.toNat_natCast,f3_,e3_,e2_,e0_,ev_,e1_,e6_,gd_,db_,dh_,dp_,dk_,dl_,c9_,c8_,ey_,ez_,df_,da_,dj_,di_,dm_,dn_,Nat.reduceAdd,Nat.reduceMul,Int.reduceNeg,Nat.reduceLeDiff,List.length_cons,List.length_nil,true_and,and_true,Nat.zero_add,eq_self,Nat.reduceEqDiff,Int.reduceAdd,Int.reduceSub,Int.reduceMul,not_true_eq_false,not_false_eq_true,Nat.reduceLT,Int.reduceToNat,Int.reduceEq,Int.reduceNe,Int.reduceLT,Int.reduceLE,or_true,or_false,and_self,and_false,false_and,false_implies,true_implies]
  refine con_Ldigit (by unfold inI; omega) hG ?_
  simp (disch := omega) only [cm_,aq_,ay_,ag_,ak_,b8_,af_,ba_,bc_,bx_,bg_,am_,ae_,ai_,ad_,ac_,b2_,bq_,ed_,bs_,al_,a0_,ao_,as_,c4_,a2_,az_,av_,c1_,dw_,d6_,ea_,d3_,b1_,fl_,fn_,fh_,fu_,fp_,fz_,fq_,fk_,fr_,ft_,fs_,fj_,fi_,fx_,f0_,c5_,bt_,bd_,c3_,ct_,co_,cr_,cz_,cj_,eb_,d5_,cf_,ch_,ci_,an_,cl_,fv_,d1_,dz_,Int.toNat_natCast,f3_,e3_,e2_,e0_,ev_,e1_,e6_,gd_,db_,dh_,dp_,dk_,dl_,c9_,c8_,ey_,ez_,df_,da_,dj_,di_,dm_,dn_,Nat.reduceAdd,Nat.reduceMul,Int.reduceNeg,Nat.reduceLeDiff,List.length_cons,List.length_nil,true_and,and_true,Nat.zero_add,eq_self,Nat.reduceEqDiff,Int.reduceAdd,Int.reduceSub,Int.reduceMul,not_true_eq_false,not_false_eq_true,Nat.reduceLT,Int.reduceToNat,Int.reduceEq,Int.reduceNe,Int.reduceLT,Int.reduceLE,or_true,or_false,and_self,and_false,false_and,false_implies,true_implies]
  exact hQ
theorem con_LdigitsBehind {c : Int} {h : AH} (hc : inI c) (hQ : Q (some (.int (zI (dbL c)))) h) : Con M_Le_digitsBehind [.int (zI c)] h Q := by
  obtain ⟨c1, c2⟩ := id hc
  have e1 : c = 112 ∨ c = 119 → dbL c = 1 := fun q => by simp only [dbL]; rw [if_pos q]
  have e2 : c = 109 ∨ c = 108 ∨ c = 107 ∨ c = 100 → dbL c = 2 := fun q => by simp only [dbL]; rw [if_neg (by omega), if_pos q]
  have e3 : c = 115 → dbL c = 3 := fun q => by simp only [dbL]; rw [if_neg (by omega), if_neg (by omega), if_pos q]
  have e4 : ¬ (c = 112 ∨ c = 119) → ¬ (c = 109 ∨ c = 108 ∨ c = 107 ∨ c = 100) → ¬ c = 115 → dbL c = -9 := fun q r s => by simp only [dbL]; rw [if_neg q, if_neg r, if_neg s]
  refine g8_ (L := [some (.int (zI c))]) ok_Le_digitsBehind (Nat.le_of_ble_eq_true rfl) rfl ?_
  refine w_Le_digitsBehind_0 ?_
  simp (disch := omega) only [cm_,aq_,ay_,ag_,ak_,b8_,af_,ba_,bc_,bx_,bg_,am_,ae_,ai_,ad_,ac_,b2_,bq_,ed_,bs_,al_,a0_,ao_,as_,c4_,a2_,az_,av_,c1_,dw_,d6_,ea_,d3_,b1_,fl_,fn_,fh_,fu_,fp_,fz_,fq_,fk_,fr_,ft_,fs_,fj_,fi_,fx_,f0_,c5_,bt_,bd_,c3_,ct_,co_,cr_,cz_,cj_,eb_,d5_,cf_,ch_,ci_,an_,cl_,fv_,d1_,dz_,Int.toNat_natCast,f3_,e3_,e2_,e0_,ev_,e1_,e6_,gd_,db_,dh_,dp_,dk_,dl_,c9_,c8_,ey_,ez_,df_,da_,dj_,di_,dm_,dn_,Nat.reduceAdd,Nat.reduceMul,Int.reduceNeg,Nat.reduceLeDiff,List.length_cons,List.length_nil,true_and,and_true,Nat.zero_add,eq_self,Nat.reduceEqDiff,Int.reduceAdd,Int.reduceSub,Int.reduceMul,not_true_eq_false,not_false_eq_true,Nat.reduceLT,Int.reduceToNat,Int.reduceEq,Int.reduceNe,Int.reduceLT,Int.reduceLE,or_true,or_false,and_self,and_false,false_and,false_implies,true_implies]
  repeat' (first | with_reducible refine And.intro ?_ ?_ | with_reducible intro _ | ((first | with_reducible refine w_Le_digitsBehind_96 ?_ | with_reducible refine w_Le_digitsBehind_98 ?_ | with_reducible refine w_Le_digitsBehind_100 ?_ | with_reducible refine w_Le_digitsBehind_102 ?_); simp (disch := omega) only [cm_,aq_,ay_,ag_,ak_,b8_,af_,ba_,bc_,bx_,bg_,am_,ae_,ai_,ad_,ac_,b2_,bq_,ed_,bs_,al_,a0_,ao_,as_,c4_,a2_,az_,av_,c1_,dw_,d6_,ea_,d3_,b1_,fl_,fn_,fh_,fu_,fp_,fz_,fq_,fk_,fr_,ft_,fs_,fj_,fi_,fx_,f0_,c5_,bt_,bd_,c3_,ct_,co_,cr_,cz_,cj_,eb_,d5_,cf_,ch_,ci_,an_,cl_,fv_,d1_,dz_,Int.toNat_natCast,f3_,e3_,e2_,e0_,ev_,e1_,e6_,gd_,db_,dh_,dp_,dk_,dl_,c9_,c8_,ey_,ez_,df_,da_,dj_,di_,dm_,dn_,Nat.reduceAdd,Nat.reduceMul,Int.reduceNeg,Nat.reduceLeDiff,List.length_cons,List.length_nil,true_and,and_true,Nat.zero_add,eq_self,Nat.reduceEqDiff,Int.reduceAdd,Int.reduceSub,Int.reduceMul,not_true_eq_false,not_false_eq_true,Nat.reduceLT,Int.reduceToNat,Int.reduceEq,Int.reduceNe,Int.reduceLT,Int.reduceLE,or_true,or_false,and_self,and_false,false_and,false_implies,true_implies]))
  all_goals first | omega | (rw [e1 (by omega)] at hQ; exact hQ) | (rw [e2 (by omega)] at hQ; exact hQ) | (rw [e3 (by omega)] at hQ; exact hQ) | (rw [e4 (by omega) (by omega) (by omega)] at hQ; exact hQ)
theorem con_LlengthOf {c : Int} {h : AH} (hc : inI c) (hQ : Q (some (.int (zI (max 0 (dbL c) + 2)))) h) : Con M_Le_lengthOf [.int (zI c)] h Q := by
  have := dbL_rng c
  refine g8_ (L := [some (.int (zI c))]) ok_Le_lengthOf (Nat.le_of_ble_eq_true rfl) rfl ?_
  refine w_Le_lengthOf_0 ?_
  simp (disch := omega) only [cm_,aq_,ay_,ag_,ak_,b8_,af_,ba_,bc_,bx_,bg_,am_,ae_,ai_,ad_,ac_,b2_,bq_,ed_,bs_,al_,a0_,ao_,as_,c4_,a2_,az_,av_,c1_,dw_,d6_,ea_,d3_,b1_,fl_,fn_,fh_,fu_,fp_,fz_,fq_,fk_,fr_,ft_,fs_,fj_,fi_,fx_,f0_,c5_,bt_,bd_,c3_,ct_,co_,cr_,cz_,cj_,eb_,d5_,cf_,ch_,ci_,an_,cl_,fv_,d1_,dz_,Int.toNat_natCast,f3_,e3_,e2_,e0_,ev_,e1_,e6_,gd_,db_,dh_,dp_,dk_,dl_,c9_,c8_,ey_,ez_,df_,da_,dj_,di_,dm_,dn_,Nat.reduceAdd,Nat.reduceMul,Int.reduceNeg,Nat.reduceLeDiff,List.length_cons,List.length_nil,true_and,and_true,Nat.zero_add,eq_self,Nat.reduceEqDiff,Int.reduceAdd,Int.reduceSub,Int.reduceMul,not_true_eq_false,not_false_eq_true,Nat.reduceLT,Int.reduceToNat,Int.reduceEq,Int.reduceNe,Int.reduceLT,Int.reduceLE,or_true,or_false,and_self,and_false,false_and,false_implies,true_implies]
  refine con_LdigitsBehind hc ?_
  simp (disch := omega) only [cm_,aq_,ay_,ag_,ak_,b8_,af_,ba_,bc_,bx_,bg_,am_,ae_,ai_,ad_,ac_,b2_,bq_,ed_,bs_,al_,a0_,ao_,as_,c4_,a2_,az_,av_,c1_,dw_,d6_,ea_,d3_,b1_,fl_,fn_,fh_,fu_,fp_,fz_,fq_,fk_,fr_,ft_,fs_,fj_,fi_,fx_,f0_,c5_,bt_,bd_,c3_,ct_,co_,cr_,cz_,cj_,eb_,d5_,cf_,ch_,ci_,an_,cl_,fv_,d1_,dz_,Int.toNat_natCast,f3_,e3_,e2_,e0_,ev_,e1_,e6_,gd_,db_,dh_,dp_,dk_,dl_,c9_,c8_,ey_,ez_,df_,da_,dj_,di_,dm_,dn_,Nat.reduceAdd,Nat.reduceMul,Int.reduceNeg,Nat.reduceLeDiff,List.length_cons,List.length_nil,true_and,and_true,Nat.zero_add,eq_self,Nat.reduceEqDiff,Int.reduceAdd,Int.reduceSub,Int.reduceMul,not_true_eq_false,not_false_eq_true,Nat.reduceLT,Int.reduceToNat,Int.reduceEq,Int.reduceNe,Int.reduceLT,Int.reduceLE,or_true,or_false,and_self,and_false,false_and,false_implies,true_implies]
  exact hQ
theorem con_LisFull (hG : GL lt lsz) (h1 : lsz = 96 → Q (some (.int (zI 1))) (HX rs pi psz lt lsz tn tsz g1 g2 sd rf im hM)) (h0 : ¬ lsz = 96 → Q (some (.int (zI 0))) (HX rs pi psz lt lsz tn tsz g1 g2 sd rf im hM)) : Con M_Le_isFull [.ref 81] (HX rs pi psz lt lsz tn tsz g1 g2 sd rf im hM) Q := by
  have gl := hG.1
  refine g8_ (L := [some (.ref 81)]) ok_Le_isFull (Nat.le_of_ble_eq_true rfl) rfl ?_
  refine w_Le_isFull_0 ?_
  simp (disch := omega) only [cm_,aq_,ay_,ag_,ak_,b8_,af_,ba_,bc_,bx_,bg_,am_,ae_,ai_,ad_,ac_,b2_,bq_,ed_,bs_,al_,a0_,ao_,as_,c4_,a2_,az_,av_,c1_,dw_,d6_,ea_,d3_,b1_,fl_,fn_,fh_,fu_,fp_,fz_,fq_,fk_,fr_,ft_,fs_,fj_,fi_,fx_,f0_,c5_,bt_,bd_,c3_,ct_,co_,cr_,cz_,cj_,eb_,d5_,cf_,ch_,ci_,an_,cl_,fv_,d1_,dz_,Int.toNat_natCast,f3_,e3_,e2_,e0_,ev_,e1_,e6_,gd_,db_,dh_,dp_,dk_,dl_,c9_,c8_,ey_,ez_,df_,da_,dj_,di_,dm_,dn_,Nat.reduceAdd,Nat.reduceMul,Int.reduceNeg,Nat.reduceLeDiff,List.length_cons,List.length_nil,true_and,and_true,Nat.zero_add,eq_self,Nat.reduceEqDiff,Int.reduceAdd,Int.reduceSub,Int.reduceMul,not_true_eq_false,not_false_eq_true,Nat.reduceLT,Int.reduceToNat,Int.reduceEq,Int.reduceNe,Int.reduceLT,Int.reduceLE,or_true,or_false,and_self,and_false,false_and,false_implies,true_implies]
  repeat' (first | with_reducible refine And.intro ?_ ?_ | with_reducible intro _ | ((first | with_reducible refine w_Le_isFull_13 ?_ | with_reducible refine w_Le_isFull_14 ?_); simp (disch := omega) only [cm_,aq_,ay_,ag_,ak_,b8_,af_,ba_,bc_,bx_,bg_,am_,ae_,ai_,ad_,ac_,b2_,bq_,ed_,bs_,al_,a0_,ao_,as_,c4_,a2_,az_,av_,c1_,dw_,d6_,ea_,d3_,b1_,fl_,fn_,fh_,fu_,fp_,fz_,fq_,fk_,fr_,ft_,fs_,fj_,fi_,fx_,f0_,c5_,bt_,bd_,c3_,ct_,co_,cr_,cz_,cj_,eb_,d5_,cf_,ch_,ci_,an_,cl_,fv_,d1_,dz_,Int.toNat_natCast,f3_,e3_,e2_,e0_,ev_,e1_,e6_,gd_,db_,dh_,dp_,dk_,dl_,c9_,c8_,ey_,ez_,df_,da_,dj_,di_,dm_,dn_,Nat.reduceAdd,Nat.reduceMul,Int.reduceNeg,Nat.reduceLeDiff,List.length_cons,List.length_nil,true_and,and_true,Nat.zero_add,eq_self,Nat.reduceEqDiff,Int.reduceAdd,Int.reduceSub,Int.reduceMul,not_true_eq_false,not_false_eq_true,Nat.reduceLT,Int.reduceToNat,Int.reduceEq,Int.reduceNe,Int.reduceLT,Int.reduceLE,or_true,or_false,and_self,and_false,false_and,false_implies,true_implies]))
  all_goals first | omega | (exact h1 (by omega)) | (exact h0 (by omega))
theorem con_Ladd {v : Int} (hG : GL lt lsz) (hs : lsz < 96) (hQ : Q none (HX rs pi psz (upI lt lsz.toNat v) (lsz + 1) tn tsz g1 g2 sd rf im hM)) : Con M_Le_add [.ref 81, .int (zI v)] (HX rs pi psz lt lsz tn tsz g1 g2 sd rf im hM) Q := by
  have gl := hG.1
  refine g8_ (L := [some (.ref 81), some (.int (zI v))]) ok_Le_add (Nat.le_of_ble_eq_true rfl) rfl ?_
  refine w_Le_add_0 ?_
  simp (disch := omega) only [cm_,aq_,ay_,ag_,ak_,b8_,af_,ba_,bc_,bx_,bg_,am_,ae_,ai_,ad_,ac_,b2_,bq_,ed_,bs_,al_,a0_,ao_,as_,c4_,a2_,az_,av_,c1_,dw_,d6_,ea_,d3_,b1_,fl_,fn_,fh_,fu_,fp_,fz_,fq_,fk_,fr_,ft_,fs_,fj_,fi_,fx_,f0_,c5_,bt_,bd_,c3_,ct_,co_,cr_,cz_,cj_,eb_,d5_,cf_,ch_,ci_,an_,cl_,fv_,d1_,dz_,Int.toNat_natCast,f3_,e3_,e2_,e0_,ev_,e1_,e6_,gd_,db_,dh_,dp_,dk_,dl_,c9_,c8_,ey_,ez_,df_,da_,dj_,di_,dm_,dn_,Nat.reduceAdd,Nat.reduceMul,Int.reduceNeg,Nat.reduceLeDiff,List.length_cons,List.length_nil,true_and,and_true,Nat.zero_add,eq_self,Nat.reduceEqDiff,Int.reduceAdd,Int.reduceSub,Int.reduceMul,not_true_eq_false,not_false_eq_true,Nat.reduceLT,Int.reduceToNat,Int.reduceEq,Int.reduceNe,Int.reduceLT,Int.reduceLE,or_true,or_false,and_self,and_false,false_and,false_implies,true_implies]
  repeat' (first | with_reducible refine And.intro ?_ ?_ | with_reducible intro _ | ((first | with_reducible refine w_Le_add_36 ?_); simp (disch := omega) only [cm_,aq_,ay_,ag_,ak_,b8_,af_,ba_,bc_,bx_,bg_,am_,ae_,ai_,ad_,ac_,b2_,bq_,ed_,bs_,al_,a0_,ao_,as_,c4_,a2_,az_,av_,c1_,dw_,d6_,ea_,d3_,b1_,fl_,fn_,fh_,fu_,fp_,fz_,fq_,fk_,fr_,ft_,fs_,fj_,fi_,fx_,f0_,c5_,bt_,bd_,c3_,ct_,co_,cr_,cz_,cj_,eb_,d5_,cf_,ch_,ci_,an_,cl_,fv_,d1_,dz_,Int.toNat_natCast,f3_,e3_,e2_,e0_,ev_,e1_,e6_,gd_,db_,dh_,dp_,dk_,dl_,c9_,c8_,ey_,ez_,df_,da_,dj_,di_,dm_,dn_,Nat.reduceAdd,Nat.reduceMul,Int.reduceNeg,Nat.reduceLeDiff,List.length_cons,List.length_nil,true_and,and_true,Nat.zero_add,eq_self,Nat.reduceEqDiff,Int.reduceAdd,Int.reduceSub,Int.reduceMul,not_true_eq_false,not_false_eq_true,Nat.reduceLT,Int.reduceToNat,Int.reduceEq,Int.reduceNe,Int.reduceLT,Int.reduceLE,or_true,or_false,and_self,and_false,false_and,false_implies,true_implies]))
  all_goals first | omega | exact hQ
theorem con_Lforget (hQ : Q none (HX rs pi psz lt (0) tn tsz g1 g2 sd rf im hM)) : Con M_Le_forget [.ref 81] (HX rs pi psz lt lsz tn tsz g1 g2 sd rf im hM) Q := by
  refine g8_ (L := [some (.ref 81)]) ok_Le_forget (Nat.le_of_ble_eq_true rfl) rfl ?_
  refine w_Le_forget_0 ?_
  simp (disch := omega) only [cm_,aq_,ay_,ag_,ak_,b8_,af_,ba_,bc_,bx_,bg_,am_,ae_,ai_,ad_,ac_,b2_,bq_,ed_,bs_,al_,a0_,ao_,as_,c4_,a2_,az_,av_,c1_,dw_,d6_,ea_,d3_,b1_,fl_,fn_,fh_,fu_,fp_,fz_,fq_,fk_,fr_,ft_,fs_,fj_,fi_,fx_,f0_,c5_,bt_,bd_,c3_,ct_,co_,cr_,cz_,cj_,eb_,d5_,cf_,ch_,ci_,an_,cl_,fv_,d1_,dz_,Int.toNat_natCast,f3_,e3_,e2_,e0_,ev_,e1_,e6_,gd_,db_,dh_,dp_,dk_,dl_,c9_,c8_,ey_,ez_,df_,da_,dj_,di_,dm_,dn_,Nat.reduceAdd,Nat.reduceMul,Int.reduceNeg,Nat.reduceLeDiff,List.length_cons,List.length_nil,true_and,and_true,Nat.zero_add,eq_self,Nat.reduceEqDiff,Int.reduceAdd,Int.reduceSub,Int.reduceMul,not_true_eq_false,not_false_eq_true,Nat.reduceLT,Int.reduceToNat,Int.reduceEq,Int.reduceNe,Int.reduceLT,Int.reduceLE,or_true,or_false,and_self,and_false,false_and,false_implies,true_implies]
  exact hQ
/-! the row -/
def GT (tn : Nat → Int) (tsz : Int) : Prop := (0 ≤ tsz ∧ tsz ≤ 12) ∧ ∀ k, 0 ≤ tn k ∧ tn k ≤ 99
theorem con_Tat {p : Int} (hp : 0 ≤ p ∧ p < tsz) (hG : GT tn tsz) (hQ : Q (some (.int (zI (tn p.toNat)))) (HX rs pi psz lt lsz tn tsz g1 g2 sd rf im hM)) : Con M_Ro_at [.ref 83, .int (zI p)] (HX rs pi psz lt lsz tn tsz g1 g2 sd rf im hM) Q := by
  have gl := hG.1
  refine g8_ (L := [some (.ref 83), some (.int (zI p))]) ok_Ro_at (Nat.le_of_ble_eq_true rfl) rfl ?_
  refine w_Ro_at_0 ?_
  simp (disch := omega) only [cm_,aq_,ay_,ag_,ak_,b8_,af_,ba_,bc_,bx_,bg_,am_,ae_,ai_,ad_,ac_,b2_,bq_,ed_,bs_,al_,a0_,ao_,as_,c4_,a2_,az_,av_,c1_,dw_,d6_,ea_,d3_,b1_,fl_,fn_,fh_,fu_,fp_,fz_,fq_,fk_,fr_,ft_,fs_,fj_,fi_,fx_,f0_,c5_,bt_,bd_,c3_,ct_,co_,cr_,cz_,cj_,eb_,d5_,cf_,ch_,ci_,an_,cl_,fv_,d1_,dz_,Int.toNat_natCast,f3_,e3_,e2_,e0_,ev_,e1_,e6_,gd_,db_,dh_,dp_,dk_,dl_,c9_,c8_,ey_,ez_,df_,da_,dj_,di_,dm_,dn_,Nat.reduceAdd,Nat.reduceMul,Int.reduceNeg,Nat.reduceLeDiff,List.length_cons,List.length_nil,true_and,and_true,Nat.zero_add,eq_self,Nat.reduceEqDiff,Int.reduceAdd,Int.reduceSub,Int.reduceMul,not_true_eq_false,not_false_eq_true,Nat.reduceLT,Int.reduceToNat,Int.reduceEq,Int.reduceNe,Int.reduceLT,Int.reduceLE,or_true,or_false,and_self,and_false,false_and,false_implies,true_implies]
  repeat' (first | with_reducible refine And.intro ?_ ?_ | with_reducible intro _ | ((first | with_reducible refine w_Ro_at_27 ?_ | with_reducible refine w_Ro_at_29 ?_); simp (disch := omega) only [cm_,aq_,ay_,ag_,ak_,b8_,af_,ba_,bc_,bx_,bg_,am_,ae_,ai_,ad_,ac_,b2_,bq_,ed_,bs_,al_,a0_,ao_,as_,c4_,a2_,az_,av_,c1_,dw_,d6_,ea_,d3_,b1_,fl_,fn_,fh_,fu_,fp_,fz_,fq_,fk_,fr_,ft_,fs_,fj_,fi_,fx_,f0_,c5_,bt_,bd_,c3_,ct_,co_,cr_,cz_,cj_,eb_,d5_,cf_,ch_,ci_,an_,cl_,fv_,d1_,dz_,Int.toNat_natCast,f3_,e3_,e2_,e0_,ev_,e1_,e6_,gd_,db_,dh_,dp_,dk_,dl_,c9_,c8_,ey_,ez_,df_,da_,dj_,di_,dm_,dn_,Nat.reduceAdd,Nat.reduceMul,Int.reduceNeg,Nat.reduceLeDiff,List.length_cons,List.length_nil,true_and,and_true,Nat.zero_add,eq_self,Nat.reduceEqDiff,Int.reduceAdd,Int.reduceSub,Int.reduceMul,not_true_eq_false,not_false_eq_true,Nat.reduceLT,Int.reduceToNat,Int.reduceEq,Int.reduceNe,Int.reduceLT,Int.reduceLE,or_true,or_false,and_self,and_false,false_and,false_implies,true_implies]))
  all_goals first | omega | exact hQ
theorem con_TisFull (hG : GT tn tsz) (h1 : tsz = 12 → Q (some (.int (zI 1))) (HX rs pi psz lt lsz tn tsz g1 g2 sd rf im hM)) (h0 : ¬ tsz = 12 → Q (some (.int (zI 0))) (HX rs pi psz lt lsz tn tsz g1 g2 sd rf im hM)) : Con M_Ro_isFull [.ref 83] (HX rs pi psz lt lsz tn tsz g1 g2 sd rf im hM) Q := by
  have gl := hG.1
  refine g8_ (L := [some (.ref 83)]) ok_Ro_isFull (Nat.le_of_ble_eq_true rfl) rfl ?_
  refine w_Ro_isFull_0 ?_
  simp (disch := omega) only [cm_,aq_,ay_,ag_,ak_,b8_,af_,ba_,bc_,bx_,bg_,am_,ae_,ai_,ad_,ac_,b2_,bq_,ed_,bs_,al_,a0_,ao_,as_,c4_,a2_,az_,av_,c1_,dw_,d6_,ea_,d3_,b1_,fl_,fn_,fh_,fu_,fp_,fz_,fq_,fk_,fr_,ft_,fs_,fj_,fi_,fx_,f0_,c5_,bt_,bd_,c3_,ct_,co_,cr_,cz_,cj_,eb_,d5_,cf_,ch_,ci_,an_,cl_,fv_,d1_,dz_,Int.toNat_natCast,f3_,e3_,e2_,e0_,ev_,e1_,e6_,gd_,db_,dh_,dp_,dk_,dl_,c9_,c8_,ey_,ez_,df_,da_,dj_,di_,dm_,dn_,Nat.reduceAdd,Nat.reduceMul,Int.reduceNeg,Nat.reduceLeDiff,List.length_cons,List.length_nil,true_and,and_true,Nat.zero_add,eq_self,Nat.reduceEqDiff,Int.reduceAdd,Int.reduceSub,Int.reduceMul,not_true_eq_false,not_false_eq_true,Nat.reduceLT,Int.reduceToNat,Int.reduceEq,Int.reduceNe,Int.reduceLT,Int.reduceLE,or_true,or_false,and_self,and_false,false_and,false_implies,true_implies]
  repeat' (first | with_reducible refine And.intro ?_ ?_ | with_reducible intro _ | ((first | with_reducible refine w_Ro_isFull_13 ?_ | with_reducible refine w_Ro_isFull_14 ?_); simp (disch := omega) only [cm_,aq_,ay_,ag_,ak_,b8_,af_,ba_,bc_,bx_,bg_,am_,ae_,ai_,ad_,ac_,b2_,bq_,ed_,bs_,al_,a0_,ao_,as_,c4_,a2_,az_,av_,c1_,dw_,d6_,ea_,d3_,b1_,fl_,fn_,fh_,fu_,fp_,fz_,fq_,fk_,fr_,ft_,fs_,fj_,fi_,fx_,f0_,c5_,bt_,bd_,c3_,ct_,co_,cr_,cz_,cj_,eb_,d5_,cf_,ch_,ci_,an_,cl_,fv_,d1_,dz_,Int.toNat_natCast,f3_,e3_,e2_,e0_,ev_,e1_,e6_,gd_,db_,dh_,dp_,dk_,dl_,c9_,c8_,ey_,ez_,df_,da_,dj_,di_,dm_,dn_,Nat.reduceAdd,Nat.reduceMul,Int.reduceNeg,Nat.reduceLeDiff,List.length_cons,List.length_nil,true_and,and_true,Nat.zero_add,eq_self,Nat.reduceEqDiff,Int.reduceAdd,Int.reduceSub,Int.reduceMul,not_true_eq_false,not_false_eq_true,Nat.reduceLT,Int.reduceToNat,Int.reduceEq,Int.reduceNe,Int.reduceLT,Int.reduceLE,or_true,or_false,and_self,and_false,false_and,false_implies,true_implies]))
  all_goals first | omega | (exact h1 (by omega)) | (exact h0 (by omega))
theorem con_Tadd {v : Int} (hG : GT tn tsz) (hs : tsz < 12) (hQ : Q none (HX rs pi psz lt lsz (upI tn tsz.toNat v) (tsz + 1) g1 g2 sd rf im hM)) : Con M_Ro_add [.ref 83, .int (zI v)] (HX rs pi psz lt lsz tn tsz g1 g2 sd rf im hM) Q := by
  have gl := hG.1
  refine g8_ (L := [some (.ref 83), some (.int (zI v))]) ok_Ro_add (Nat.le_of_ble_eq_true rfl) rfl ?_
  refine w_Ro_add_0 ?_
  simp (disch := omega) only [cm_,aq_,ay_,ag_,ak_,b8_,af_,ba_,bc_,bx_,bg_,am_,ae_,ai_,ad_,ac_,b2_,bq_,ed_,bs_,al_,a0_,ao_,as_,c4_,a2_,az_,av_,c1_,dw_,d6_,ea_,d3_,b1_,fl_,fn_,fh_,fu_,fp_,fz_,fq_,fk_,fr_,ft_,fs_,fj_,fi_,fx_,f0_,c5_,bt_,bd_,c3_,ct_,co_,cr_,cz_,cj_,eb_,d5_,cf_,ch_,ci_,an_,cl_,fv_,d1_,dz_,Int.toNat_natCast,f3_,e3_,e2_,e0_,ev_,e1_,e6_,gd_,db_,dh_,dp_,dk_,dl_,c9_,c8_,ey_,ez_,df_,da_,dj_,di_,dm_,dn_,Nat.reduceAdd,Nat.reduceMul,Int.reduceNeg,Nat.reduceLeDiff,List.length_cons,List.length_nil,true_and,and_true,Nat.zero_add,eq_self,Nat.reduceEqDiff,Int.reduceAdd,Int.reduceSub,Int.reduceMul,not_true_eq_false,not_false_eq_true,Nat.reduceLT,Int.reduceToNat,Int.reduceEq,Int.reduceNe,Int.reduceLT,Int.reduceLE,or_true,or_false,and_self,and_false,false_and,false_implies,true_implies]
  repeat' (first | with_reducible refine And.intro ?_ ?_ | with_reducible intro _ | ((first | with_reducible refine w_Ro_add_36 ?_); simp (disch := omega) only [cm_,aq_,ay_,ag_,ak_,b8_,af_,ba_,bc_,bx_,bg_,am_,ae_,ai_,ad_,ac_,b2_,bq_,ed_,bs_,al_,a0_,ao_,as_,c4_,a2_,az_,av_,c1_,dw_,d6_,ea_,d3_,b1_,fl_,fn_,fh_,fu_,fp_,fz_,fq_,fk_,fr_,ft_,fs_,fj_,fi_,fx_,f0_,c5_,bt_,bd_,c3_,ct_,co_,cr_,cz_,cj_,eb_,d5_,cf_,ch_,ci_,an_,cl_,fv_,d1_,dz_,Int.toNat_natCast,f3_,e3_,e2_,e0_,ev_,e1_,e6_,gd_,db_,dh_,dp_,dk_,dl_,c9_,c8_,ey_,ez_,df_,da_,dj_,di_,dm_,dn_,Nat.reduceAdd,Nat.reduceMul,Int.reduceNeg,Nat.reduceLeDiff,List.length_cons,List.length_nil,true_and,and_true,Nat.zero_add,eq_self,Nat.reduceEqDiff,Int.reduceAdd,Int.reduceSub,Int.reduceMul,not_true_eq_false,not_false_eq_true,Nat.reduceLT,Int.reduceToNat,Int.reduceEq,Int.reduceNe,Int.reduceLT,Int.reduceLE,or_true,or_false,and_self,and_false,false_and,false_implies,true_implies]))
  all_goals first | omega | exact hQ
theorem con_Tforget (hQ : Q none (HX rs pi psz lt lsz tn (0) g1 g2 sd rf im hM)) : Con M_Ro_forget [.ref 83] (HX rs pi psz lt lsz tn tsz g1 g2 sd rf im hM) Q := by
  refine g8_ (L := [some (.ref 83)]) ok_Ro_forget (Nat.le_of_ble_eq_true rfl) rfl ?_
  refine w_Ro_forget_0 ?_
  simp (disch := omega) only [cm_,aq_,ay_,ag_,ak_,b8_,af_,ba_,bc_,bx_,bg_,am_,ae_,ai_,ad_,ac_,b2_,bq_,ed_,bs_,al_,a0_,ao_,as_,c4_,a2_,az_,av_,c1_,dw_,d6_,ea_,d3_,b1_,fl_,fn_,fh_,fu_,fp_,fz_,fq_,fk_,fr_,ft_,fs_,fj_,fi_,fx_,f0_,c5_,bt_,bd_,c3_,ct_,co_,cr_,cz_,cj_,eb_,d5_,cf_,ch_,ci_,an_,cl_,fv_,d1_,dz_,Int.toNat_natCast,f3_,e3_,e2_,e0_,ev_,e1_,e6_,gd_,db_,dh_,dp_,dk_,dl_,c9_,c8_,ey_,ez_,df_,da_,dj_,di_,dm_,dn_,Nat.reduceAdd,Nat.reduceMul,Int.reduceNeg,Nat.reduceLeDiff,List.length_cons,List.length_nil,true_and,and_true,Nat.zero_add,eq_self,Nat.reduceEqDiff,Int.reduceAdd,Int.reduceSub,Int.reduceMul,not_true_eq_false,not_false_eq_true,Nat.reduceLT,Int.reduceToNat,Int.reduceEq,Int.reduceNe,Int.reduceLT,Int.reduceLE,or_true,or_false,and_self,and_false,false_and,false_implies,true_implies]
  exact hQ
/-! what was -/
def rot (pi : Nat → Nat) : Nat → Nat := fun j => if j = 7 then pi 0 else if j < 7 then pi (j + 1) else pi j
def rotN (pi : Nat → Nat) (i : Nat) : Nat → Nat := fun j => if j + 1 < i then pi (j + 1) else pi j
def GP (pi : Nat → Nat) (psz : Int) : Prop := (0 ≤ psz ∧ psz ≤ 8) ∧ (∀ j, j < 8 → pi j < 8) ∧ ∀ i j, i < 8 → j < 8 → pi i = pi j → i = j
theorem hUX_80' {f : Nat → Option Nat} {x : Nat → Nat} (hf : f = fun j => some (6 * (3 + x j))) : hU (HX rs pi psz lt lsz tn tsz g1 g2 sd rf im hM) 80 (.inr (.inl (8, f))) = (HX rs (x) psz lt lsz tn tsz g1 g2 sd rf im hM) := by
  subst hf
  exact hUX_80
theorem con_PdropOldest (hG : GP pi psz) (hQ : Q none (HX rs (rot pi) (7) lt lsz tn tsz g1 g2 sd rf im hM)) : Con M_Pa_dropOldest [.ref 79] (HX rs pi psz lt lsz tn tsz g1 g2 sd rf im hM) Q := by
  have gp := hG.2.1
  have g0 := gp 0 (by omega)
  refine g8_ (L := [some (.ref 79), none, none]) ok_Pa_dropOldest (Nat.le_of_ble_eq_true rfl) rfl ?_
  refine w_Pa_dropOldest_0 ?_
  simp (disch := omega) only [cm_,aq_,ay_,ag_,ak_,b8_,af_,ba_,bc_,bx_,bg_,am_,ae_,ai_,ad_,ac_,b2_,bq_,ed_,bs_,al_,a0_,ao_,as_,c4_,a2_,az_,av_,c1_,dw_,d6_,ea_,d3_,b1_,fl_,fn_,fh_,fu_,fp_,fz_,fq_,fk_,fr_,ft_,fs_,fj_,fi_,fx_,f0_,c5_,bt_,bd_,c3_,ct_,co_,cr_,cz_,cj_,eb_,d5_,cf_,ch_,ci_,an_,cl_,fv_,d1_,dz_,Int.toNat_natCast,f3_,e3_,e2_,e0_,ev_,e1_,e6_,gd_,db_,dh_,dp_,dk_,dl_,c9_,c8_,ey_,ez_,df_,da_,dj_,di_,dm_,dn_,Nat.reduceAdd,Nat.reduceMul,Int.reduceNeg,Nat.reduceLeDiff,List.length_cons,List.length_nil,true_and,and_true,Nat.zero_add,eq_self,Nat.reduceEqDiff,Int.reduceAdd,Int.reduceSub,Int.reduceMul,not_true_eq_false,not_false_eq_true,Nat.reduceLT,Int.reduceToNat,Int.reduceEq,Int.reduceNe,Int.reduceLT,Int.reduceLE,or_true,or_false,and_self,and_false,false_and,false_implies,true_implies,fi_,fj_]
  have loop : ∀ n i : Nat, 1 ≤ i → i + n = 8 → J M_Pa_dropOldest 9 [some (.ref 79), some (.ref (6 * (3 + pi 0))), some (.int (zI i))] [] (HX rs (rotN pi i) psz lt lsz tn tsz g1 g2 sd rf im hM) Q := by
    intro n
    induction n with
    | zero =>
      intro i h1 hi
      have e : i = 8 := by omega
      subst e
      have e2 : (fun j => if j = 7 then pi 0 else rotN pi 8 j) = rot pi := by
        funext j
        simp only [rot, rotN]
        split
        · rfl
        · split
          · rw [if_pos (by omega)]
          · rw [if_neg (by omega)]
      refine w_Pa_dropOldest_9 ?_
      simp (disch := omega) only [cm_,aq_,ay_,ag_,ak_,b8_,af_,ba_,bc_,bx_,bg_,am_,ae_,ai_,ad_,ac_,b2_,bq_,ed_,bs_,al_,a0_,ao_,as_,c4_,a2_,az_,av_,c1_,dw_,d6_,ea_,d3_,b1_,fl_,fn_,fh_,fu_,fp_,fz_,fq_,fk_,fr_,ft_,fs_,fj_,fi_,fx_,f0_,c5_,bt_,bd_,c3_,ct_,co_,cr_,cz_,cj_,eb_,d5_,cf_,ch_,ci_,an_,cl_,fv_,d1_,dz_,Int.toNat_natCast,f3_,e3_,e2_,e0_,ev_,e1_,e6_,gd_,db_,dh_,dp_,dk_,dl_,c9_,c8_,ey_,ez_,df_,da_,dj_,di_,dm_,dn_,Nat.reduceAdd,Nat.reduceMul,Int.reduceNeg,Nat.reduceLeDiff,List.length_cons,List.length_nil,true_and,and_true,Nat.zero_add,eq_self,Nat.reduceEqDiff,Int.reduceAdd,Int.reduceSub,Int.reduceMul,not_true_eq_false,not_false_eq_true,Nat.reduceLT,Int.reduceToNat,Int.reduceEq,Int.reduceNe,Int.reduceLT,Int.reduceLE,or_true,or_false,and_self,and_false,false_and,false_implies,true_implies]
      refine w_Pa_dropOldest_35 ?_
      simp (disch := omega) only [cm_,aq_,ay_,ag_,ak_,b8_,af_,ba_,bc_,bx_,bg_,am_,ae_,ai_,ad_,ac_,b2_,bq_,ed_,bs_,al_,a0_,ao_,as_,c4_,a2_,az_,av_,c1_,dw_,d6_,ea_,d3_,b1_,fl_,fn_,fh_,fu_,fp_,fz_,fq_,fk_,fr_,ft_,fs_,fj_,fi_,fx_,f0_,c5_,bt_,bd_,c3_,ct_,co_,cr_,cz_,cj_,eb_,d5_,cf_,ch_,ci_,an_,cl_,fv_,d1_,dz_,Int.toNat_natCast,f3_,e3_,e2_,e0_,ev_,e1_,e6_,gd_,db_,dh_,dp_,dk_,dl_,c9_,c8_,ey_,ez_,df_,da_,dj_,di_,dm_,dn_,Nat.reduceAdd,Nat.reduceMul,Int.reduceNeg,Nat.reduceLeDiff,List.length_cons,List.length_nil,true_and,and_true,Nat.zero_add,eq_self,Nat.reduceEqDiff,Int.reduceAdd,Int.reduceSub,Int.reduceMul,not_true_eq_false,not_false_eq_true,Nat.reduceLT,Int.reduceToNat,Int.reduceEq,Int.reduceNe,Int.reduceLT,Int.reduceLE,or_true,or_false,and_self,and_false,false_and,false_implies,true_implies,hX_K,up_pi,hUX_80,e2]
      exact hQ
    | succ n ih =>
      intro i h1 hi
      have step := ih (i + 1) (by omega) (by omega)
      have gi := gp i (by omega)
      have er : rotN pi i i = pi i := by
        simp only [rotN]
        rw [if_neg (by omega)]
      have t1 : ((i : Int) - 1).toNat = i - 1 := by omega
      have e2 : (fun j => if j = i - 1 then pi i else rotN pi i j) = rotN pi (i + 1) := by
        funext j
        simp only [rotN]
        by_cases hj : j = i - 1
        · rw [if_pos hj, if_pos (by omega), hj]
          congr 1
          omega
        · rw [if_neg hj]
          split
          · rw [if_pos (by omega)]
          · rw [if_neg (by omega)]
      refine w_Pa_dropOldest_9 ?_
      simp (disch := omega) only [cm_,aq_,ay_,ag_,ak_,b8_,af_,ba_,bc_,bx_,bg_,am_,ae_,ai_,ad_,ac_,b2_,bq_,ed_,bs_,al_,a0_,ao_,as_,c4_,a2_,az_,av_,c1_,dw_,d6_,ea_,d3_,b1_,fl_,fn_,fh_,fu_,fp_,fz_,fq_,fk_,fr_,ft_,fs_,fj_,fi_,fx_,f0_,c5_,bt_,bd_,c3_,ct_,co_,cr_,cz_,cj_,eb_,d5_,cf_,ch_,ci_,an_,cl_,fv_,d1_,dz_,Int.toNat_natCast,f3_,e3_,e2_,e0_,ev_,e1_,e6_,gd_,db_,dh_,dp_,dk_,dl_,c9_,c8_,ey_,ez_,df_,da_,dj_,di_,dm_,dn_,Nat.reduceAdd,Nat.reduceMul,Int.reduceNeg,Nat.reduceLeDiff,List.length_cons,List.length_nil,true_and,and_true,Nat.zero_add,eq_self,Nat.reduceEqDiff,Int.reduceAdd,Int.reduceSub,Int.reduceMul,not_true_eq_false,not_false_eq_true,Nat.reduceLT,Int.reduceToNat,Int.reduceEq,Int.reduceNe,Int.reduceLT,Int.reduceLE,or_true,or_false,and_self,and_false,false_and,false_implies,true_implies,er,t1]
      refine ⟨fun _ => by omega, fun _ => ⟨by omega, ?_⟩⟩
      simp (disch := omega) only [cm_,aq_,ay_,ag_,ak_,b8_,af_,ba_,bc_,bx_,bg_,am_,ae_,ai_,ad_,ac_,b2_,bq_,ed_,bs_,al_,a0_,ao_,as_,c4_,a2_,az_,av_,c1_,dw_,d6_,ea_,d3_,b1_,fl_,fn_,fh_,fu_,fp_,fz_,fq_,fk_,fr_,ft_,fs_,fj_,fi_,fx_,f0_,c5_,bt_,bd_,c3_,ct_,co_,cr_,cz_,cj_,eb_,d5_,cf_,ch_,ci_,an_,cl_,fv_,d1_,dz_,Int.toNat_natCast,f3_,e3_,e2_,e0_,ev_,e1_,e6_,gd_,db_,dh_,dp_,dk_,dl_,c9_,c8_,ey_,ez_,df_,da_,dj_,di_,dm_,dn_,Nat.reduceAdd,Nat.reduceMul,Int.reduceNeg,Nat.reduceLeDiff,List.length_cons,List.length_nil,true_and,and_true,Nat.zero_add,eq_self,Nat.reduceEqDiff,Int.reduceAdd,Int.reduceSub,Int.reduceMul,not_true_eq_false,not_false_eq_true,Nat.reduceLT,Int.reduceToNat,Int.reduceEq,Int.reduceNe,Int.reduceLT,Int.reduceLE,or_true,or_false,and_self,and_false,false_and,false_implies,true_implies,hX_K,up_pi,hUX_80,e2,t1]
      exact ⟨by omega, step⟩
  have e1 : rotN pi 1 = pi := by
    funext j
    simp [rotN]
  have := loop 7 1 (by omega) rfl
  rw [e1] at this
  exact this
theorem con_Premember (hG : GP pi psz) (hQ1 : psz < 8 → Q none (HX (upR rs (3 + pi psz.toNat) (rs 0)) pi (psz + 1) lt lsz tn tsz g1 g2 sd rf im hM)) (hQ2 : psz = 8 → Q none (HX (upR rs (3 + pi 0) (rs 0)) (rot pi) (8) lt lsz tn tsz g1 g2 sd rf im hM)) : Con M_Pa_remember [.ref 79, .ref 0] (HX rs pi psz lt lsz tn tsz g1 g2 sd rf im hM) Q := by
  have gp := hG.2.1
  have gs := hG.1
  have g0 := gp 0 (by omega)
  refine g8_ (L := [some (.ref 79), some (.ref 0)]) ok_Pa_remember (Nat.le_of_ble_eq_true rfl) rfl ?_
  refine w_Pa_remember_0 ?_
  simp (disch := omega) only [cm_,aq_,ay_,ag_,ak_,b8_,af_,ba_,bc_,bx_,bg_,am_,ae_,ai_,ad_,ac_,b2_,bq_,ed_,bs_,al_,a0_,ao_,as_,c4_,a2_,az_,av_,c1_,dw_,d6_,ea_,d3_,b1_,fl_,fn_,fh_,fu_,fp_,fz_,fq_,fk_,fr_,ft_,fs_,fj_,fi_,fx_,f0_,c5_,bt_,bd_,c3_,ct_,co_,cr_,cz_,cj_,eb_,d5_,cf_,ch_,ci_,an_,cl_,fv_,d1_,dz_,Int.toNat_natCast,f3_,e3_,e2_,e0_,ev_,e1_,e6_,gd_,db_,dh_,dp_,dk_,dl_,c9_,c8_,ey_,ez_,df_,da_,dj_,di_,dm_,dn_,Nat.reduceAdd,Nat.reduceMul,Int.reduceNeg,Nat.reduceLeDiff,List.length_cons,List.length_nil,true_and,and_true,Nat.zero_add,eq_self,Nat.reduceEqDiff,Int.reduceAdd,Int.reduceSub,Int.reduceMul,not_true_eq_false,not_false_eq_true,Nat.reduceLT,Int.reduceToNat,Int.reduceEq,Int.reduceNe,Int.reduceLT,Int.reduceLE,or_true,or_false,and_self,and_false,false_and,false_implies,true_implies]
  refine ⟨fun c => ?_, fun c => ?_⟩
  · have gi := gp psz.toNat (by omega)
    refine w_Pa_remember_13 ?_
    simp (disch := omega) only [cm_,aq_,ay_,ag_,ak_,b8_,af_,ba_,bc_,bx_,bg_,am_,ae_,ai_,ad_,ac_,b2_,bq_,ed_,bs_,al_,a0_,ao_,as_,c4_,a2_,az_,av_,c1_,dw_,d6_,ea_,d3_,b1_,fl_,fn_,fh_,fu_,fp_,fz_,fq_,fk_,fr_,ft_,fs_,fj_,fi_,fx_,f0_,c5_,bt_,bd_,c3_,ct_,co_,cr_,cz_,cj_,eb_,d5_,cf_,ch_,ci_,an_,cl_,fv_,d1_,dz_,Int.toNat_natCast,f3_,e3_,e2_,e0_,ev_,e1_,e6_,gd_,db_,dh_,dp_,dk_,dl_,c9_,c8_,ey_,ez_,df_,da_,dj_,di_,dm_,dn_,Nat.reduceAdd,Nat.reduceMul,Int.reduceNeg,Nat.reduceLeDiff,List.length_cons,List.length_nil,true_and,and_true,Nat.zero_add,eq_self,Nat.reduceEqDiff,Int.reduceAdd,Int.reduceSub,Int.reduceMul,not_true_eq_false,not_false_eq_true,Nat.reduceLT,Int.reduceToNat,Int.reduceEq,Int.reduceNe,Int.reduceLT,Int.reduceLE,or_true,or_false,and_self,and_false,false_and,false_implies,true_implies]
    refine ⟨fun _ => by omega, fun _ => ⟨fun _ => by omega, fun _ => ⟨by omega, by omega, ?_⟩⟩⟩
    simp (disch := omega) only [cm_,aq_,ay_,ag_,ak_,b8_,af_,ba_,bc_,bx_,bg_,am_,ae_,ai_,ad_,ac_,b2_,bq_,ed_,bs_,al_,a0_,ao_,as_,c4_,a2_,az_,av_,c1_,dw_,d6_,ea_,d3_,b1_,fl_,fn_,fh_,fu_,fp_,fz_,fq_,fk_,fr_,ft_,fs_,fj_,fi_,fx_,f0_,c5_,bt_,bd_,c3_,ct_,co_,cr_,cz_,cj_,eb_,d5_,cf_,ch_,ci_,an_,cl_,fv_,d1_,dz_,Int.toNat_natCast,f3_,e3_,e2_,e0_,ev_,e1_,e6_,gd_,db_,dh_,dp_,dk_,dl_,c9_,c8_,ey_,ez_,df_,da_,dj_,di_,dm_,dn_,Nat.reduceAdd,Nat.reduceMul,Int.reduceNeg,Nat.reduceLeDiff,List.length_cons,List.length_nil,true_and,and_true,Nat.zero_add,eq_self,Nat.reduceEqDiff,Int.reduceAdd,Int.reduceSub,Int.reduceMul,not_true_eq_false,not_false_eq_true,Nat.reduceLT,Int.reduceToNat,Int.reduceEq,Int.reduceNe,Int.reduceLT,Int.reduceLE,or_true,or_false,and_self,and_false,false_and,false_implies,true_implies,hX_K]
    refine conX_become (i := 3 + pi psz.toNat) (j := 0) (by omega) (by omega) (by omega) ?_
    simp (disch := omega) only [cm_,aq_,ay_,ag_,ak_,b8_,af_,ba_,bc_,bx_,bg_,am_,ae_,ai_,ad_,ac_,b2_,bq_,ed_,bs_,al_,a0_,ao_,as_,c4_,a2_,az_,av_,c1_,dw_,d6_,ea_,d3_,b1_,fl_,fn_,fh_,fu_,fp_,fz_,fq_,fk_,fr_,ft_,fs_,fj_,fi_,fx_,f0_,c5_,bt_,bd_,c3_,ct_,co_,cr_,cz_,cj_,eb_,d5_,cf_,ch_,ci_,an_,cl_,fv_,d1_,dz_,Int.toNat_natCast,f3_,e3_,e2_,e0_,ev_,e1_,e6_,gd_,db_,dh_,dp_,dk_,dl_,c9_,c8_,ey_,ez_,df_,da_,dj_,di_,dm_,dn_,Nat.reduceAdd,Nat.reduceMul,Int.reduceNeg,Nat.reduceLeDiff,List.length_cons,List.length_nil,true_and,and_true,Nat.zero_add,eq_self,Nat.reduceEqDiff,Int.reduceAdd,Int.reduceSub,Int.reduceMul,not_true_eq_false,not_false_eq_true,Nat.reduceLT,Int.reduceToNat,Int.reduceEq,Int.reduceNe,Int.reduceLT,Int.reduceLE,or_true,or_false,and_self,and_false,false_and,false_implies,true_implies]
    refine w_Pa_remember_64 ?_
    simp (disch := omega) only [cm_,aq_,ay_,ag_,ak_,b8_,af_,ba_,bc_,bx_,bg_,am_,ae_,ai_,ad_,ac_,b2_,bq_,ed_,bs_,al_,a0_,ao_,as_,c4_,a2_,az_,av_,c1_,dw_,d6_,ea_,d3_,b1_,fl_,fn_,fh_,fu_,fp_,fz_,fq_,fk_,fr_,ft_,fs_,fj_,fi_,fx_,f0_,c5_,bt_,bd_,c3_,ct_,co_,cr_,cz_,cj_,eb_,d5_,cf_,ch_,ci_,an_,cl_,fv_,d1_,dz_,Int.toNat_natCast,f3_,e3_,e2_,e0_,ev_,e1_,e6_,gd_,db_,dh_,dp_,dk_,dl_,c9_,c8_,ey_,ez_,df_,da_,dj_,di_,dm_,dn_,Nat.reduceAdd,Nat.reduceMul,Int.reduceNeg,Nat.reduceLeDiff,List.length_cons,List.length_nil,true_and,and_true,Nat.zero_add,eq_self,Nat.reduceEqDiff,Int.reduceAdd,Int.reduceSub,Int.reduceMul,not_true_eq_false,not_false_eq_true,Nat.reduceLT,Int.reduceToNat,Int.reduceEq,Int.reduceNe,Int.reduceLT,Int.reduceLE,or_true,or_false,and_self,and_false,false_and,false_implies,true_implies]
    exact hQ1 (by omega)
  · have e : psz = 8 := by omega
    refine con_PdropOldest hG ?_
    simp (disch := omega) only [cm_,aq_,ay_,ag_,ak_,b8_,af_,ba_,bc_,bx_,bg_,am_,ae_,ai_,ad_,ac_,b2_,bq_,ed_,bs_,al_,a0_,ao_,as_,c4_,a2_,az_,av_,c1_,dw_,d6_,ea_,d3_,b1_,fl_,fn_,fh_,fu_,fp_,fz_,fq_,fk_,fr_,ft_,fs_,fj_,fi_,fx_,f0_,c5_,bt_,bd_,c3_,ct_,co_,cr_,cz_,cj_,eb_,d5_,cf_,ch_,ci_,an_,cl_,fv_,d1_,dz_,Int.toNat_natCast,f3_,e3_,e2_,e0_,ev_,e1_,e6_,gd_,db_,dh_,dp_,dk_,dl_,c9_,c8_,ey_,ez_,df_,da_,dj_,di_,dm_,dn_,Nat.reduceAdd,Nat.reduceMul,Int.reduceNeg,Nat.reduceLeDiff,List.length_cons,List.length_nil,true_and,and_true,Nat.zero_add,eq_self,Nat.reduceEqDiff,Int.reduceAdd,Int.reduceSub,Int.reduceMul,not_true_eq_false,not_false_eq_true,Nat.reduceLT,Int.reduceToNat,Int.reduceEq,Int.reduceNe,Int.reduceLT,Int.reduceLE,or_true,or_false,and_self,and_false,false_and,false_implies,true_implies]
    refine w_Pa_remember_13 ?_
    have er : rot pi 7 = pi 0 := by simp [rot]
    simp (disch := omega) only [cm_,aq_,ay_,ag_,ak_,b8_,af_,ba_,bc_,bx_,bg_,am_,ae_,ai_,ad_,ac_,b2_,bq_,ed_,bs_,al_,a0_,ao_,as_,c4_,a2_,az_,av_,c1_,dw_,d6_,ea_,d3_,b1_,fl_,fn_,fh_,fu_,fp_,fz_,fq_,fk_,fr_,ft_,fs_,fj_,fi_,fx_,f0_,c5_,bt_,bd_,c3_,ct_,co_,cr_,cz_,cj_,eb_,d5_,cf_,ch_,ci_,an_,cl_,fv_,d1_,dz_,Int.toNat_natCast,f3_,e3_,e2_,e0_,ev_,e1_,e6_,gd_,db_,dh_,dp_,dk_,dl_,c9_,c8_,ey_,ez_,df_,da_,dj_,di_,dm_,dn_,Nat.reduceAdd,Nat.reduceMul,Int.reduceNeg,Nat.reduceLeDiff,List.length_cons,List.length_nil,true_and,and_true,Nat.zero_add,eq_self,Nat.reduceEqDiff,Int.reduceAdd,Int.reduceSub,Int.reduceMul,not_true_eq_false,not_false_eq_true,Nat.reduceLT,Int.reduceToNat,Int.reduceEq,Int.reduceNe,Int.reduceLT,Int.reduceLE,or_true,or_false,and_self,and_false,false_and,false_implies,true_implies,er]
    simp (disch := omega) only [cm_,aq_,ay_,ag_,ak_,b8_,af_,ba_,bc_,bx_,bg_,am_,ae_,ai_,ad_,ac_,b2_,bq_,ed_,bs_,al_,a0_,ao_,as_,c4_,a2_,az_,av_,c1_,dw_,d6_,ea_,d3_,b1_,fl_,fn_,fh_,fu_,fp_,fz_,fq_,fk_,fr_,ft_,fs_,fj_,fi_,fx_,f0_,c5_,bt_,bd_,c3_,ct_,co_,cr_,cz_,cj_,eb_,d5_,cf_,ch_,ci_,an_,cl_,fv_,d1_,dz_,Int.toNat_natCast,f3_,e3_,e2_,e0_,ev_,e1_,e6_,gd_,db_,dh_,dp_,dk_,dl_,c9_,c8_,ey_,ez_,df_,da_,dj_,di_,dm_,dn_,Nat.reduceAdd,Nat.reduceMul,Int.reduceNeg,Nat.reduceLeDiff,List.length_cons,List.length_nil,true_and,and_true,Nat.zero_add,eq_self,Nat.reduceEqDiff,Int.reduceAdd,Int.reduceSub,Int.reduceMul,not_true_eq_false,not_false_eq_true,Nat.reduceLT,Int.reduceToNat,Int.reduceEq,Int.reduceNe,Int.reduceLT,Int.reduceLE,or_true,or_false,and_self,and_false,false_and,false_implies,true_implies,hX_K]
    refine conX_become (i := 3 + pi 0) (j := 0) (by omega) (by omega) (by omega) ?_
    simp (disch := omega) only [cm_,aq_,ay_,ag_,ak_,b8_,af_,ba_,bc_,bx_,bg_,am_,ae_,ai_,ad_,ac_,b2_,bq_,ed_,bs_,al_,a0_,ao_,as_,c4_,a2_,az_,av_,c1_,dw_,d6_,ea_,d3_,b1_,fl_,fn_,fh_,fu_,fp_,fz_,fq_,fk_,fr_,ft_,fs_,fj_,fi_,fx_,f0_,c5_,bt_,bd_,c3_,ct_,co_,cr_,cz_,cj_,eb_,d5_,cf_,ch_,ci_,an_,cl_,fv_,d1_,dz_,Int.toNat_natCast,f3_,e3_,e2_,e0_,ev_,e1_,e6_,gd_,db_,dh_,dp_,dk_,dl_,c9_,c8_,ey_,ez_,df_,da_,dj_,di_,dm_,dn_,Nat.reduceAdd,Nat.reduceMul,Int.reduceNeg,Nat.reduceLeDiff,List.length_cons,List.length_nil,true_and,and_true,Nat.zero_add,eq_self,Nat.reduceEqDiff,Int.reduceAdd,Int.reduceSub,Int.reduceMul,not_true_eq_false,not_false_eq_true,Nat.reduceLT,Int.reduceToNat,Int.reduceEq,Int.reduceNe,Int.reduceLT,Int.reduceLE,or_true,or_false,and_self,and_false,false_and,false_implies,true_implies]
    refine w_Pa_remember_64 ?_
    simp (disch := omega) only [cm_,aq_,ay_,ag_,ak_,b8_,af_,ba_,bc_,bx_,bg_,am_,ae_,ai_,ad_,ac_,b2_,bq_,ed_,bs_,al_,a0_,ao_,as_,c4_,a2_,az_,av_,c1_,dw_,d6_,ea_,d3_,b1_,fl_,fn_,fh_,fu_,fp_,fz_,fq_,fk_,fr_,ft_,fs_,fj_,fi_,fx_,f0_,c5_,bt_,bd_,c3_,ct_,co_,cr_,cz_,cj_,eb_,d5_,cf_,ch_,ci_,an_,cl_,fv_,d1_,dz_,Int.toNat_natCast,f3_,e3_,e2_,e0_,ev_,e1_,e6_,gd_,db_,dh_,dp_,dk_,dl_,c9_,c8_,ey_,ez_,df_,da_,dj_,di_,dm_,dn_,Nat.reduceAdd,Nat.reduceMul,Int.reduceNeg,Nat.reduceLeDiff,List.length_cons,List.length_nil,true_and,and_true,Nat.zero_add,eq_self,Nat.reduceEqDiff,Int.reduceAdd,Int.reduceSub,Int.reduceMul,not_true_eq_false,not_false_eq_true,Nat.reduceLT,Int.reduceToNat,Int.reduceEq,Int.reduceNe,Int.reduceLT,Int.reduceLE,or_true,or_false,and_self,and_false,false_and,false_implies,true_implies]
    exact hQ2 e
theorem con_PtakeBack (hG : GP pi psz) (hs : 0 < psz) (hQ : Q none (HX (upR rs 0 (rs (3 + pi (psz - 1).toNat))) pi (psz - 1) lt lsz tn tsz g1 g2 sd rf im hM)) : Con M_Pa_takeBack [.ref 79, .ref 0] (HX rs pi psz lt lsz tn tsz g1 g2 sd rf im hM) Q := by
  have gp := hG.2.1
  have gs := hG.1
  have gi := gp (psz - 1).toNat (by omega)
  refine g8_ (L := [some (.ref 79), some (.ref 0)]) ok_Pa_takeBack (Nat.le_of_ble_eq_true rfl) rfl ?_
  refine w_Pa_takeBack_0 ?_
  simp (disch := omega) only [cm_,aq_,ay_,ag_,ak_,b8_,af_,ba_,bc_,bx_,bg_,am_,ae_,ai_,ad_,ac_,b2_,bq_,ed_,bs_,al_,a0_,ao_,as_,c4_,a2_,az_,av_,c1_,dw_,d6_,ea_,d3_,b1_,fl_,fn_,fh_,fu_,fp_,fz_,fq_,fk_,fr_,ft_,fs_,fj_,fi_,fx_,f0_,c5_,bt_,bd_,c3_,ct_,co_,cr_,cz_,cj_,eb_,d5_,cf_,ch_,ci_,an_,cl_,fv_,d1_,dz_,Int.toNat_natCast,f3_,e3_,e2_,e0_,ev_,e1_,e6_,gd_,db_,dh_,dp_,dk_,dl_,c9_,c8_,ey_,ez_,df_,da_,dj_,di_,dm_,dn_,Nat.reduceAdd,Nat.reduceMul,Int.reduceNeg,Nat.reduceLeDiff,List.length_cons,List.length_nil,true_and,and_true,Nat.zero_add,eq_self,Nat.reduceEqDiff,Int.reduceAdd,Int.reduceSub,Int.reduceMul,not_true_eq_false,not_false_eq_true,Nat.reduceLT,Int.reduceToNat,Int.reduceEq,Int.reduceNe,Int.reduceLT,Int.reduceLE,or_true,or_false,and_self,and_false,false_and,false_implies,true_implies]
  refine ⟨fun _ => by omega, fun _ => ⟨fun _ => by omega, fun _ => ⟨by omega, ?_⟩⟩⟩
  refine conX_become (i := 0) (j := 3 + pi (psz - 1).toNat) (by omega) (by omega) (by omega) ?_
  simp (disch := omega) only [cm_,aq_,ay_,ag_,ak_,b8_,af_,ba_,bc_,bx_,bg_,am_,ae_,ai_,ad_,ac_,b2_,bq_,ed_,bs_,al_,a0_,ao_,as_,c4_,a2_,az_,av_,c1_,dw_,d6_,ea_,d3_,b1_,fl_,fn_,fh_,fu_,fp_,fz_,fq_,fk_,fr_,ft_,fs_,fj_,fi_,fx_,f0_,c5_,bt_,bd_,c3_,ct_,co_,cr_,cz_,cj_,eb_,d5_,cf_,ch_,ci_,an_,cl_,fv_,d1_,dz_,Int.toNat_natCast,f3_,e3_,e2_,e0_,ev_,e1_,e6_,gd_,db_,dh_,dp_,dk_,dl_,c9_,c8_,ey_,ez_,df_,da_,dj_,di_,dm_,dn_,Nat.reduceAdd,Nat.reduceMul,Int.reduceNeg,Nat.reduceLeDiff,List.length_cons,List.length_nil,true_and,and_true,Nat.zero_add,eq_self,Nat.reduceEqDiff,Int.reduceAdd,Int.reduceSub,Int.reduceMul,not_true_eq_false,not_false_eq_true,Nat.reduceLT,Int.reduceToNat,Int.reduceEq,Int.reduceNe,Int.reduceLT,Int.reduceLE,or_true,or_false,and_self,and_false,false_and,false_implies,true_implies]
  refine w_Pa_takeBack_43 ?_
  simp (disch := omega) only [cm_,aq_,ay_,ag_,ak_,b8_,af_,ba_,bc_,bx_,bg_,am_,ae_,ai_,ad_,ac_,b2_,bq_,ed_,bs_,al_,a0_,ao_,as_,c4_,a2_,az_,av_,c1_,dw_,d6_,ea_,d3_,b1_,fl_,fn_,fh_,fu_,fp_,fz_,fq_,fk_,fr_,ft_,fs_,fj_,fi_,fx_,f0_,c5_,bt_,bd_,c3_,ct_,co_,cr_,cz_,cj_,eb_,d5_,cf_,ch_,ci_,an_,cl_,fv_,d1_,dz_,Int.toNat_natCast,f3_,e3_,e2_,e0_,ev_,e1_,e6_,gd_,db_,dh_,dp_,dk_,dl_,c9_,c8_,ey_,ez_,df_,da_,dj_,di_,dm_,dn_,Nat.reduceAdd,Nat.reduceMul,Int.reduceNeg,Nat.reduceLeDiff,List.length_cons,List.length_nil,true_and,and_true,Nat.zero_add,eq_self,Nat.reduceEqDiff,Int.reduceAdd,Int.reduceSub,Int.reduceMul,not_true_eq_false,not_false_eq_true,Nat.reduceLT,Int.reduceToNat,Int.reduceEq,Int.reduceNe,Int.reduceLT,Int.reduceLE,or_true,or_false,and_self,and_false,false_and,false_implies,true_implies]
  exact hQ
theorem con_Pforget (hQ : Q none (HX rs pi (0) lt lsz tn tsz g1 g2 sd rf im hM)) : Con M_Pa_forget [.ref 79] (HX rs pi psz lt lsz tn tsz g1 g2 sd rf im hM) Q := by
  refine g8_ (L := [some (.ref 79)]) ok_Pa_forget (Nat.le_of_ble_eq_true rfl) rfl ?_
  refine w_Pa_forget_0 ?_
  simp (disch := omega) only [cm_,aq_,ay_,ag_,ak_,b8_,af_,ba_,bc_,bx_,bg_,am_,ae_,ai_,ad_,ac_,b2_,bq_,ed_,bs_,al_,a0_,ao_,as_,c4_,a2_,az_,av_,c1_,dw_,d6_,ea_,d3_,b1_,fl_,fn_,fh_,fu_,fp_,fz_,fq_,fk_,fr_,ft_,fs_,fj_,fi_,fx_,f0_,c5_,bt_,bd_,c3_,ct_,co_,cr_,cz_,cj_,eb_,d5_,cf_,ch_,ci_,an_,cl_,fv_,d1_,dz_,Int.toNat_natCast,f3_,e3_,e2_,e0_,ev_,e1_,e6_,gd_,db_,dh_,dp_,dk_,dl_,c9_,c8_,ey_,ez_,df_,da_,dj_,di_,dm_,dn_,Nat.reduceAdd,Nat.reduceMul,Int.reduceNeg,Nat.reduceLeDiff,List.length_cons,List.length_nil,true_and,and_true,Nat.zero_add,eq_self,Nat.reduceEqDiff,Int.reduceAdd,Int.reduceSub,Int.reduceMul,not_true_eq_false,not_false_eq_true,Nat.reduceLT,Int.reduceToNat,Int.reduceEq,Int.reduceNe,Int.reduceLT,Int.reduceLE,or_true,or_false,and_self,and_false,false_and,false_implies,true_implies]
  exact hQ
end C5
end
/-! mind -/
section
/-! ===== the realm in mind: slot q (1 the object's, 11 the counsel's, 12 the chances') ===== -/
section C6
variable {rs : Nat → RR} {pi : Nat → Nat} {psz : Int} {lt : Nat → Int} {lsz : Int} {tn : Nat → Int} {tsz : Int} {g1 g2 : Nat → Int} {sd : Int} {rf : Nat → Int} {im : Int} {hM : AH} {Q : Option Value → AH → Prop} {A : RR}
abbrev mq (q : Nat) : Prop := 0 < q ∧ q < 13
theorem conM_become {q : Nat} (hq : mq q) (hQ : Q none (HX (upR rs q (rs 0)) pi psz lt lsz tn tsz g1 g2 sd rf im hM)) : Con M_Re_become [.ref (6 * q), .ref 0] (HX (upR rs q A) pi psz lt lsz tn tsz g1 g2 sd rf im hM) Q := by
  refine conX_become (i := q) (j := 0) hq.2 (by omega) (by omega) ?_
  rw [c8_, upR_n _ _ (by omega)]
  exact hQ
theorem conM_of {q : Nat} (hq : mq q) {Y : MD} {as : List Value} (H : Con Y as (he_ (HX (upR rs q A) pi psz lt lsz tn tsz g1 g2 sd rf im hM) (6 * q) A) Q) : Con Y as (HX (upR rs q A) pi psz lt lsz tn tsz g1 g2 sd rf im hM) Q := by
  refine conX_at (i := q) hq.2 ?_
  rw [et_]
  exact H
theorem conM_back {q : Nat} (hq : mq q) {B : RR} : he_ (HX (upR rs q A) pi psz lt lsz tn tsz g1 g2 sd rf im hM) (6 * q) B = (HX (upR rs q B) pi psz lt lsz tn tsz g1 g2 sd rf im hM) := by
  rw [hX_set hq.2, c8_]
theorem conM_passDays {q n : Nat} (hq : mq q) (hn : n ≤ 100) (hG : GR A) (hQ : Q (some (.int (zI (wtX A n)))) (HX (upR rs q (g6_ A n)) pi psz lt lsz tn tsz g1 g2 sd rf im hM)) : Con M_Re_passDays [.ref (6 * q), .int (zI n)] (HX (upR rs q A) pi psz lt lsz tn tsz g1 g2 sd rf im hM) Q := by
  refine conM_of hq (con_passDays hn hG ?_)
  rw [conM_back hq]
  exact hQ
theorem conM_waits {q : Nat} (hq : mq q) (hG : GR A) (hQ : Q (some (.int (zI (b2i (waitX A))))) (HX (upR rs q (dayX A)) pi psz lt lsz tn tsz g1 g2 sd rf im hM)) : Con M_Re_waitsOneDay [.ref (6 * q)] (HX (upR rs q A) pi psz lt lsz tn tsz g1 g2 sd rf im hM) Q := by
  refine conM_of hq (con_waitsOneDay hG ?_)
  rw [conM_back hq]
  exact hQ
theorem conM_isHome {q : Nat} (hq : mq q) (hG : GR A) (h1 : hd_ A = 12 → Q (some (.int (zI 1))) (HX (upR rs q A) pi psz lt lsz tn tsz g1 g2 sd rf im hM)) (h0 : ¬ hd_ A = 12 → Q (some (.int (zI 0))) (HX (upR rs q A) pi psz lt lsz tn tsz g1 g2 sd rf im hM)) : Con M_Re_isHome [.ref (6 * q)] (HX (upR rs q A) pi psz lt lsz tn tsz g1 g2 sd rf im hM) Q := by
  refine conM_of hq (con_isHome hG (fun c => ?_) (fun c => ?_))
  · rw [conM_back hq]
    exact h1 c
  · rw [conM_back hq]
    exact h0 c
theorem conM_fateOf {q : Nat} {m : Int} (hq : mq q) (hm : inI m) (hG : GR A) (h1 : g7_ A m → Q (some (.int (zI (rFa A m.toNat)))) (HX (upR rs q A) pi psz lt lsz tn tsz g1 g2 sd rf im hM)) (h0 : ¬ g7_ A m → Q (some (.int (zI (-9)))) (HX (upR rs q A) pi psz lt lsz tn tsz g1 g2 sd rf im hM)) : Con M_Re_fateOf [.ref (6 * q), .int (zI m)] (HX (upR rs q A) pi psz lt lsz tn tsz g1 g2 sd rf im hM) Q := by
  refine conM_of hq (con_fateOf hm hG (fun c => ?_) (fun c => ?_))
  · rw [conM_back hq]
    exact h1 c
  · rw [conM_back hq]
    exact h0 c
theorem conM_wornOf {q : Nat} {m : Int} (hq : mq q) (hm : inI m) (hG : GR A) (h1 : g7_ A m → Q (some (.int (zI (rWo A m.toNat)))) (HX (upR rs q A) pi psz lt lsz tn tsz g1 g2 sd rf im hM)) (h0 : ¬ g7_ A m → Q (some (.int (zI (-9)))) (HX (upR rs q A) pi psz lt lsz tn tsz g1 g2 sd rf im hM)) : Con M_Re_wornOf [.ref (6 * q), .int (zI m)] (HX (upR rs q A) pi psz lt lsz tn tsz g1 g2 sd rf im hM) Q := by
  refine conM_of hq (con_wornOf hm hG (fun c => ?_) (fun c => ?_))
  · rw [conM_back hq]
    exact h1 c
  · rw [conM_back hq]
    exact h0 c
theorem conM_makeFate {q : Nat} {m x : Int} (hq : mq q) (hm : inI m) (hG : GR A) (h1 : g7_ A m → Q none (HX (upR rs q (sFa A (upI (rFa A) m.toNat x))) pi psz lt lsz tn tsz g1 g2 sd rf im hM)) (h0 : ¬ g7_ A m → Q none (HX (upR rs q A) pi psz lt lsz tn tsz g1 g2 sd rf im hM)) : Con M_Re_makeFate [.ref (6 * q), .int (zI m), .int (zI x)] (HX (upR rs q A) pi psz lt lsz tn tsz g1 g2 sd rf im hM) Q := by
  refine conM_of hq (con_makeFate hm hG (fun c => ?_) (fun c => ?_))
  · rw [conM_back hq]
    exact h1 c
  · rw [conM_back hq]
    exact h0 c
theorem conM_makeKind {q : Nat} {m x : Int} (hq : mq q) (hm : inI m) (hG : GR A) (h1 : g7_ A m → Q none (HX (upR rs q (sKi A (upI (rKi A) m.toNat x))) pi psz lt lsz tn tsz g1 g2 sd rf im hM)) (h0 : ¬ g7_ A m → Q none (HX (upR rs q A) pi psz lt lsz tn tsz g1 g2 sd rf im hM)) : Con M_Re_makeKind [.ref (6 * q), .int (zI m), .int (zI x)] (HX (upR rs q A) pi psz lt lsz tn tsz g1 g2 sd rf im hM) Q := by
  refine conM_of hq (con_makeKind hm hG (fun c => ?_) (fun c => ?_))
  · rw [conM_back hq]
    exact h1 c
  · rw [conM_back hq]
    exact h0 c
theorem conM_makeFigure {q : Nat} {m x : Int} (hq : mq q) (hm : inI m) (hG : GR A) (h1 : g7_ A m → Q none (HX (upR rs q (sFi A (upI (rFi A) m.toNat x))) pi psz lt lsz tn tsz g1 g2 sd rf im hM)) (h0 : ¬ g7_ A m → Q none (HX (upR rs q A) pi psz lt lsz tn tsz g1 g2 sd rf im hM)) : Con M_Re_makeFigure [.ref (6 * q), .int (zI m), .int (zI x)] (HX (upR rs q A) pi psz lt lsz tn tsz g1 g2 sd rf im hM) Q := by
  refine conM_of hq (con_makeFigure hm hG (fun c => ?_) (fun c => ?_))
  · rw [conM_back hq]
    exact h1 c
  · rw [conM_back hq]
    exact h0 c
theorem conM_levels {q : Nat} {s v : Int} (hq : mq q) (hs : inI s) (h1 : 0 ≤ s ∧ s < 12 → Q (some (.int (zI 1))) (HX (upR rs q (sSl A (upI (rSl A) s.toNat v))) pi psz lt lsz tn tsz g1 g2 sd rf im hM)) (h0 : ¬ (0 ≤ s ∧ s < 12) → Q (some (.int (zI 0))) (HX (upR rs q A) pi psz lt lsz tn tsz g1 g2 sd rf im hM)) : Con M_Re_levels [.ref (6 * q), .int (zI s), .int (zI v)] (HX (upR rs q A) pi psz lt lsz tn tsz g1 g2 sd rf im hM) Q := by
  refine conM_of hq (con_levels hs (fun c => ?_) (fun c => ?_))
  · rw [conM_back hq]
    exact h1 c
  · rw [conM_back hq]
    exact h0 c
theorem conM_menWhoAre {q : Nat} {w : Int} (hq : mq q) (hw : inI w) (hG : GR A) (hQ : Q (some (.int (zI (mask (isF A w) (hb_ A) : Nat)))) (HX (upR rs q A) pi psz lt lsz tn tsz g1 g2 sd rf im hM)) : Con M_Re_menWhoAre [.ref (6 * q), .int (zI w)] (HX (upR rs q A) pi psz lt lsz tn tsz g1 g2 sd rf im hM) Q := by
  refine conM_of hq (con_menWhoAre hw hG ?_)
  rw [conM_back hq]
  exact hQ
theorem conM_snowMore {q : Nat} {v : Int} (hq : mq q) (hv : 0 ≤ v ∧ v ≤ 9) (hG : GR A) (hQ : Q none (HX (upR rs q (sSnow A (min 9 (rSnow A + v)))) pi psz lt lsz tn tsz g1 g2 sd rf im hM)) : Con M_Re_snowMore [.ref (6 * q), .int (zI v)] (HX (upR rs q A) pi psz lt lsz tn tsz g1 g2 sd rf im hM) Q := by
  refine conM_of hq (con_snowMore hv hG ?_)
  rw [conM_back hq]
  exact hQ
/-- of the realm that is -/
theorem conN_of {Y : MD} {as : List Value} (H : Con Y as (he_ (HX rs pi psz lt lsz tn tsz g1 g2 sd rf im hM) (6 * 0) (rs 0)) Q) : Con Y as (HX rs pi psz lt lsz tn tsz g1 g2 sd rf im hM) Q := conX_at (i := 0) (by omega) H
theorem conN_back : he_ (HX rs pi psz lt lsz tn tsz g1 g2 sd rf im hM) (6 * 0) (rs 0) = (HX rs pi psz lt lsz tn tsz g1 g2 sd rf im hM) := hX_get (by omega)
theorem conN_fateOf {m : Int} (hm : inI m) (hG : GR (rs 0)) (h1 : g7_ (rs 0) m → Q (some (.int (zI (rFa (rs 0) m.toNat)))) (HX rs pi psz lt lsz tn tsz g1 g2 sd rf im hM)) (h0 : ¬ g7_ (rs 0) m → Q (some (.int (zI (-9)))) (HX rs pi psz lt lsz tn tsz g1 g2 sd rf im hM)) : Con M_Re_fateOf [.ref 0, .int (zI m)] (HX rs pi psz lt lsz tn tsz g1 g2 sd rf im hM) Q := by
  refine conN_of (con_fateOf (r := 6 * 0) hm hG (fun c => ?_) (fun c => ?_))
  · rw [conN_back]
    exact h1 c
  · rw [conN_back]
    exact h0 c
theorem conMN_fateOf {q : Nat} {m : Int} (hq : mq q) (hm : inI m) (hG : GR (rs 0)) (h1 : g7_ (rs 0) m → Q (some (.int (zI (rFa (rs 0) m.toNat)))) (HX (upR rs q A) pi psz lt lsz tn tsz g1 g2 sd rf im hM)) (h0 : ¬ g7_ (rs 0) m → Q (some (.int (zI (-9)))) (HX (upR rs q A) pi psz lt lsz tn tsz g1 g2 sd rf im hM)) : Con M_Re_fateOf [.ref 0, .int (zI m)] (HX (upR rs q A) pi psz lt lsz tn tsz g1 g2 sd rf im hM) Q := by
  have e : upR rs q A 0 = rs 0 := upR_n _ _ (by omega)
  refine conN_fateOf hm (by rw [e]; exact hG) (fun c => ?_) (fun c => ?_)
  · rw [e] at c ⊢
    exact h1 c
  · rw [e] at c
    exact h0 c
theorem conN_menWhoAre {w : Int} (hw : inI w) (hG : GR (rs 0)) (hQ : Q (some (.int (zI (mask (isF (rs 0) w) (hb_ (rs 0)) : Nat)))) (HX rs pi psz lt lsz tn tsz g1 g2 sd rf im hM)) : Con M_Re_menWhoAre [.ref 0, .int (zI w)] (HX rs pi psz lt lsz tn tsz g1 g2 sd rf im hM) Q := by
  refine conN_of (con_menWhoAre (r := 6 * 0) hw hG ?_)
  rw [conN_back]
  exact hQ
theorem conN_strengthOf {b : Nat} (hb : b < 256) (hG : GR (rs 0)) (hQ : Q (some (.int (zI (stN (rs 0) b 8)))) (HX rs pi psz lt lsz tn tsz g1 g2 sd rf im hM)) : Con M_Re_strengthOf [.ref 0, .int (zI b)] (HX rs pi psz lt lsz tn tsz g1 g2 sd rf im hM) Q := by
  refine conN_of (con_strengthOf (r := 6 * 0) hb hG ?_)
  rw [conN_back]
  exact hQ
theorem conN_needed (hG : GR (rs 0)) (hQ : Q (some (.int (zI (needed (rs 0))))) (HX rs pi psz lt lsz tn tsz g1 g2 sd rf im hM)) : Con M_Re_needed [.ref 0] (HX rs pi psz lt lsz tn tsz g1 g2 sd rf im hM) Q := by
  refine conN_of (con_needed (r := 6 * 0) hG ?_)
  rw [conN_back]
  exact hQ
end C6
/-! counts of bits -/
def pop8 (b : Nat) : Nat := (if b.testBit 0 then 1 else 0) + (if b.testBit 1 then 1 else 0) + (if b.testBit 2 then 1 else 0) + (if b.testBit 3 then 1 else 0) + (if b.testBit 4 then 1 else 0) + (if b.testBit 5 then 1 else 0) + (if b.testBit 6 then 1 else 0) + (if b.testBit 7 then 1 else 0)
theorem pop8_le (b : Nat) : pop8 b ≤ 8 := by
  simp only [pop8]
  repeat' split
  all_goals omega
def bcF (x : Int32) : Int32 :=
  let a := x - ((x.toUInt32 >>> ((zI 1).toUInt32 &&& Int32.toUInt32 31)).toInt32 &&& zI 1431655765)
  let b := (a &&& zI 858993459) + ((a.toUInt32 >>> ((zI 2).toUInt32 &&& Int32.toUInt32 31)).toInt32 &&& zI 858993459)
  let c := (b + (b.toUInt32 >>> ((zI 4).toUInt32 &&& Int32.toUInt32 31)).toInt32) &&& zI 252645135
  let d := c + (c.toUInt32 >>> ((zI 8).toUInt32 &&& Int32.toUInt32 31)).toInt32
  let e := d + (d.toUInt32 >>> ((zI 16).toUInt32 &&& Int32.toUInt32 31)).toInt32
  e &&& zI 63
theorem bcF_pop : ∀ b : Fin 256, bcF (zI ((b.val : Nat) : Int)) = zI ((pop8 b.val : Nat) : Int) := by decide +kernel
theorem con_bitCount {b : Nat} {h : AH} {Q : Option Value → AH → Prop} (hb : b < 256) (hQ : Q (some (.int (zI (pop8 b : Nat)))) h) : Con M_In_bitCount [.int (zI b)] h Q := by
  have e := bcF_pop ⟨b, hb⟩
  simp only at e
  rw [← e] at hQ
  generalize zI ((b : Nat) : Int) = x at hQ ⊢
  refine g8_ (L := [some (.int (x))]) ok_In_bitCount (Nat.le_of_ble_eq_true rfl) rfl ?_
  refine w_In_bitCount_0 ?_
  simp only [aq_, cg_, af_, ap_, bb_, bc_, ba_, ag_, ao_, fh_, dw_, dx_]
  exact hQ
end
/-! answers -/
section
/-! ===== the answers, over 'n days on' (s) ===== -/
abbrev SQ : Type := RR → Nat → RR
def firstN (p : Nat → Bool) : Nat → Nat → Int
  | _, 0 => -9
  | k, n + 1 => if p k = true then (k : Int) else firstN p (k + 1) n
theorem firstN_rng (p : Nat → Bool) (k n : Nat) : firstN p k n = -9 ∨ ((k : Int) ≤ firstN p k n ∧ firstN p k n < k + n) := by
  induction n generalizing k with
  | zero => left; rfl
  | succ n ih =>
    simp only [firstN]
    split
    · right; omega
    · have := ih (k + 1)
      omega
def scan2 (f : Nat → Int) : Nat → Nat → Int
  | _, 0 => -9
  | k, n + 1 => if f k = -9 then scan2 f (k + 1) n else f k
def allN (p : Nat → Bool) : Nat → Bool
  | 0 => true
  | n + 1 => allN p n && p n
theorem allN_f {p : Nat → Bool} {i : Nat} (h : p i = false) : ∀ {n : Nat}, i < n → allN p n = false := by
  intro n
  induction n with
  | zero => intro q; omega
  | succ n ih =>
    intro q
    simp only [allN]
    by_cases e : i = n
    · subst e; simp [h]
    · rw [ih (by omega)]; rfl
def homeF (s : SQ) (R : RR) : Int := firstN (fun d => decide (hd_ (s R d) = 12)) 0 61
def diesF (s : SQ) (R : RR) (m : Nat) : Int := firstN (fun d => decide (rFa (s R d) m = 2)) 0 61
def fdIn (s : SQ) (R : RR) (d : Nat) : Int := firstN (fun m => decide (m < hb_ R ∧ rFa R m = 1 ∧ rFa (s R (d + 1)) m = 2)) 0 8
def fdF (s : SQ) (R : RR) : Int := scan2 (fdIn s R) 0 60
def mcN (s : SQ) (R : RR) (n : Nat) : Nat → Int × Int
  | 0 => (hd_ (s R n), -9)
  | m + 1 => if (m < hb_ R ∧ rFa R m = 0) ∧ (mcN s R n m).1 < hd_ (s (sFa R (upI (rFa R) m 1)) n) then (hd_ (s (sFa R (upI (rFa R) m 1)) n), (m : Int)) else mcN s R n m
def parR (R : RR) (b i : Nat) : RR := sFa R (fun k => if k < i ∧ k < hb_ R ∧ b.testBit k = true then 1 else rFa R k)
def fewI (s : SQ) (R : RR) (n z : Nat) : Int := firstN (fun b => decide (anb b (mask (isF R 0) (hb_ R)) = 0 ∧ pop8 b = z ∧ hd_ (s (parR R b 8) n) = 12)) 0 256
def fewF (s : SQ) (R : RR) (n : Nat) : Int := scan2 (fewI s R n) 0 9
def crN (s : SQ) (R : RR) (n : Nat) : Nat → Int
  | 0 => -9
  | v + 1 => if hd_ (s (sLoad R ((v + 1 : Nat) : Int)) n) = 12 then ((v + 1 : Nat) : Int) else crN s R n v
def dgN (s : SQ) (R : RR) (n : Nat) : Nat → Int × Int
  | 0 => (hd_ (s R n), -9)
  | k + 1 => if (dgN s R n k).1 < hd_ (s (sSl R (upI (rSl R) k 0)) n) then (hd_ (s (sSl R (upI (rSl R) k 0)) n), (k : Int)) else dgN s R n k
def kpN (s : SQ) (R : RR) (n : Nat) : Nat → Int × Int
  | 0 => (-9, -9)
  | m + 1 => if (m < hb_ R ∧ rFa R m = 1) ∧ (kpN s R n m).1 < hd_ (s (sFa R (upI (rFa R) m 0)) n) then (hd_ (s (sFa R (upI (rFa R) m 0)) n), (m : Int)) else kpN s R n m
def polI (R : RR) (z : Nat) : Int := firstN (fun b => decide (anb b (mask (isF R 1) (hb_ R)) = 0 ∧ pop8 b = z ∧ needed R ≤ stN R b 8)) 0 256
def polF (R : RR) : Int := scan2 (polI R) 0 9
def goesB (s : SQ) (R : RR) (tn : Nat → Int) (n : Nat) : Bool := allN (fun d => decide (hd_ (s R d) = tn d)) n
def boreP (s : SQ) (R : RR) (tn : Nat → Int) (n : Nat) : Nat → Bool := fun m => decide (m < hb_ R ∧ rFa R m = 0) && goesB s (sFa R (upI (rFa R) m 1)) tn n
def twR (R : RR) (o t : Nat) (p : Nat) : RR := sFa R (upI (upI (rFa R) o ((p / 2 : Nat) : Int)) t ((p % 2 : Nat) : Int))
def twG (s : SQ) (R : RR) (o t n p : Nat) (w : Nat) : Int := (if hd_ (s (twR R o t p) n) = 12 then 3 else 0) - rWo (s (twR R o t p) n) w / 4
def twP (s : SQ) (R : RR) (o t n : Nat) : Nat → Bool := fun p => decide (twG s R o t n (p ^^^ 2) o ≤ twG s R o t n p o ∧ twG s R o t n (p ^^^ 1) t ≤ twG s R o t n p t)
def twF (s : SQ) (R : RR) (o t n : Nat) : Int :=
  let p := firstN (twP s R o t n) 0 4
  if p = -9 then -9 else 10 * (p / 2) + p % 2
def lmN (w : Nat → Bool) : Nat → Int × Int
  | 0 => (0, 0)
  | d + 1 => let z := if w d = true then (lmN w d).2 + 1 else 0; (max (lmN w d).1 z, z)
end
/-! counsel -/
section
/-! ===== the counsel ===== -/
theorem dayX_men (R : RR) : rMen (dayX R) = rMen R := by
  simp only [dayX]
  split
  · rfl
  · simp only [coldX, movedX]
    split <;> rfl
theorem daysX_men (R : RR) (d : Nat) : rMen (g6_ R d) = rMen R := by
  induction d with
  | zero => rfl
  | succ d ih => simp only [g6_]; rw [dayX_men, ih]
section C7
variable {rs : Nat → RR} {pi : Nat → Nat} {psz : Int} {lt : Nat → Int} {lsz : Int} {tn : Nat → Int} {tsz : Int} {g1 g2 : Nat → Int} {sd : Int} {rf : Nat → Int} {im : Int} {hM : AH} {Q : Option Value → AH → Prop} {A : RR}
theorem con_CdaysToHome (hA : GR A) (hG : GR (rs 0)) (hQ : ∀ B, GR B → Q (some (.int (zI (homeF g6_ (rs 0))))) (HX (upR rs 11 B) pi psz lt lsz tn tsz g1 g2 sd rf im hM)) : Con M_Co_daysToHome [.ref 85, .ref 0] (HX (upR rs 11 A) pi psz lt lsz tn tsz g1 g2 sd rf im hM) Q := by
  refine g8_ (L := [some (.ref 85), some (.ref 0), none]) ok_Co_daysToHome (Nat.le_of_ble_eq_true rfl) rfl ?_
  refine w_Co_daysToHome_0 ?_
  simp (disch := omega) only [cm_,aq_,ay_,ag_,b8_,af_,b4_,ac_,bq_,ed_,bs_,ao_,a2_,az_,ar_,dw_,d6_,ea_,d3_,b5_,b1_,fh_,fu_,fp_,fz_,fq_,fk_,f0_,c5_,bt_,bd_,ct_,cx_,cr_,cz_,cj_,cf_,an_,cd_,a9_,a8_,a7_,ce_,fv_,Int.toNat_natCast,f3_,e4_,gd_,e8_,et_,di_,dm_,dn_,Nat.reduceAdd,Nat.reduceMul,Int.reduceNeg,Nat.reduceLeDiff,List.length_cons,List.length_nil,true_and,and_true,Nat.zero_add,eq_self,Nat.reduceEqDiff,Int.reduceAdd,Int.reduceSub,Int.reduceMul,not_true_eq_false,not_false_eq_true,Nat.reduceLT,Int.reduceToNat,Int.reduceEq,Int.reduceNe,Int.reduceLT,Int.reduceLE,false_implies,true_implies]
  refine conM_become (q := 11) (by omega) ?_
  simp (disch := omega) only [cm_,aq_,ay_,ag_,b8_,af_,b4_,ac_,bq_,ed_,bs_,ao_,a2_,az_,ar_,dw_,d6_,ea_,d3_,b5_,b1_,fh_,fu_,fp_,fz_,fq_,fk_,f0_,c5_,bt_,bd_,ct_,cx_,cr_,cz_,cj_,cf_,an_,cd_,a9_,a8_,a7_,ce_,fv_,Int.toNat_natCast,f3_,e4_,gd_,e8_,et_,di_,dm_,dn_,Nat.reduceAdd,Nat.reduceMul,Int.reduceNeg,Nat.reduceLeDiff,List.length_cons,List.length_nil,true_and,and_true,Nat.zero_add,eq_self,Nat.reduceEqDiff,Int.reduceAdd,Int.reduceSub,Int.reduceMul,not_true_eq_false,not_false_eq_true,Nat.reduceLT,Int.reduceToNat,Int.reduceEq,Int.reduceNe,Int.reduceLT,Int.reduceLE,false_implies,true_implies]
  have loop : ∀ n i : Nat, i + n = 61 → firstN (fun d => decide (hd_ (g6_ (rs 0) d) = 12)) i n = homeF g6_ (rs 0) → J M_Co_daysToHome 10 [some (.ref 85), some (.ref 0), some (.int (zI i))] [] (HX (upR rs 11 (g6_ (rs 0) i)) pi psz lt lsz tn tsz g1 g2 sd rf im hM) Q := by
    intro n
    induction n with
    | zero =>
      intro i hi ht
      have e : i = 61 := by omega
      subst e
      have hQ := hQ _ (hG.dsX 61)
      rw [← ht] at hQ
      refine w_Co_daysToHome_10 ?_
      simp (disch := omega) only [cm_,aq_,ay_,ag_,b8_,af_,b4_,ac_,bq_,ed_,bs_,ao_,a2_,az_,ar_,dw_,d6_,ea_,d3_,b5_,b1_,fh_,fu_,fp_,fz_,fq_,fk_,f0_,c5_,bt_,bd_,ct_,cx_,cr_,cz_,cj_,cf_,an_,cd_,a9_,a8_,a7_,ce_,fv_,Int.toNat_natCast,f3_,e4_,gd_,e8_,et_,di_,dm_,dn_,Nat.reduceAdd,Nat.reduceMul,Int.reduceNeg,Nat.reduceLeDiff,List.length_cons,List.length_nil,true_and,and_true,Nat.zero_add,eq_self,Nat.reduceEqDiff,Int.reduceAdd,Int.reduceSub,Int.reduceMul,not_true_eq_false,not_false_eq_true,Nat.reduceLT,Int.reduceToNat,Int.reduceEq,Int.reduceNe,Int.reduceLT,Int.reduceLE,false_implies,true_implies]
      repeat' (first | with_reducible refine And.intro ?_ ?_ | with_reducible intro _ | ((first | with_reducible refine w_Co_daysToHome_28 ?_ | with_reducible refine w_Co_daysToHome_42 ?_); simp (disch := omega) only [cm_,aq_,ay_,ag_,b8_,af_,b4_,ac_,bq_,ed_,bs_,ao_,a2_,az_,ar_,dw_,d6_,ea_,d3_,b5_,b1_,fh_,fu_,fp_,fz_,fq_,fk_,f0_,c5_,bt_,bd_,ct_,cx_,cr_,cz_,cj_,cf_,an_,cd_,a9_,a8_,a7_,ce_,fv_,Int.toNat_natCast,f3_,e4_,gd_,e8_,et_,di_,dm_,dn_,Nat.reduceAdd,Nat.reduceMul,Int.reduceNeg,Nat.reduceLeDiff,List.length_cons,List.length_nil,true_and,and_true,Nat.zero_add,eq_self,Nat.reduceEqDiff,Int.reduceAdd,Int.reduceSub,Int.reduceMul,not_true_eq_false,not_false_eq_true,Nat.reduceLT,Int.reduceToNat,Int.reduceEq,Int.reduceNe,Int.reduceLT,Int.reduceLE,false_implies,true_implies]))
      all_goals first | omega | exact hQ
    | succ n ih =>
      intro i hi ht
      simp only [firstN, decide_eq_true_eq] at ht
      refine w_Co_daysToHome_10 ?_
      simp (disch := omega) only [cm_,aq_,ay_,ag_,b8_,af_,b4_,ac_,bq_,ed_,bs_,ao_,a2_,az_,ar_,dw_,d6_,ea_,d3_,b5_,b1_,fh_,fu_,fp_,fz_,fq_,fk_,f0_,c5_,bt_,bd_,ct_,cx_,cr_,cz_,cj_,cf_,an_,cd_,a9_,a8_,a7_,ce_,fv_,Int.toNat_natCast,f3_,e4_,gd_,e8_,et_,di_,dm_,dn_,Nat.reduceAdd,Nat.reduceMul,Int.reduceNeg,Nat.reduceLeDiff,List.length_cons,List.length_nil,true_and,and_true,Nat.zero_add,eq_self,Nat.reduceEqDiff,Int.reduceAdd,Int.reduceSub,Int.reduceMul,not_true_eq_false,not_false_eq_true,Nat.reduceLT,Int.reduceToNat,Int.reduceEq,Int.reduceNe,Int.reduceLT,Int.reduceLE,false_implies,true_implies]
      refine ⟨fun _ => by omega, fun _ => ?_⟩
      refine conM_isHome (q := 11) (by omega) (hG.dsX i) (fun c => ?_) (fun c => ?_)
      · rw [if_pos c] at ht
        have hQ := hQ _ (hG.dsX i)
        rw [← ht] at hQ
        simp (disch := omega) only [cm_,aq_,ay_,ag_,b8_,af_,b4_,ac_,bq_,ed_,bs_,ao_,a2_,az_,ar_,dw_,d6_,ea_,d3_,b5_,b1_,fh_,fu_,fp_,fz_,fq_,fk_,f0_,c5_,bt_,bd_,ct_,cx_,cr_,cz_,cj_,cf_,an_,cd_,a9_,a8_,a7_,ce_,fv_,Int.toNat_natCast,f3_,e4_,gd_,e8_,et_,di_,dm_,dn_,Nat.reduceAdd,Nat.reduceMul,Int.reduceNeg,Nat.reduceLeDiff,List.length_cons,List.length_nil,true_and,and_true,Nat.zero_add,eq_self,Nat.reduceEqDiff,Int.reduceAdd,Int.reduceSub,Int.reduceMul,not_true_eq_false,not_false_eq_true,Nat.reduceLT,Int.reduceToNat,Int.reduceEq,Int.reduceNe,Int.reduceLT,Int.reduceLE,false_implies,true_implies]
        exact hQ
      · rw [if_neg c] at ht
        have step := ih (i + 1) (by omega) ht
        simp only [g6_] at step
        simp (disch := omega) only [cm_,aq_,ay_,ag_,b8_,af_,b4_,ac_,bq_,ed_,bs_,ao_,a2_,az_,ar_,dw_,d6_,ea_,d3_,b5_,b1_,fh_,fu_,fp_,fz_,fq_,fk_,f0_,c5_,bt_,bd_,ct_,cx_,cr_,cz_,cj_,cf_,an_,cd_,a9_,a8_,a7_,ce_,fv_,Int.toNat_natCast,f3_,e4_,gd_,e8_,et_,di_,dm_,dn_,Nat.reduceAdd,Nat.reduceMul,Int.reduceNeg,Nat.reduceLeDiff,List.length_cons,List.length_nil,true_and,and_true,Nat.zero_add,eq_self,Nat.reduceEqDiff,Int.reduceAdd,Int.reduceSub,Int.reduceMul,not_true_eq_false,not_false_eq_true,Nat.reduceLT,Int.reduceToNat,Int.reduceEq,Int.reduceNe,Int.reduceLT,Int.reduceLE,false_implies,true_implies]
        refine w_Co_daysToHome_28 ?_
        simp (disch := omega) only [cm_,aq_,ay_,ag_,b8_,af_,b4_,ac_,bq_,ed_,bs_,ao_,a2_,az_,ar_,dw_,d6_,ea_,d3_,b5_,b1_,fh_,fu_,fp_,fz_,fq_,fk_,f0_,c5_,bt_,bd_,ct_,cx_,cr_,cz_,cj_,cf_,an_,cd_,a9_,a8_,a7_,ce_,fv_,Int.toNat_natCast,f3_,e4_,gd_,e8_,et_,di_,dm_,dn_,Nat.reduceAdd,Nat.reduceMul,Int.reduceNeg,Nat.reduceLeDiff,List.length_cons,List.length_nil,true_and,and_true,Nat.zero_add,eq_self,Nat.reduceEqDiff,Int.reduceAdd,Int.reduceSub,Int.reduceMul,not_true_eq_false,not_false_eq_true,Nat.reduceLT,Int.reduceToNat,Int.reduceEq,Int.reduceNe,Int.reduceLT,Int.reduceLE,false_implies,true_implies]
        refine conM_waits (q := 11) (by omega) (hG.dsX i) ?_
        simp (disch := omega) only [cm_,aq_,ay_,ag_,b8_,af_,b4_,ac_,bq_,ed_,bs_,ao_,a2_,az_,ar_,dw_,d6_,ea_,d3_,b5_,b1_,fh_,fu_,fp_,fz_,fq_,fk_,f0_,c5_,bt_,bd_,ct_,cx_,cr_,cz_,cj_,cf_,an_,cd_,a9_,a8_,a7_,ce_,fv_,Int.toNat_natCast,f3_,e4_,gd_,e8_,et_,di_,dm_,dn_,Nat.reduceAdd,Nat.reduceMul,Int.reduceNeg,Nat.reduceLeDiff,List.length_cons,List.length_nil,true_and,and_true,Nat.zero_add,eq_self,Nat.reduceEqDiff,Int.reduceAdd,Int.reduceSub,Int.reduceMul,not_true_eq_false,not_false_eq_true,Nat.reduceLT,Int.reduceToNat,Int.reduceEq,Int.reduceNe,Int.reduceLT,Int.reduceLE,false_implies,true_implies]
        exact step
  exact loop 61 0 rfl rfl
theorem con_CdaysToDeath {m : Int} (hm : g7_ (rs 0) m) (hA : GR A) (hG : GR (rs 0)) (hQ : ∀ B, GR B → Q (some (.int (zI (diesF g6_ (rs 0) m.toNat)))) (HX (upR rs 11 B) pi psz lt lsz tn tsz g1 g2 sd rf im hM)) : Con M_Co_daysToDeath [.ref 85, .ref 0, .int (zI m)] (HX (upR rs 11 A) pi psz lt lsz tn tsz g1 g2 sd rf im hM) Q := by
  have gm := hG.men
  have hmen : ∀ d, rMen (g6_ (rs 0) d) = rMen (rs 0) := daysX_men (rs 0)
  refine g8_ (L := [some (.ref 85), some (.ref 0), some (.int (zI m)), none]) ok_Co_daysToDeath (Nat.le_of_ble_eq_true rfl) rfl ?_
  refine w_Co_daysToDeath_0 ?_
  simp (disch := omega) only [cm_,aq_,ay_,ag_,b8_,af_,b4_,ac_,bq_,ed_,bs_,ao_,a2_,az_,ar_,dw_,d6_,ea_,d3_,b5_,b1_,fh_,fu_,fp_,fz_,fq_,fk_,f0_,c5_,bt_,bd_,ct_,cx_,cr_,cz_,cj_,cf_,an_,cd_,a9_,a8_,a7_,ce_,fv_,Int.toNat_natCast,f3_,e4_,gd_,e8_,et_,di_,dm_,dn_,Nat.reduceAdd,Nat.reduceMul,Int.reduceNeg,Nat.reduceLeDiff,List.length_cons,List.length_nil,true_and,and_true,Nat.zero_add,eq_self,Nat.reduceEqDiff,Int.reduceAdd,Int.reduceSub,Int.reduceMul,not_true_eq_false,not_false_eq_true,Nat.reduceLT,Int.reduceToNat,Int.reduceEq,Int.reduceNe,Int.reduceLT,Int.reduceLE,false_implies,true_implies]
  refine conM_become (q := 11) (by omega) ?_
  simp (disch := omega) only [cm_,aq_,ay_,ag_,b8_,af_,b4_,ac_,bq_,ed_,bs_,ao_,a2_,az_,ar_,dw_,d6_,ea_,d3_,b5_,b1_,fh_,fu_,fp_,fz_,fq_,fk_,f0_,c5_,bt_,bd_,ct_,cx_,cr_,cz_,cj_,cf_,an_,cd_,a9_,a8_,a7_,ce_,fv_,Int.toNat_natCast,f3_,e4_,gd_,e8_,et_,di_,dm_,dn_,Nat.reduceAdd,Nat.reduceMul,Int.reduceNeg,Nat.reduceLeDiff,List.length_cons,List.length_nil,true_and,and_true,Nat.zero_add,eq_self,Nat.reduceEqDiff,Int.reduceAdd,Int.reduceSub,Int.reduceMul,not_true_eq_false,not_false_eq_true,Nat.reduceLT,Int.reduceToNat,Int.reduceEq,Int.reduceNe,Int.reduceLT,Int.reduceLE,false_implies,true_implies]
  have loop : ∀ n i : Nat, i + n = 61 → firstN (fun d => decide (rFa (g6_ (rs 0) d) m.toNat = 2)) i n = diesF g6_ (rs 0) m.toNat → J M_Co_daysToDeath 10 [some (.ref 85), some (.ref 0), some (.int (zI m)), some (.int (zI i))] [] (HX (upR rs 11 (g6_ (rs 0) i)) pi psz lt lsz tn tsz g1 g2 sd rf im hM) Q := by
    intro n
    induction n with
    | zero =>
      intro i hi ht
      have e : i = 61 := by omega
      subst e
      have hQ := hQ _ (hG.dsX 61)
      rw [← ht] at hQ
      refine w_Co_daysToDeath_10 ?_
      simp (disch := omega) only [cm_,aq_,ay_,ag_,b8_,af_,b4_,ac_,bq_,ed_,bs_,ao_,a2_,az_,ar_,dw_,d6_,ea_,d3_,b5_,b1_,fh_,fu_,fp_,fz_,fq_,fk_,f0_,c5_,bt_,bd_,ct_,cx_,cr_,cz_,cj_,cf_,an_,cd_,a9_,a8_,a7_,ce_,fv_,Int.toNat_natCast,f3_,e4_,gd_,e8_,et_,di_,dm_,dn_,Nat.reduceAdd,Nat.reduceMul,Int.reduceNeg,Nat.reduceLeDiff,List.length_cons,List.length_nil,true_and,and_true,Nat.zero_add,eq_self,Nat.reduceEqDiff,Int.reduceAdd,Int.reduceSub,Int.reduceMul,not_true_eq_false,not_false_eq_true,Nat.reduceLT,Int.reduceToNat,Int.reduceEq,Int.reduceNe,Int.reduceLT,Int.reduceLE,false_implies,true_implies]
      repeat' (first | with_reducible refine And.intro ?_ ?_ | with_reducible intro _ | ((first | with_reducible refine w_Co_daysToDeath_30 ?_ | with_reducible refine w_Co_daysToDeath_44 ?_); simp (disch := omega) only [cm_,aq_,ay_,ag_,b8_,af_,b4_,ac_,bq_,ed_,bs_,ao_,a2_,az_,ar_,dw_,d6_,ea_,d3_,b5_,b1_,fh_,fu_,fp_,fz_,fq_,fk_,f0_,c5_,bt_,bd_,ct_,cx_,cr_,cz_,cj_,cf_,an_,cd_,a9_,a8_,a7_,ce_,fv_,Int.toNat_natCast,f3_,e4_,gd_,e8_,et_,di_,dm_,dn_,Nat.reduceAdd,Nat.reduceMul,Int.reduceNeg,Nat.reduceLeDiff,List.length_cons,List.length_nil,true_and,and_true,Nat.zero_add,eq_self,Nat.reduceEqDiff,Int.reduceAdd,Int.reduceSub,Int.reduceMul,not_true_eq_false,not_false_eq_true,Nat.reduceLT,Int.reduceToNat,Int.reduceEq,Int.reduceNe,Int.reduceLT,Int.reduceLE,false_implies,true_implies]))
      all_goals first | omega | exact hQ
    | succ n ih =>
      intro i hi ht
      have hf := (hG.dsX i).fa m.toNat
      have hp : g7_ (g6_ (rs 0) i) m := ⟨hm.1, by rw [hmen]; exact hm.2⟩
      simp only [firstN, decide_eq_true_eq] at ht
      refine w_Co_daysToDeath_10 ?_
      simp (disch := omega) only [cm_,aq_,ay_,ag_,b8_,af_,b4_,ac_,bq_,ed_,bs_,ao_,a2_,az_,ar_,dw_,d6_,ea_,d3_,b5_,b1_,fh_,fu_,fp_,fz_,fq_,fk_,f0_,c5_,bt_,bd_,ct_,cx_,cr_,cz_,cj_,cf_,an_,cd_,a9_,a8_,a7_,ce_,fv_,Int.toNat_natCast,f3_,e4_,gd_,e8_,et_,di_,dm_,dn_,Nat.reduceAdd,Nat.reduceMul,Int.reduceNeg,Nat.reduceLeDiff,List.length_cons,List.length_nil,true_and,and_true,Nat.zero_add,eq_self,Nat.reduceEqDiff,Int.reduceAdd,Int.reduceSub,Int.reduceMul,not_true_eq_false,not_false_eq_true,Nat.reduceLT,Int.reduceToNat,Int.reduceEq,Int.reduceNe,Int.reduceLT,Int.reduceLE,false_implies,true_implies]
      refine ⟨fun _ => by omega, fun _ => ?_⟩
      refine conM_fateOf (q := 11) (by omega) (by unfold inI; omega) (hG.dsX i) (fun _ => ?_) (fun q => absurd hp q)
      simp (disch := omega) only [cm_,aq_,ay_,ag_,b8_,af_,b4_,ac_,bq_,ed_,bs_,ao_,a2_,az_,ar_,dw_,d6_,ea_,d3_,b5_,b1_,fh_,fu_,fp_,fz_,fq_,fk_,f0_,c5_,bt_,bd_,ct_,cx_,cr_,cz_,cj_,cf_,an_,cd_,a9_,a8_,a7_,ce_,fv_,Int.toNat_natCast,f3_,e4_,gd_,e8_,et_,di_,dm_,dn_,Nat.reduceAdd,Nat.reduceMul,Int.reduceNeg,Nat.reduceLeDiff,List.length_cons,List.length_nil,true_and,and_true,Nat.zero_add,eq_self,Nat.reduceEqDiff,Int.reduceAdd,Int.reduceSub,Int.reduceMul,not_true_eq_false,not_false_eq_true,Nat.reduceLT,Int.reduceToNat,Int.reduceEq,Int.reduceNe,Int.reduceLT,Int.reduceLE,false_implies,true_implies]
      refine ⟨fun c => ?_, fun c => ?_⟩
      · rw [if_neg c] at ht
        have step := ih (i + 1) (by omega) ht
        simp only [g6_] at step
        refine w_Co_daysToDeath_30 ?_
        simp (disch := omega) only [cm_,aq_,ay_,ag_,b8_,af_,b4_,ac_,bq_,ed_,bs_,ao_,a2_,az_,ar_,dw_,d6_,ea_,d3_,b5_,b1_,fh_,fu_,fp_,fz_,fq_,fk_,f0_,c5_,bt_,bd_,ct_,cx_,cr_,cz_,cj_,cf_,an_,cd_,a9_,a8_,a7_,ce_,fv_,Int.toNat_natCast,f3_,e4_,gd_,e8_,et_,di_,dm_,dn_,Nat.reduceAdd,Nat.reduceMul,Int.reduceNeg,Nat.reduceLeDiff,List.length_cons,List.length_nil,true_and,and_true,Nat.zero_add,eq_self,Nat.reduceEqDiff,Int.reduceAdd,Int.reduceSub,Int.reduceMul,not_true_eq_false,not_false_eq_true,Nat.reduceLT,Int.reduceToNat,Int.reduceEq,Int.reduceNe,Int.reduceLT,Int.reduceLE,false_implies,true_implies]
        refine conM_waits (q := 11) (by omega) (hG.dsX i) ?_
        simp (disch := omega) only [cm_,aq_,ay_,ag_,b8_,af_,b4_,ac_,bq_,ed_,bs_,ao_,a2_,az_,ar_,dw_,d6_,ea_,d3_,b5_,b1_,fh_,fu_,fp_,fz_,fq_,fk_,f0_,c5_,bt_,bd_,ct_,cx_,cr_,cz_,cj_,cf_,an_,cd_,a9_,a8_,a7_,ce_,fv_,Int.toNat_natCast,f3_,e4_,gd_,e8_,et_,di_,dm_,dn_,Nat.reduceAdd,Nat.reduceMul,Int.reduceNeg,Nat.reduceLeDiff,List.length_cons,List.length_nil,true_and,and_true,Nat.zero_add,eq_self,Nat.reduceEqDiff,Int.reduceAdd,Int.reduceSub,Int.reduceMul,not_true_eq_false,not_false_eq_true,Nat.reduceLT,Int.reduceToNat,Int.reduceEq,Int.reduceNe,Int.reduceLT,Int.reduceLE,false_implies,true_implies]
        exact step
      · rw [if_pos (by omega)] at ht
        have hQ := hQ _ (hG.dsX i)
        rw [← ht] at hQ
        exact hQ
  exact loop 61 0 rfl rfl
theorem con_CfirstToDie (hA : GR A) (hG : GR (rs 0)) (hQ : ∀ B, GR B → Q (some (.int (zI (fdF g6_ (rs 0))))) (HX (upR rs 11 B) pi psz lt lsz tn tsz g1 g2 sd rf im hM)) : Con M_Co_firstToDie [.ref 85, .ref 0] (HX (upR rs 11 A) pi psz lt lsz tn tsz g1 g2 sd rf im hM) Q := by
  have gm := hG.men
  have gn := hG.nM
  have hmen : ∀ d, rMen (g6_ (rs 0) d) = rMen (rs 0) := daysX_men (rs 0)
  refine g8_ (L := [some (.ref 85), some (.ref 0), none, none]) ok_Co_firstToDie (Nat.le_of_ble_eq_true rfl) rfl ?_
  refine w_Co_firstToDie_0 ?_
  simp (disch := omega) only [cm_,aq_,ay_,ag_,b8_,af_,b4_,ac_,bq_,ed_,bs_,ao_,a2_,az_,ar_,dw_,d6_,ea_,d3_,b5_,b1_,fh_,fu_,fp_,fz_,fq_,fk_,f0_,c5_,bt_,bd_,ct_,cx_,cr_,cz_,cj_,cf_,an_,cd_,a9_,a8_,a7_,ce_,fv_,Int.toNat_natCast,f3_,e4_,gd_,e8_,et_,di_,dm_,dn_,Nat.reduceAdd,Nat.reduceMul,Int.reduceNeg,Nat.reduceLeDiff,List.length_cons,List.length_nil,true_and,and_true,Nat.zero_add,eq_self,Nat.reduceEqDiff,Int.reduceAdd,Int.reduceSub,Int.reduceMul,not_true_eq_false,not_false_eq_true,Nat.reduceLT,Int.reduceToNat,Int.reduceEq,Int.reduceNe,Int.reduceLT,Int.reduceLE,false_implies,true_implies]
  refine conM_become (q := 11) (by omega) ?_
  simp (disch := omega) only [cm_,aq_,ay_,ag_,b8_,af_,b4_,ac_,bq_,ed_,bs_,ao_,a2_,az_,ar_,dw_,d6_,ea_,d3_,b5_,b1_,fh_,fu_,fp_,fz_,fq_,fk_,f0_,c5_,bt_,bd_,ct_,cx_,cr_,cz_,cj_,cf_,an_,cd_,a9_,a8_,a7_,ce_,fv_,Int.toNat_natCast,f3_,e4_,gd_,e8_,et_,di_,dm_,dn_,Nat.reduceAdd,Nat.reduceMul,Int.reduceNeg,Nat.reduceLeDiff,List.length_cons,List.length_nil,true_and,and_true,Nat.zero_add,eq_self,Nat.reduceEqDiff,Int.reduceAdd,Int.reduceSub,Int.reduceMul,not_true_eq_false,not_false_eq_true,Nat.reduceLT,Int.reduceToNat,Int.reduceEq,Int.reduceNe,Int.reduceLT,Int.reduceLE,false_implies,true_implies]
  have loop : ∀ n i : Nat, i + n = 60 → scan2 (fdIn g6_ (rs 0)) i n = fdF g6_ (rs 0) → ∀ x4, J M_Co_firstToDie 10 [some (.ref 85), some (.ref 0), some (.int (zI i)), x4] [] (HX (upR rs 11 (g6_ (rs 0) i)) pi psz lt lsz tn tsz g1 g2 sd rf im hM) Q := by
    intro n
    induction n with
    | zero =>
      intro i hi ht x4
      have e : i = 60 := by omega
      subst e
      have hQ := hQ _ (hG.dsX 60)
      rw [← ht] at hQ
      refine w_Co_firstToDie_10 ?_
      simp (disch := omega) only [cm_,aq_,ay_,ag_,b8_,af_,b4_,ac_,bq_,ed_,bs_,ao_,a2_,az_,ar_,dw_,d6_,ea_,d3_,b5_,b1_,fh_,fu_,fp_,fz_,fq_,fk_,f0_,c5_,bt_,bd_,ct_,cx_,cr_,cz_,cj_,cf_,an_,cd_,a9_,a8_,a7_,ce_,fv_,Int.toNat_natCast,f3_,e4_,gd_,e8_,et_,di_,dm_,dn_,Nat.reduceAdd,Nat.reduceMul,Int.reduceNeg,Nat.reduceLeDiff,List.length_cons,List.length_nil,true_and,and_true,Nat.zero_add,eq_self,Nat.reduceEqDiff,Int.reduceAdd,Int.reduceSub,Int.reduceMul,not_true_eq_false,not_false_eq_true,Nat.reduceLT,Int.reduceToNat,Int.reduceEq,Int.reduceNe,Int.reduceLT,Int.reduceLE,false_implies,true_implies]
      repeat' (first | with_reducible refine And.intro ?_ ?_ | with_reducible intro _ | ((first | with_reducible refine w_Co_firstToDie_55 ?_ | with_reducible refine w_Co_firstToDie_61 ?_ | with_reducible refine w_Co_firstToDie_67 ?_); simp (disch := omega) only [cm_,aq_,ay_,ag_,b8_,af_,b4_,ac_,bq_,ed_,bs_,ao_,a2_,az_,ar_,dw_,d6_,ea_,d3_,b5_,b1_,fh_,fu_,fp_,fz_,fq_,fk_,f0_,c5_,bt_,bd_,ct_,cx_,cr_,cz_,cj_,cf_,an_,cd_,a9_,a8_,a7_,ce_,fv_,Int.toNat_natCast,f3_,e4_,gd_,e8_,et_,di_,dm_,dn_,Nat.reduceAdd,Nat.reduceMul,Int.reduceNeg,Nat.reduceLeDiff,List.length_cons,List.length_nil,true_and,and_true,Nat.zero_add,eq_self,Nat.reduceEqDiff,Int.reduceAdd,Int.reduceSub,Int.reduceMul,not_true_eq_false,not_false_eq_true,Nat.reduceLT,Int.reduceToNat,Int.reduceEq,Int.reduceNe,Int.reduceLT,Int.reduceLE,false_implies,true_implies]))
      all_goals first | omega | exact hQ
    | succ n ih =>
      intro i hi ht x4
      have hs : scan2 (fdIn g6_ (rs 0)) i (n + 1) = if fdIn g6_ (rs 0) i = -9 then scan2 (fdIn g6_ (rs 0)) (i + 1) n else fdIn g6_ (rs 0) i := rfl
      rw [hs] at ht
      have hd : g6_ (rs 0) (i + 1) = dayX (g6_ (rs 0) i) := rfl
      have inner : ∀ k j : Nat, j + k = 8 → firstN (fun m => decide (m < hb_ (rs 0) ∧ rFa (rs 0) m = 1 ∧ rFa (g6_ (rs 0) (i + 1)) m = 2)) j k = fdIn g6_ (rs 0) i → J M_Co_firstToDie 26 [some (.ref 85), some (.ref 0), some (.int (zI i)), some (.int (zI j))] [] (HX (upR rs 11 (g6_ (rs 0) (i + 1))) pi psz lt lsz tn tsz g1 g2 sd rf im hM) Q := by
        intro k
        induction k with
        | zero =>
          intro j hj hk
          have e : j = 8 := by omega
          subst e
          simp only [firstN] at hk
          rw [if_pos hk.symm] at ht
          have step := ih (i + 1) (by omega) ht
          refine w_Co_firstToDie_26 ?_
          simp (disch := omega) only [cm_,aq_,ay_,ag_,b8_,af_,b4_,ac_,bq_,ed_,bs_,ao_,a2_,az_,ar_,dw_,d6_,ea_,d3_,b5_,b1_,fh_,fu_,fp_,fz_,fq_,fk_,f0_,c5_,bt_,bd_,ct_,cx_,cr_,cz_,cj_,cf_,an_,cd_,a9_,a8_,a7_,ce_,fv_,Int.toNat_natCast,f3_,e4_,gd_,e8_,et_,di_,dm_,dn_,Nat.reduceAdd,Nat.reduceMul,Int.reduceNeg,Nat.reduceLeDiff,List.length_cons,List.length_nil,true_and,and_true,Nat.zero_add,eq_self,Nat.reduceEqDiff,Int.reduceAdd,Int.reduceSub,Int.reduceMul,not_true_eq_false,not_false_eq_true,Nat.reduceLT,Int.reduceToNat,Int.reduceEq,Int.reduceNe,Int.reduceLT,Int.reduceLE,false_implies,true_implies]
          repeat' (first | with_reducible refine And.intro ?_ ?_ | with_reducible intro _ | ((first | with_reducible refine w_Co_firstToDie_55 ?_ | with_reducible refine w_Co_firstToDie_61 ?_ | with_reducible refine w_Co_firstToDie_67 ?_); simp (disch := omega) only [cm_,aq_,ay_,ag_,b8_,af_,b4_,ac_,bq_,ed_,bs_,ao_,a2_,az_,ar_,dw_,d6_,ea_,d3_,b5_,b1_,fh_,fu_,fp_,fz_,fq_,fk_,f0_,c5_,bt_,bd_,ct_,cx_,cr_,cz_,cj_,cf_,an_,cd_,a9_,a8_,a7_,ce_,fv_,Int.toNat_natCast,f3_,e4_,gd_,e8_,et_,di_,dm_,dn_,Nat.reduceAdd,Nat.reduceMul,Int.reduceNeg,Nat.reduceLeDiff,List.length_cons,List.length_nil,true_and,and_true,Nat.zero_add,eq_self,Nat.reduceEqDiff,Int.reduceAdd,Int.reduceSub,Int.reduceMul,not_true_eq_false,not_false_eq_true,Nat.reduceLT,Int.reduceToNat,Int.reduceEq,Int.reduceNe,Int.reduceLT,Int.reduceLE,false_implies,true_implies]))
          all_goals first | omega | exact step _
        | succ k ihk =>
          intro j hj hk
          have hf := hG.fa j
          have hf2 := (hG.dsX (i + 1)).fa j
          simp only [firstN, decide_eq_true_eq] at hk
          have stepF : ¬ (j < hb_ (rs 0) ∧ rFa (rs 0) j = 1 ∧ rFa (g6_ (rs 0) (i + 1)) j = 2) → J M_Co_firstToDie 26 [some (.ref 85), some (.ref 0), some (.int (zI i)), some (.int (zI (j + 1 : Nat)))] [] (HX (upR rs 11 (g6_ (rs 0) (i + 1))) pi psz lt lsz tn tsz g1 g2 sd rf im hM) Q := by
            intro c
            rw [if_neg c] at hk
            exact ihk (j + 1) (by omega) hk
          refine w_Co_firstToDie_26 ?_
          simp (disch := omega) only [cm_,aq_,ay_,ag_,b8_,af_,b4_,ac_,bq_,ed_,bs_,ao_,a2_,az_,ar_,dw_,d6_,ea_,d3_,b5_,b1_,fh_,fu_,fp_,fz_,fq_,fk_,f0_,c5_,bt_,bd_,ct_,cx_,cr_,cz_,cj_,cf_,an_,cd_,a9_,a8_,a7_,ce_,fv_,Int.toNat_natCast,f3_,e4_,gd_,e8_,et_,di_,dm_,dn_,Nat.reduceAdd,Nat.reduceMul,Int.reduceNeg,Nat.reduceLeDiff,List.length_cons,List.length_nil,true_and,and_true,Nat.zero_add,eq_self,Nat.reduceEqDiff,Int.reduceAdd,Int.reduceSub,Int.reduceMul,not_true_eq_false,not_false_eq_true,Nat.reduceLT,Int.reduceToNat,Int.reduceEq,Int.reduceNe,Int.reduceLT,Int.reduceLE,false_implies,true_implies]
          refine ⟨fun _ => by omega, fun _ => ?_⟩
          refine conMN_fateOf (q := 11) (by omega) (by unfold inI; omega) hG (fun c1 => ?_) (fun c1 => ?_)
          · simp (disch := omega) only [cm_,aq_,ay_,ag_,b8_,af_,b4_,ac_,bq_,ed_,bs_,ao_,a2_,az_,ar_,dw_,d6_,ea_,d3_,b5_,b1_,fh_,fu_,fp_,fz_,fq_,fk_,f0_,c5_,bt_,bd_,ct_,cx_,cr_,cz_,cj_,cf_,an_,cd_,a9_,a8_,a7_,ce_,fv_,Int.toNat_natCast,f3_,e4_,gd_,e8_,et_,di_,dm_,dn_,Nat.reduceAdd,Nat.reduceMul,Int.reduceNeg,Nat.reduceLeDiff,List.length_cons,List.length_nil,true_and,and_true,Nat.zero_add,eq_self,Nat.reduceEqDiff,Int.reduceAdd,Int.reduceSub,Int.reduceMul,not_true_eq_false,not_false_eq_true,Nat.reduceLT,Int.reduceToNat,Int.reduceEq,Int.reduceNe,Int.reduceLT,Int.reduceLE,false_implies,true_implies]
            refine ⟨fun c2 => ?_, fun c2 => ?_⟩
            · refine w_Co_firstToDie_55 ?_
              simp (disch := omega) only [cm_,aq_,ay_,ag_,b8_,af_,b4_,ac_,bq_,ed_,bs_,ao_,a2_,az_,ar_,dw_,d6_,ea_,d3_,b5_,b1_,fh_,fu_,fp_,fz_,fq_,fk_,f0_,c5_,bt_,bd_,ct_,cx_,cr_,cz_,cj_,cf_,an_,cd_,a9_,a8_,a7_,ce_,fv_,Int.toNat_natCast,f3_,e4_,gd_,e8_,et_,di_,dm_,dn_,Nat.reduceAdd,Nat.reduceMul,Int.reduceNeg,Nat.reduceLeDiff,List.length_cons,List.length_nil,true_and,and_true,Nat.zero_add,eq_self,Nat.reduceEqDiff,Int.reduceAdd,Int.reduceSub,Int.reduceMul,not_true_eq_false,not_false_eq_true,Nat.reduceLT,Int.reduceToNat,Int.reduceEq,Int.reduceNe,Int.reduceLT,Int.reduceLE,false_implies,true_implies]
              exact stepF (fun q => c2 q.2.1)
            · have hp : g7_ (g6_ (rs 0) (i + 1)) j := ⟨by omega, by rw [hmen]; exact c1.2⟩
              refine conM_fateOf (q := 11) (by omega) (by unfold inI; omega) (hG.dsX (i + 1)) (fun _ => ?_) (fun q => absurd hp q)
              simp (disch := omega) only [cm_,aq_,ay_,ag_,b8_,af_,b4_,ac_,bq_,ed_,bs_,ao_,a2_,az_,ar_,dw_,d6_,ea_,d3_,b5_,b1_,fh_,fu_,fp_,fz_,fq_,fk_,f0_,c5_,bt_,bd_,ct_,cx_,cr_,cz_,cj_,cf_,an_,cd_,a9_,a8_,a7_,ce_,fv_,Int.toNat_natCast,f3_,e4_,gd_,e8_,et_,di_,dm_,dn_,Nat.reduceAdd,Nat.reduceMul,Int.reduceNeg,Nat.reduceLeDiff,List.length_cons,List.length_nil,true_and,and_true,Nat.zero_add,eq_self,Nat.reduceEqDiff,Int.reduceAdd,Int.reduceSub,Int.reduceMul,not_true_eq_false,not_false_eq_true,Nat.reduceLT,Int.reduceToNat,Int.reduceEq,Int.reduceNe,Int.reduceLT,Int.reduceLE,false_implies,true_implies]
              refine ⟨fun c3 => ?_, fun c3 => ?_⟩
              · refine w_Co_firstToDie_55 ?_
                simp (disch := omega) only [cm_,aq_,ay_,ag_,b8_,af_,b4_,ac_,bq_,ed_,bs_,ao_,a2_,az_,ar_,dw_,d6_,ea_,d3_,b5_,b1_,fh_,fu_,fp_,fz_,fq_,fk_,f0_,c5_,bt_,bd_,ct_,cx_,cr_,cz_,cj_,cf_,an_,cd_,a9_,a8_,a7_,ce_,fv_,Int.toNat_natCast,f3_,e4_,gd_,e8_,et_,di_,dm_,dn_,Nat.reduceAdd,Nat.reduceMul,Int.reduceNeg,Nat.reduceLeDiff,List.length_cons,List.length_nil,true_and,and_true,Nat.zero_add,eq_self,Nat.reduceEqDiff,Int.reduceAdd,Int.reduceSub,Int.reduceMul,not_true_eq_false,not_false_eq_true,Nat.reduceLT,Int.reduceToNat,Int.reduceEq,Int.reduceNe,Int.reduceLT,Int.reduceLE,false_implies,true_implies]
                exact stepF (fun q => c3 q.2.2)
              · rw [if_pos ⟨by omega, by omega, by omega⟩] at hk
                rw [if_neg (by omega)] at ht
                have hQ := hQ _ (hG.dsX (i + 1))
                rw [← ht, ← hk] at hQ
                exact hQ
          · simp (disch := omega) only [cm_,aq_,ay_,ag_,b8_,af_,b4_,ac_,bq_,ed_,bs_,ao_,a2_,az_,ar_,dw_,d6_,ea_,d3_,b5_,b1_,fh_,fu_,fp_,fz_,fq_,fk_,f0_,c5_,bt_,bd_,ct_,cx_,cr_,cz_,cj_,cf_,an_,cd_,a9_,a8_,a7_,ce_,fv_,Int.toNat_natCast,f3_,e4_,gd_,e8_,et_,di_,dm_,dn_,Nat.reduceAdd,Nat.reduceMul,Int.reduceNeg,Nat.reduceLeDiff,List.length_cons,List.length_nil,true_and,and_true,Nat.zero_add,eq_self,Nat.reduceEqDiff,Int.reduceAdd,Int.reduceSub,Int.reduceMul,not_true_eq_false,not_false_eq_true,Nat.reduceLT,Int.reduceToNat,Int.reduceEq,Int.reduceNe,Int.reduceLT,Int.reduceLE,false_implies,true_implies]
            refine w_Co_firstToDie_55 ?_
            simp (disch := omega) only [cm_,aq_,ay_,ag_,b8_,af_,b4_,ac_,bq_,ed_,bs_,ao_,a2_,az_,ar_,dw_,d6_,ea_,d3_,b5_,b1_,fh_,fu_,fp_,fz_,fq_,fk_,f0_,c5_,bt_,bd_,ct_,cx_,cr_,cz_,cj_,cf_,an_,cd_,a9_,a8_,a7_,ce_,fv_,Int.toNat_natCast,f3_,e4_,gd_,e8_,et_,di_,dm_,dn_,Nat.reduceAdd,Nat.reduceMul,Int.reduceNeg,Nat.reduceLeDiff,List.length_cons,List.length_nil,true_and,and_true,Nat.zero_add,eq_self,Nat.reduceEqDiff,Int.reduceAdd,Int.reduceSub,Int.reduceMul,not_true_eq_false,not_false_eq_true,Nat.reduceLT,Int.reduceToNat,Int.reduceEq,Int.reduceNe,Int.reduceLT,Int.reduceLE,false_implies,true_implies]
            exact stepF (fun q => c1 ⟨by omega, by omega⟩)
      refine w_Co_firstToDie_10 ?_
      simp (disch := omega) only [cm_,aq_,ay_,ag_,b8_,af_,b4_,ac_,bq_,ed_,bs_,ao_,a2_,az_,ar_,dw_,d6_,ea_,d3_,b5_,b1_,fh_,fu_,fp_,fz_,fq_,fk_,f0_,c5_,bt_,bd_,ct_,cx_,cr_,cz_,cj_,cf_,an_,cd_,a9_,a8_,a7_,ce_,fv_,Int.toNat_natCast,f3_,e4_,gd_,e8_,et_,di_,dm_,dn_,Nat.reduceAdd,Nat.reduceMul,Int.reduceNeg,Nat.reduceLeDiff,List.length_cons,List.length_nil,true_and,and_true,Nat.zero_add,eq_self,Nat.reduceEqDiff,Int.reduceAdd,Int.reduceSub,Int.reduceMul,not_true_eq_false,not_false_eq_true,Nat.reduceLT,Int.reduceToNat,Int.reduceEq,Int.reduceNe,Int.reduceLT,Int.reduceLE,false_implies,true_implies]
      refine ⟨fun _ => by omega, fun _ => ?_⟩
      refine conM_waits (q := 11) (by omega) (hG.dsX i) ?_
      simp (disch := omega) only [cm_,aq_,ay_,ag_,b8_,af_,b4_,ac_,bq_,ed_,bs_,ao_,a2_,az_,ar_,dw_,d6_,ea_,d3_,b5_,b1_,fh_,fu_,fp_,fz_,fq_,fk_,f0_,c5_,bt_,bd_,ct_,cx_,cr_,cz_,cj_,cf_,an_,cd_,a9_,a8_,a7_,ce_,fv_,Int.toNat_natCast,f3_,e4_,gd_,e8_,et_,di_,dm_,dn_,Nat.reduceAdd,Nat.reduceMul,Int.reduceNeg,Nat.reduceLeDiff,List.length_cons,List.length_nil,true_and,and_true,Nat.zero_add,eq_self,Nat.reduceEqDiff,Int.reduceAdd,Int.reduceSub,Int.reduceMul,not_true_eq_false,not_false_eq_true,Nat.reduceLT,Int.reduceToNat,Int.reduceEq,Int.reduceNe,Int.reduceLT,Int.reduceLE,false_implies,true_implies]
      rw [hd] at inner
      exact inner 8 0 rfl rfl
  exact loop 60 0 rfl rfl none
theorem con_CwhomToPardon {n : Nat} (hn : n ≤ 60) (hA : GR A) (hG : GR (rs 0)) (hQ : ∀ B, GR B → Q (some (.int (zI (mcN g6_ (rs 0) n 8).2))) (HX (upR rs 11 B) pi psz lt lsz tn tsz g1 g2 sd rf im hM)) : Con M_Co_whomToPardon [.ref 85, .ref 0, .int (zI n)] (HX (upR rs 11 A) pi psz lt lsz tn tsz g1 g2 sd rf im hM) Q := by
  have gm := hG.men
  have gn := hG.nM
  have gk : ∀ B, GR B → ∀ i, 0 ≤ hd_ (g6_ B i) ∧ hd_ (g6_ B i) ≤ 12 := fun B h i => (h.dsX i).king
  refine g8_ (L := [some (.ref 85), some (.ref 0), some (.int (zI n)), none, none, none]) ok_Co_whomToPardon (Nat.le_of_ble_eq_true rfl) rfl ?_
  refine w_Co_whomToPardon_0 ?_
  simp (disch := omega) only [cm_,aq_,ay_,ag_,b8_,af_,b4_,ac_,bq_,ed_,bs_,ao_,a2_,az_,ar_,dw_,d6_,ea_,d3_,b5_,b1_,fh_,fu_,fp_,fz_,fq_,fk_,f0_,c5_,bt_,bd_,ct_,cx_,cr_,cz_,cj_,cf_,an_,cd_,a9_,a8_,a7_,ce_,fv_,Int.toNat_natCast,f3_,e4_,gd_,e8_,et_,di_,dm_,dn_,Nat.reduceAdd,Nat.reduceMul,Int.reduceNeg,Nat.reduceLeDiff,List.length_cons,List.length_nil,true_and,and_true,Nat.zero_add,eq_self,Nat.reduceEqDiff,Int.reduceAdd,Int.reduceSub,Int.reduceMul,not_true_eq_false,not_false_eq_true,Nat.reduceLT,Int.reduceToNat,Int.reduceEq,Int.reduceNe,Int.reduceLT,Int.reduceLE,false_implies,true_implies]
  refine conM_become (q := 11) (by omega) ?_
  simp (disch := omega) only [cm_,aq_,ay_,ag_,b8_,af_,b4_,ac_,bq_,ed_,bs_,ao_,a2_,az_,ar_,dw_,d6_,ea_,d3_,b5_,b1_,fh_,fu_,fp_,fz_,fq_,fk_,f0_,c5_,bt_,bd_,ct_,cx_,cr_,cz_,cj_,cf_,an_,cd_,a9_,a8_,a7_,ce_,fv_,Int.toNat_natCast,f3_,e4_,gd_,e8_,et_,di_,dm_,dn_,Nat.reduceAdd,Nat.reduceMul,Int.reduceNeg,Nat.reduceLeDiff,List.length_cons,List.length_nil,true_and,and_true,Nat.zero_add,eq_self,Nat.reduceEqDiff,Int.reduceAdd,Int.reduceSub,Int.reduceMul,not_true_eq_false,not_false_eq_true,Nat.reduceLT,Int.reduceToNat,Int.reduceEq,Int.reduceNe,Int.reduceLT,Int.reduceLE,false_implies,true_implies]
  refine conM_passDays (q := 11) (by omega) (by omega) hG ?_
  simp (disch := omega) only [cm_,aq_,ay_,ag_,b8_,af_,b4_,ac_,bq_,ed_,bs_,ao_,a2_,az_,ar_,dw_,d6_,ea_,d3_,b5_,b1_,fh_,fu_,fp_,fz_,fq_,fk_,f0_,c5_,bt_,bd_,ct_,cx_,cr_,cz_,cj_,cf_,an_,cd_,a9_,a8_,a7_,ce_,fv_,Int.toNat_natCast,f3_,e4_,gd_,e8_,et_,di_,dm_,dn_,Nat.reduceAdd,Nat.reduceMul,Int.reduceNeg,Nat.reduceLeDiff,List.length_cons,List.length_nil,true_and,and_true,Nat.zero_add,eq_self,Nat.reduceEqDiff,Int.reduceAdd,Int.reduceSub,Int.reduceMul,not_true_eq_false,not_false_eq_true,Nat.reduceLT,Int.reduceToNat,Int.reduceEq,Int.reduceNe,Int.reduceLT,Int.reduceLE,false_implies,true_implies]
  have loop : ∀ k i : Nat, i + k = 8 → ∀ B, GR B → J M_Co_whomToPardon 32 [some (.ref 85), some (.ref 0), some (.int (zI n)), some (.int (zI (mcN g6_ (rs 0) n i).1)), some (.int (zI (mcN g6_ (rs 0) n i).2)), some (.int (zI i))] [] (HX (upR rs 11 B) pi psz lt lsz tn tsz g1 g2 sd rf im hM) Q := by
    intro k
    induction k with
    | zero =>
      intro i hi B hB
      have e : i = 8 := by omega
      subst e
      refine w_Co_whomToPardon_32 ?_
      simp (disch := omega) only [cm_,aq_,ay_,ag_,b8_,af_,b4_,ac_,bq_,ed_,bs_,ao_,a2_,az_,ar_,dw_,d6_,ea_,d3_,b5_,b1_,fh_,fu_,fp_,fz_,fq_,fk_,f0_,c5_,bt_,bd_,ct_,cx_,cr_,cz_,cj_,cf_,an_,cd_,a9_,a8_,a7_,ce_,fv_,Int.toNat_natCast,f3_,e4_,gd_,e8_,et_,di_,dm_,dn_,Nat.reduceAdd,Nat.reduceMul,Int.reduceNeg,Nat.reduceLeDiff,List.length_cons,List.length_nil,true_and,and_true,Nat.zero_add,eq_self,Nat.reduceEqDiff,Int.reduceAdd,Int.reduceSub,Int.reduceMul,not_true_eq_false,not_false_eq_true,Nat.reduceLT,Int.reduceToNat,Int.reduceEq,Int.reduceNe,Int.reduceLT,Int.reduceLE,false_implies,true_implies]
      repeat' (first | with_reducible refine And.intro ?_ ?_ | with_reducible intro _ | ((first | with_reducible refine w_Co_whomToPardon_98 ?_ | with_reducible refine w_Co_whomToPardon_104 ?_); simp (disch := omega) only [cm_,aq_,ay_,ag_,b8_,af_,b4_,ac_,bq_,ed_,bs_,ao_,a2_,az_,ar_,dw_,d6_,ea_,d3_,b5_,b1_,fh_,fu_,fp_,fz_,fq_,fk_,f0_,c5_,bt_,bd_,ct_,cx_,cr_,cz_,cj_,cf_,an_,cd_,a9_,a8_,a7_,ce_,fv_,Int.toNat_natCast,f3_,e4_,gd_,e8_,et_,di_,dm_,dn_,Nat.reduceAdd,Nat.reduceMul,Int.reduceNeg,Nat.reduceLeDiff,List.length_cons,List.length_nil,true_and,and_true,Nat.zero_add,eq_self,Nat.reduceEqDiff,Int.reduceAdd,Int.reduceSub,Int.reduceMul,not_true_eq_false,not_false_eq_true,Nat.reduceLT,Int.reduceToNat,Int.reduceEq,Int.reduceNe,Int.reduceLT,Int.reduceLE,false_implies,true_implies]))
      all_goals first | omega | exact hQ B hB
    | succ k ih =>
      intro i hi B hB
      have hf := hG.fa i
      have hr : 0 ≤ (mcN g6_ (rs 0) n i).1 ∧ (mcN g6_ (rs 0) n i).1 ≤ 12 := by
        clear ih hi
        induction i with
        | zero => exact gk _ hG n
        | succ j ihj =>
          simp only [mcN]
          split
          · exact gk _ (hG.setFa j (by omega)) n
          · exact ihj (hG.fa j)
      have step := ih (i + 1) (by omega)
      simp only [mcN] at step
      refine w_Co_whomToPardon_32 ?_
      simp (disch := omega) only [cm_,aq_,ay_,ag_,b8_,af_,b4_,ac_,bq_,ed_,bs_,ao_,a2_,az_,ar_,dw_,d6_,ea_,d3_,b5_,b1_,fh_,fu_,fp_,fz_,fq_,fk_,f0_,c5_,bt_,bd_,ct_,cx_,cr_,cz_,cj_,cf_,an_,cd_,a9_,a8_,a7_,ce_,fv_,Int.toNat_natCast,f3_,e4_,gd_,e8_,et_,di_,dm_,dn_,Nat.reduceAdd,Nat.reduceMul,Int.reduceNeg,Nat.reduceLeDiff,List.length_cons,List.length_nil,true_and,and_true,Nat.zero_add,eq_self,Nat.reduceEqDiff,Int.reduceAdd,Int.reduceSub,Int.reduceMul,not_true_eq_false,not_false_eq_true,Nat.reduceLT,Int.reduceToNat,Int.reduceEq,Int.reduceNe,Int.reduceLT,Int.reduceLE,false_implies,true_implies]
      refine ⟨fun _ => by omega, fun _ => ?_⟩
      refine conMN_fateOf (q := 11) (by omega) (by unfold inI; omega) hG (fun c1 => ?_) (fun c1 => ?_)
      · simp (disch := omega) only [cm_,aq_,ay_,ag_,b8_,af_,b4_,ac_,bq_,ed_,bs_,ao_,a2_,az_,ar_,dw_,d6_,ea_,d3_,b5_,b1_,fh_,fu_,fp_,fz_,fq_,fk_,f0_,c5_,bt_,bd_,ct_,cx_,cr_,cz_,cj_,cf_,an_,cd_,a9_,a8_,a7_,ce_,fv_,Int.toNat_natCast,f3_,e4_,gd_,e8_,et_,di_,dm_,dn_,Nat.reduceAdd,Nat.reduceMul,Int.reduceNeg,Nat.reduceLeDiff,List.length_cons,List.length_nil,true_and,and_true,Nat.zero_add,eq_self,Nat.reduceEqDiff,Int.reduceAdd,Int.reduceSub,Int.reduceMul,not_true_eq_false,not_false_eq_true,Nat.reduceLT,Int.reduceToNat,Int.reduceEq,Int.reduceNe,Int.reduceLT,Int.reduceLE,false_implies,true_implies]
        refine ⟨fun c2 => ?_, fun c2 => ?_⟩
        · rw [if_neg (fun q => c2 q.1.2)] at step
          refine w_Co_whomToPardon_98 ?_
          simp (disch := omega) only [cm_,aq_,ay_,ag_,b8_,af_,b4_,ac_,bq_,ed_,bs_,ao_,a2_,az_,ar_,dw_,d6_,ea_,d3_,b5_,b1_,fh_,fu_,fp_,fz_,fq_,fk_,f0_,c5_,bt_,bd_,ct_,cx_,cr_,cz_,cj_,cf_,an_,cd_,a9_,a8_,a7_,ce_,fv_,Int.toNat_natCast,f3_,e4_,gd_,e8_,et_,di_,dm_,dn_,Nat.reduceAdd,Nat.reduceMul,Int.reduceNeg,Nat.reduceLeDiff,List.length_cons,List.length_nil,true_and,and_true,Nat.zero_add,eq_self,Nat.reduceEqDiff,Int.reduceAdd,Int.reduceSub,Int.reduceMul,not_true_eq_false,not_false_eq_true,Nat.reduceLT,Int.reduceToNat,Int.reduceEq,Int.reduceNe,Int.reduceLT,Int.reduceLE,false_implies,true_implies]
          exact step B hB
        · have hc : i < hb_ (rs 0) ∧ rFa (rs 0) i = 0 := ⟨by omega, by omega⟩
          have hG2 := hG.setFa i (x := 1) (by omega)
          have hk2 := gk _ hG2 n
          refine conM_become (q := 11) (by omega) ?_
          simp (disch := omega) only [cm_,aq_,ay_,ag_,b8_,af_,b4_,ac_,bq_,ed_,bs_,ao_,a2_,az_,ar_,dw_,d6_,ea_,d3_,b5_,b1_,fh_,fu_,fp_,fz_,fq_,fk_,f0_,c5_,bt_,bd_,ct_,cx_,cr_,cz_,cj_,cf_,an_,cd_,a9_,a8_,a7_,ce_,fv_,Int.toNat_natCast,f3_,e4_,gd_,e8_,et_,di_,dm_,dn_,Nat.reduceAdd,Nat.reduceMul,Int.reduceNeg,Nat.reduceLeDiff,List.length_cons,List.length_nil,true_and,and_true,Nat.zero_add,eq_self,Nat.reduceEqDiff,Int.reduceAdd,Int.reduceSub,Int.reduceMul,not_true_eq_false,not_false_eq_true,Nat.reduceLT,Int.reduceToNat,Int.reduceEq,Int.reduceNe,Int.reduceLT,Int.reduceLE,false_implies,true_implies]
          refine conM_makeFate (q := 11) (by omega) (by unfold inI; omega) hG (fun _ => ?_) (fun q => absurd c1 q)
          simp (disch := omega) only [cm_,aq_,ay_,ag_,b8_,af_,b4_,ac_,bq_,ed_,bs_,ao_,a2_,az_,ar_,dw_,d6_,ea_,d3_,b5_,b1_,fh_,fu_,fp_,fz_,fq_,fk_,f0_,c5_,bt_,bd_,ct_,cx_,cr_,cz_,cj_,cf_,an_,cd_,a9_,a8_,a7_,ce_,fv_,Int.toNat_natCast,f3_,e4_,gd_,e8_,et_,di_,dm_,dn_,Nat.reduceAdd,Nat.reduceMul,Int.reduceNeg,Nat.reduceLeDiff,List.length_cons,List.length_nil,true_and,and_true,Nat.zero_add,eq_self,Nat.reduceEqDiff,Int.reduceAdd,Int.reduceSub,Int.reduceMul,not_true_eq_false,not_false_eq_true,Nat.reduceLT,Int.reduceToNat,Int.reduceEq,Int.reduceNe,Int.reduceLT,Int.reduceLE,false_implies,true_implies]
          refine conM_passDays (q := 11) (by omega) (by omega) hG2 ?_
          simp (disch := omega) only [cm_,aq_,ay_,ag_,b8_,af_,b4_,ac_,bq_,ed_,bs_,ao_,a2_,az_,ar_,dw_,d6_,ea_,d3_,b5_,b1_,fh_,fu_,fp_,fz_,fq_,fk_,f0_,c5_,bt_,bd_,ct_,cx_,cr_,cz_,cj_,cf_,an_,cd_,a9_,a8_,a7_,ce_,fv_,Int.toNat_natCast,f3_,e4_,gd_,e8_,et_,di_,dm_,dn_,Nat.reduceAdd,Nat.reduceMul,Int.reduceNeg,Nat.reduceLeDiff,List.length_cons,List.length_nil,true_and,and_true,Nat.zero_add,eq_self,Nat.reduceEqDiff,Int.reduceAdd,Int.reduceSub,Int.reduceMul,not_true_eq_false,not_false_eq_true,Nat.reduceLT,Int.reduceToNat,Int.reduceEq,Int.reduceNe,Int.reduceLT,Int.reduceLE,false_implies,true_implies]
          refine ⟨fun c3 => ?_, fun c3 => ?_⟩
          · rw [if_neg (by omega)] at step
            refine w_Co_whomToPardon_98 ?_
            simp (disch := omega) only [cm_,aq_,ay_,ag_,b8_,af_,b4_,ac_,bq_,ed_,bs_,ao_,a2_,az_,ar_,dw_,d6_,ea_,d3_,b5_,b1_,fh_,fu_,fp_,fz_,fq_,fk_,f0_,c5_,bt_,bd_,ct_,cx_,cr_,cz_,cj_,cf_,an_,cd_,a9_,a8_,a7_,ce_,fv_,Int.toNat_natCast,f3_,e4_,gd_,e8_,et_,di_,dm_,dn_,Nat.reduceAdd,Nat.reduceMul,Int.reduceNeg,Nat.reduceLeDiff,List.length_cons,List.length_nil,true_and,and_true,Nat.zero_add,eq_self,Nat.reduceEqDiff,Int.reduceAdd,Int.reduceSub,Int.reduceMul,not_true_eq_false,not_false_eq_true,Nat.reduceLT,Int.reduceToNat,Int.reduceEq,Int.reduceNe,Int.reduceLT,Int.reduceLE,false_implies,true_implies]
            exact step _ (hG2.dsX n)
          · rw [if_pos ⟨hc, by omega⟩] at step
            refine w_Co_whomToPardon_98 ?_
            simp (disch := omega) only [cm_,aq_,ay_,ag_,b8_,af_,b4_,ac_,bq_,ed_,bs_,ao_,a2_,az_,ar_,dw_,d6_,ea_,d3_,b5_,b1_,fh_,fu_,fp_,fz_,fq_,fk_,f0_,c5_,bt_,bd_,ct_,cx_,cr_,cz_,cj_,cf_,an_,cd_,a9_,a8_,a7_,ce_,fv_,Int.toNat_natCast,f3_,e4_,gd_,e8_,et_,di_,dm_,dn_,Nat.reduceAdd,Nat.reduceMul,Int.reduceNeg,Nat.reduceLeDiff,List.length_cons,List.length_nil,true_and,and_true,Nat.zero_add,eq_self,Nat.reduceEqDiff,Int.reduceAdd,Int.reduceSub,Int.reduceMul,not_true_eq_false,not_false_eq_true,Nat.reduceLT,Int.reduceToNat,Int.reduceEq,Int.reduceNe,Int.reduceLT,Int.reduceLE,false_implies,true_implies]
            exact step _ (hG2.dsX n)
      · rw [if_neg (fun q => c1 ⟨by omega, by omega⟩)] at step
        simp (disch := omega) only [cm_,aq_,ay_,ag_,b8_,af_,b4_,ac_,bq_,ed_,bs_,ao_,a2_,az_,ar_,dw_,d6_,ea_,d3_,b5_,b1_,fh_,fu_,fp_,fz_,fq_,fk_,f0_,c5_,bt_,bd_,ct_,cx_,cr_,cz_,cj_,cf_,an_,cd_,a9_,a8_,a7_,ce_,fv_,Int.toNat_natCast,f3_,e4_,gd_,e8_,et_,di_,dm_,dn_,Nat.reduceAdd,Nat.reduceMul,Int.reduceNeg,Nat.reduceLeDiff,List.length_cons,List.length_nil,true_and,and_true,Nat.zero_add,eq_self,Nat.reduceEqDiff,Int.reduceAdd,Int.reduceSub,Int.reduceMul,not_true_eq_false,not_false_eq_true,Nat.reduceLT,Int.reduceToNat,Int.reduceEq,Int.reduceNe,Int.reduceLT,Int.reduceLE,false_implies,true_implies]
        refine w_Co_whomToPardon_98 ?_
        simp (disch := omega) only [cm_,aq_,ay_,ag_,b8_,af_,b4_,ac_,bq_,ed_,bs_,ao_,a2_,az_,ar_,dw_,d6_,ea_,d3_,b5_,b1_,fh_,fu_,fp_,fz_,fq_,fk_,f0_,c5_,bt_,bd_,ct_,cx_,cr_,cz_,cj_,cf_,an_,cd_,a9_,a8_,a7_,ce_,fv_,Int.toNat_natCast,f3_,e4_,gd_,e8_,et_,di_,dm_,dn_,Nat.reduceAdd,Nat.reduceMul,Int.reduceNeg,Nat.reduceLeDiff,List.length_cons,List.length_nil,true_and,and_true,Nat.zero_add,eq_self,Nat.reduceEqDiff,Int.reduceAdd,Int.reduceSub,Int.reduceMul,not_true_eq_false,not_false_eq_true,Nat.reduceLT,Int.reduceToNat,Int.reduceEq,Int.reduceNe,Int.reduceLT,Int.reduceLE,false_implies,true_implies]
        exact step B hB
  exact loop 8 0 rfl _ (hG.dsX n)
end C7
end
/-! counsel -/
section
/-! ===== the counsel, further ===== -/
section C8
variable {rs : Nat → RR} {pi : Nat → Nat} {psz : Int} {lt : Nat → Int} {lsz : Int} {tn : Nat → Int} {tsz : Int} {g1 g2 : Nat → Int} {sd : Int} {rf : Nat → Int} {im : Int} {hM : AH} {Q : Option Value → AH → Prop} {A : RR}
theorem GR.par {R : RR} (h : GR R) (b i : Nat) : GR (parR R b i) := by
  obtain ⟨h1, h2, h3, h4, h5, h6, h7, h8, h9⟩ := id h
  refine ⟨h1, h2, h3, h4, h5, h6, h7, fun k => ?_, h9⟩
  have := h8 k
  simp only [parR, dr_]
  split <;> omega
theorem con_CpardonInMind {b : Nat} (hb : b < 256) (hG : GR A) (hQ : Q none (HX (upR rs 11 (parR A b 8)) pi psz lt lsz tn tsz g1 g2 sd rf im hM)) : Con M_Co_pardonInMind [.ref 85, .int (zI b)] (HX (upR rs 11 A) pi psz lt lsz tn tsz g1 g2 sd rf im hM) Q := by
  have gm := hG.men
  have gn := hG.nM
  refine g8_ (L := [some (.ref 85), some (.int (zI b)), none]) ok_Co_pardonInMind (Nat.le_of_ble_eq_true rfl) rfl ?_
  refine w_Co_pardonInMind_0 ?_
  simp (disch := omega) only [cm_,aq_,ay_,ag_,b8_,af_,ba_,bc_,bb_,bf_,bv_,b4_,ac_,b2_,bq_,ed_,bs_,ao_,c4_,a2_,az_,ar_,av_,c1_,dw_,d6_,ea_,d3_,b5_,b1_,fl_,fn_,fh_,fu_,fp_,fz_,fq_,fk_,fr_,f0_,c5_,bt_,bd_,c3_,ct_,cx_,co_,cr_,cz_,cj_,cf_,ch_,an_,dr_,cd_,a9_,a8_,a7_,ce_,cv_,fv_,d1_,Int.toNat_natCast,c7_,c6_,ej_,ei_,f3_,e4_,gd_,e8_,a5_,et_,c8_,di_,dm_,dn_,Nat.reduceAdd,Nat.reduceMul,Int.reduceNeg,Nat.reduceLeDiff,List.length_cons,List.length_nil,true_and,and_true,Nat.zero_add,eq_self,Nat.reduceEqDiff,Int.reduceAdd,Int.reduceSub,Int.reduceMul,not_true_eq_false,not_false_eq_true,Nat.reduceLT,Int.reduceToNat,Int.reduceEq,Int.reduceNe,Int.reduceLT,Int.reduceLE,and_self,false_and,false_implies,true_implies]
  have loop : ∀ n i : Nat, i + n = 8 → J M_Co_pardonInMind 2 [some (.ref 85), some (.int (zI b)), some (.int (zI i))] [] (HX (upR rs 11 (parR A b i)) pi psz lt lsz tn tsz g1 g2 sd rf im hM) Q := by
    intro n
    induction n with
    | zero =>
      intro i hi
      have e : i = 8 := by omega
      subst e
      refine w_Co_pardonInMind_2 ?_
      simp (disch := omega) only [cm_,aq_,ay_,ag_,b8_,af_,ba_,bc_,bb_,bf_,bv_,b4_,ac_,b2_,bq_,ed_,bs_,ao_,c4_,a2_,az_,ar_,av_,c1_,dw_,d6_,ea_,d3_,b5_,b1_,fl_,fn_,fh_,fu_,fp_,fz_,fq_,fk_,fr_,f0_,c5_,bt_,bd_,c3_,ct_,cx_,co_,cr_,cz_,cj_,cf_,ch_,an_,dr_,cd_,a9_,a8_,a7_,ce_,cv_,fv_,d1_,Int.toNat_natCast,c7_,c6_,ej_,ei_,f3_,e4_,gd_,e8_,a5_,et_,c8_,di_,dm_,dn_,Nat.reduceAdd,Nat.reduceMul,Int.reduceNeg,Nat.reduceLeDiff,List.length_cons,List.length_nil,true_and,and_true,Nat.zero_add,eq_self,Nat.reduceEqDiff,Int.reduceAdd,Int.reduceSub,Int.reduceMul,not_true_eq_false,not_false_eq_true,Nat.reduceLT,Int.reduceToNat,Int.reduceEq,Int.reduceNe,Int.reduceLT,Int.reduceLE,and_self,false_and,false_implies,true_implies]
      repeat' (first | with_reducible refine And.intro ?_ ?_ | with_reducible intro _ | ((first | with_reducible refine w_Co_pardonInMind_26 ?_ | with_reducible refine w_Co_pardonInMind_32 ?_); simp (disch := omega) only [cm_,aq_,ay_,ag_,b8_,af_,ba_,bc_,bb_,bf_,bv_,b4_,ac_,b2_,bq_,ed_,bs_,ao_,c4_,a2_,az_,ar_,av_,c1_,dw_,d6_,ea_,d3_,b5_,b1_,fl_,fn_,fh_,fu_,fp_,fz_,fq_,fk_,fr_,f0_,c5_,bt_,bd_,c3_,ct_,cx_,co_,cr_,cz_,cj_,cf_,ch_,an_,dr_,cd_,a9_,a8_,a7_,ce_,cv_,fv_,d1_,Int.toNat_natCast,c7_,c6_,ej_,ei_,f3_,e4_,gd_,e8_,a5_,et_,c8_,di_,dm_,dn_,Nat.reduceAdd,Nat.reduceMul,Int.reduceNeg,Nat.reduceLeDiff,List.length_cons,List.length_nil,true_and,and_true,Nat.zero_add,eq_self,Nat.reduceEqDiff,Int.reduceAdd,Int.reduceSub,Int.reduceMul,not_true_eq_false,not_false_eq_true,Nat.reduceLT,Int.reduceToNat,Int.reduceEq,Int.reduceNe,Int.reduceLT,Int.reduceLE,and_self,false_and,false_implies,true_implies]))
      all_goals first | omega | exact hQ
    | succ n ih =>
      intro i hi
      have step := ih (i + 1) (by omega)
      have same : ¬ (i < hb_ A ∧ b.testBit i = true) → parR A b (i + 1) = parR A b i := by
        intro c
        refine congrArg (fun f => sFa A f) ?_
        funext k
        by_cases hk : k = i
        · subst hk
          rw [if_neg (fun q => c ⟨q.2.1, q.2.2⟩), if_neg (by omega)]
        · simp only [show (k < i + 1) = (k < i) by simp; omega]
      have more : i < hb_ A → b.testBit i = true → parR A b (i + 1) = sFa (parR A b i) (upI (rFa (parR A b i)) i 1) := by
        intro c1 c2
        refine congrArg (fun f => sFa A f) ?_
        funext k
        simp only [upI]
        by_cases hk : k = i
        · subst hk
          rw [if_pos ⟨by omega, c1, c2⟩, if_pos rfl]
        · simp only [hk, if_false, show (k < i + 1) = (k < i) by simp; omega]
          rfl
      refine w_Co_pardonInMind_2 ?_
      simp (disch := omega) only [cm_,aq_,ay_,ag_,b8_,af_,ba_,bc_,bb_,bf_,bv_,b4_,ac_,b2_,bq_,ed_,bs_,ao_,c4_,a2_,az_,ar_,av_,c1_,dw_,d6_,ea_,d3_,b5_,b1_,fl_,fn_,fh_,fu_,fp_,fz_,fq_,fk_,fr_,f0_,c5_,bt_,bd_,c3_,ct_,cx_,co_,cr_,cz_,cj_,cf_,ch_,an_,dr_,cd_,a9_,a8_,a7_,ce_,cv_,fv_,d1_,Int.toNat_natCast,c7_,c6_,ej_,ei_,f3_,e4_,gd_,e8_,a5_,et_,c8_,di_,dm_,dn_,Nat.reduceAdd,Nat.reduceMul,Int.reduceNeg,Nat.reduceLeDiff,List.length_cons,List.length_nil,true_and,and_true,Nat.zero_add,eq_self,Nat.reduceEqDiff,Int.reduceAdd,Int.reduceSub,Int.reduceMul,not_true_eq_false,not_false_eq_true,Nat.reduceLT,Int.reduceToNat,Int.reduceEq,Int.reduceNe,Int.reduceLT,Int.reduceLE,and_self,false_and,false_implies,true_implies]
      refine ⟨fun _ => by omega, fun _ => ⟨fun c => ?_, fun c => ?_⟩⟩
      · rw [same (fun q => c q.2)] at step
        refine w_Co_pardonInMind_26 ?_
        simp (disch := omega) only [cm_,aq_,ay_,ag_,b8_,af_,ba_,bc_,bb_,bf_,bv_,b4_,ac_,b2_,bq_,ed_,bs_,ao_,c4_,a2_,az_,ar_,av_,c1_,dw_,d6_,ea_,d3_,b5_,b1_,fl_,fn_,fh_,fu_,fp_,fz_,fq_,fk_,fr_,f0_,c5_,bt_,bd_,c3_,ct_,cx_,co_,cr_,cz_,cj_,cf_,ch_,an_,dr_,cd_,a9_,a8_,a7_,ce_,cv_,fv_,d1_,Int.toNat_natCast,c7_,c6_,ej_,ei_,f3_,e4_,gd_,e8_,a5_,et_,c8_,di_,dm_,dn_,Nat.reduceAdd,Nat.reduceMul,Int.reduceNeg,Nat.reduceLeDiff,List.length_cons,List.length_nil,true_and,and_true,Nat.zero_add,eq_self,Nat.reduceEqDiff,Int.reduceAdd,Int.reduceSub,Int.reduceMul,not_true_eq_false,not_false_eq_true,Nat.reduceLT,Int.reduceToNat,Int.reduceEq,Int.reduceNe,Int.reduceLT,Int.reduceLE,and_self,false_and,false_implies,true_implies]
        exact step
      · refine conM_makeFate (q := 11) (by omega) (by unfold inI; omega) (hG.par b i) (fun c1 => ?_) (fun c1 => ?_)
        · have c1 : (i : Int) < rMen A := c1.2
          rw [more (by omega) (by simp_all)] at step
          simp (disch := omega) only [cm_,aq_,ay_,ag_,b8_,af_,ba_,bc_,bb_,bf_,bv_,b4_,ac_,b2_,bq_,ed_,bs_,ao_,c4_,a2_,az_,ar_,av_,c1_,dw_,d6_,ea_,d3_,b5_,b1_,fl_,fn_,fh_,fu_,fp_,fz_,fq_,fk_,fr_,f0_,c5_,bt_,bd_,c3_,ct_,cx_,co_,cr_,cz_,cj_,cf_,ch_,an_,dr_,cd_,a9_,a8_,a7_,ce_,cv_,fv_,d1_,Int.toNat_natCast,c7_,c6_,ej_,ei_,f3_,e4_,gd_,e8_,a5_,et_,c8_,di_,dm_,dn_,Nat.reduceAdd,Nat.reduceMul,Int.reduceNeg,Nat.reduceLeDiff,List.length_cons,List.length_nil,true_and,and_true,Nat.zero_add,eq_self,Nat.reduceEqDiff,Int.reduceAdd,Int.reduceSub,Int.reduceMul,not_true_eq_false,not_false_eq_true,Nat.reduceLT,Int.reduceToNat,Int.reduceEq,Int.reduceNe,Int.reduceLT,Int.reduceLE,and_self,false_and,false_implies,true_implies]
          refine w_Co_pardonInMind_26 ?_
          simp (disch := omega) only [cm_,aq_,ay_,ag_,b8_,af_,ba_,bc_,bb_,bf_,bv_,b4_,ac_,b2_,bq_,ed_,bs_,ao_,c4_,a2_,az_,ar_,av_,c1_,dw_,d6_,ea_,d3_,b5_,b1_,fl_,fn_,fh_,fu_,fp_,fz_,fq_,fk_,fr_,f0_,c5_,bt_,bd_,c3_,ct_,cx_,co_,cr_,cz_,cj_,cf_,ch_,an_,dr_,cd_,a9_,a8_,a7_,ce_,cv_,fv_,d1_,Int.toNat_natCast,c7_,c6_,ej_,ei_,f3_,e4_,gd_,e8_,a5_,et_,c8_,di_,dm_,dn_,Nat.reduceAdd,Nat.reduceMul,Int.reduceNeg,Nat.reduceLeDiff,List.length_cons,List.length_nil,true_and,and_true,Nat.zero_add,eq_self,Nat.reduceEqDiff,Int.reduceAdd,Int.reduceSub,Int.reduceMul,not_true_eq_false,not_false_eq_true,Nat.reduceLT,Int.reduceToNat,Int.reduceEq,Int.reduceNe,Int.reduceLT,Int.reduceLE,and_self,false_and,false_implies,true_implies]
          exact step
        · have c1 : ¬ (i : Int) < rMen A := fun q => c1 ⟨by omega, q⟩
          rw [same (by omega)] at step
          simp (disch := omega) only [cm_,aq_,ay_,ag_,b8_,af_,ba_,bc_,bb_,bf_,bv_,b4_,ac_,b2_,bq_,ed_,bs_,ao_,c4_,a2_,az_,ar_,av_,c1_,dw_,d6_,ea_,d3_,b5_,b1_,fl_,fn_,fh_,fu_,fp_,fz_,fq_,fk_,fr_,f0_,c5_,bt_,bd_,c3_,ct_,cx_,co_,cr_,cz_,cj_,cf_,ch_,an_,dr_,cd_,a9_,a8_,a7_,ce_,cv_,fv_,d1_,Int.toNat_natCast,c7_,c6_,ej_,ei_,f3_,e4_,gd_,e8_,a5_,et_,c8_,di_,dm_,dn_,Nat.reduceAdd,Nat.reduceMul,Int.reduceNeg,Nat.reduceLeDiff,List.length_cons,List.length_nil,true_and,and_true,Nat.zero_add,eq_self,Nat.reduceEqDiff,Int.reduceAdd,Int.reduceSub,Int.reduceMul,not_true_eq_false,not_false_eq_true,Nat.reduceLT,Int.reduceToNat,Int.reduceEq,Int.reduceNe,Int.reduceLT,Int.reduceLE,and_self,false_and,false_implies,true_implies]
          refine w_Co_pardonInMind_26 ?_
          simp (disch := omega) only [cm_,aq_,ay_,ag_,b8_,af_,ba_,bc_,bb_,bf_,bv_,b4_,ac_,b2_,bq_,ed_,bs_,ao_,c4_,a2_,az_,ar_,av_,c1_,dw_,d6_,ea_,d3_,b5_,b1_,fl_,fn_,fh_,fu_,fp_,fz_,fq_,fk_,fr_,f0_,c5_,bt_,bd_,c3_,ct_,cx_,co_,cr_,cz_,cj_,cf_,ch_,an_,dr_,cd_,a9_,a8_,a7_,ce_,cv_,fv_,d1_,Int.toNat_natCast,c7_,c6_,ej_,ei_,f3_,e4_,gd_,e8_,a5_,et_,c8_,di_,dm_,dn_,Nat.reduceAdd,Nat.reduceMul,Int.reduceNeg,Nat.reduceLeDiff,List.length_cons,List.length_nil,true_and,and_true,Nat.zero_add,eq_self,Nat.reduceEqDiff,Int.reduceAdd,Int.reduceSub,Int.reduceMul,not_true_eq_false,not_false_eq_true,Nat.reduceLT,Int.reduceToNat,Int.reduceEq,Int.reduceNe,Int.reduceLT,Int.reduceLE,and_self,false_and,false_implies,true_implies]
          exact step
  have e : parR A b 0 = A := by
    have : (fun k => if k < 0 ∧ k < hb_ A ∧ b.testBit k = true then 1 else rFa A k) = rFa A := by
      funext k
      rw [if_neg (by omega)]
    simp only [parR, this]
    rfl
  have := loop 8 0 rfl
  rw [e] at this
  exact this
theorem con_CgreatestLoad {n : Nat} (hn : n ≤ 60) (hA : GR A) (hG : GR (rs 0)) (hQ : ∀ B, GR B → Q (some (.int (zI (crN g6_ (rs 0) n 60)))) (HX (upR rs 11 B) pi psz lt lsz tn tsz g1 g2 sd rf im hM)) : Con M_Co_greatestLoad [.ref 85, .ref 0, .int (zI n)] (HX (upR rs 11 A) pi psz lt lsz tn tsz g1 g2 sd rf im hM) Q := by
  refine g8_ (L := [some (.ref 85), some (.ref 0), some (.int (zI n)), none]) ok_Co_greatestLoad (Nat.le_of_ble_eq_true rfl) rfl ?_
  refine w_Co_greatestLoad_0 ?_
  simp (disch := omega) only [cm_,aq_,ay_,ag_,b8_,af_,ba_,bc_,bb_,bf_,bv_,b4_,ac_,b2_,bq_,ed_,bs_,ao_,c4_,a2_,az_,ar_,av_,c1_,dw_,d6_,ea_,d3_,b5_,b1_,fl_,fn_,fh_,fu_,fp_,fz_,fq_,fk_,fr_,f0_,c5_,bt_,bd_,c3_,ct_,cx_,co_,cr_,cz_,cj_,cf_,ch_,an_,dr_,cd_,a9_,a8_,a7_,ce_,cv_,fv_,d1_,Int.toNat_natCast,c7_,c6_,ej_,ei_,f3_,e4_,gd_,e8_,a5_,et_,c8_,di_,dm_,dn_,Nat.reduceAdd,Nat.reduceMul,Int.reduceNeg,Nat.reduceLeDiff,List.length_cons,List.length_nil,true_and,and_true,Nat.zero_add,eq_self,Nat.reduceEqDiff,Int.reduceAdd,Int.reduceSub,Int.reduceMul,not_true_eq_false,not_false_eq_true,Nat.reduceLT,Int.reduceToNat,Int.reduceEq,Int.reduceNe,Int.reduceLT,Int.reduceLE,and_self,false_and,false_implies,true_implies]
  have loop : ∀ v : Nat, v ≤ 60 → crN g6_ (rs 0) n v = crN g6_ (rs 0) n 60 → ∀ B, GR B → J M_Co_greatestLoad 3 [some (.ref 85), some (.ref 0), some (.int (zI n)), some (.int (zI v))] [] (HX (upR rs 11 B) pi psz lt lsz tn tsz g1 g2 sd rf im hM) Q := by
    intro v
    induction v with
    | zero =>
      intro hv ht B hB
      have hQ := hQ _ hB
      rw [← ht] at hQ
      refine w_Co_greatestLoad_3 ?_
      simp (disch := omega) only [cm_,aq_,ay_,ag_,b8_,af_,ba_,bc_,bb_,bf_,bv_,b4_,ac_,b2_,bq_,ed_,bs_,ao_,c4_,a2_,az_,ar_,av_,c1_,dw_,d6_,ea_,d3_,b5_,b1_,fl_,fn_,fh_,fu_,fp_,fz_,fq_,fk_,fr_,f0_,c5_,bt_,bd_,c3_,ct_,cx_,co_,cr_,cz_,cj_,cf_,ch_,an_,dr_,cd_,a9_,a8_,a7_,ce_,cv_,fv_,d1_,Int.toNat_natCast,c7_,c6_,ej_,ei_,f3_,e4_,gd_,e8_,a5_,et_,c8_,di_,dm_,dn_,Nat.reduceAdd,Nat.reduceMul,Int.reduceNeg,Nat.reduceLeDiff,List.length_cons,List.length_nil,true_and,and_true,Nat.zero_add,eq_self,Nat.reduceEqDiff,Int.reduceAdd,Int.reduceSub,Int.reduceMul,not_true_eq_false,not_false_eq_true,Nat.reduceLT,Int.reduceToNat,Int.reduceEq,Int.reduceNe,Int.reduceLT,Int.reduceLE,and_self,false_and,false_implies,true_implies]
      repeat' (first | with_reducible refine And.intro ?_ ?_ | with_reducible intro _ | ((first | with_reducible refine w_Co_greatestLoad_45 ?_ | with_reducible refine w_Co_greatestLoad_51 ?_); simp (disch := omega) only [cm_,aq_,ay_,ag_,b8_,af_,ba_,bc_,bb_,bf_,bv_,b4_,ac_,b2_,bq_,ed_,bs_,ao_,c4_,a2_,az_,ar_,av_,c1_,dw_,d6_,ea_,d3_,b5_,b1_,fl_,fn_,fh_,fu_,fp_,fz_,fq_,fk_,fr_,f0_,c5_,bt_,bd_,c3_,ct_,cx_,co_,cr_,cz_,cj_,cf_,ch_,an_,dr_,cd_,a9_,a8_,a7_,ce_,cv_,fv_,d1_,Int.toNat_natCast,c7_,c6_,ej_,ei_,f3_,e4_,gd_,e8_,a5_,et_,c8_,di_,dm_,dn_,Nat.reduceAdd,Nat.reduceMul,Int.reduceNeg,Nat.reduceLeDiff,List.length_cons,List.length_nil,true_and,and_true,Nat.zero_add,eq_self,Nat.reduceEqDiff,Int.reduceAdd,Int.reduceSub,Int.reduceMul,not_true_eq_false,not_false_eq_true,Nat.reduceLT,Int.reduceToNat,Int.reduceEq,Int.reduceNe,Int.reduceLT,Int.reduceLE,and_self,false_and,false_implies,true_implies]))
      all_goals first | omega | exact hQ
    | succ v ih =>
      intro hv ht B hB
      have hG2 : GR (sLoad (rs 0) ((v + 1 : Nat) : Int)) := hG.setLoad (by omega)
      have hs : crN g6_ (rs 0) n (v + 1) = if hd_ (g6_ (sLoad (rs 0) ((v + 1 : Nat) : Int)) n) = 12 then ((v + 1 : Nat) : Int) else crN g6_ (rs 0) n v := rfl
      rw [hs] at ht
      refine w_Co_greatestLoad_3 ?_
      simp (disch := omega) only [cm_,aq_,ay_,ag_,b8_,af_,ba_,bc_,bb_,bf_,bv_,b4_,ac_,b2_,bq_,ed_,bs_,ao_,c4_,a2_,az_,ar_,av_,c1_,dw_,d6_,ea_,d3_,b5_,b1_,fl_,fn_,fh_,fu_,fp_,fz_,fq_,fk_,fr_,f0_,c5_,bt_,bd_,c3_,ct_,cx_,co_,cr_,cz_,cj_,cf_,ch_,an_,dr_,cd_,a9_,a8_,a7_,ce_,cv_,fv_,d1_,Int.toNat_natCast,c7_,c6_,ej_,ei_,f3_,e4_,gd_,e8_,a5_,et_,c8_,di_,dm_,dn_,Nat.reduceAdd,Nat.reduceMul,Int.reduceNeg,Nat.reduceLeDiff,List.length_cons,List.length_nil,true_and,and_true,Nat.zero_add,eq_self,Nat.reduceEqDiff,Int.reduceAdd,Int.reduceSub,Int.reduceMul,not_true_eq_false,not_false_eq_true,Nat.reduceLT,Int.reduceToNat,Int.reduceEq,Int.reduceNe,Int.reduceLT,Int.reduceLE,and_self,false_and,false_implies,true_implies]
      refine ⟨fun _ => by omega, fun _ => ?_⟩
      refine conM_become (q := 11) (by omega) ?_
      simp (disch := omega) only [cm_,aq_,ay_,ag_,b8_,af_,ba_,bc_,bb_,bf_,bv_,b4_,ac_,b2_,bq_,ed_,bs_,ao_,c4_,a2_,az_,ar_,av_,c1_,dw_,d6_,ea_,d3_,b5_,b1_,fl_,fn_,fh_,fu_,fp_,fz_,fq_,fk_,fr_,f0_,c5_,bt_,bd_,c3_,ct_,cx_,co_,cr_,cz_,cj_,cf_,ch_,an_,dr_,cd_,a9_,a8_,a7_,ce_,cv_,fv_,d1_,Int.toNat_natCast,c7_,c6_,ej_,ei_,f3_,e4_,gd_,e8_,a5_,et_,c8_,di_,dm_,dn_,Nat.reduceAdd,Nat.reduceMul,Int.reduceNeg,Nat.reduceLeDiff,List.length_cons,List.length_nil,true_and,and_true,Nat.zero_add,eq_self,Nat.reduceEqDiff,Int.reduceAdd,Int.reduceSub,Int.reduceMul,not_true_eq_false,not_false_eq_true,Nat.reduceLT,Int.reduceToNat,Int.reduceEq,Int.reduceNe,Int.reduceLT,Int.reduceLE,and_self,false_and,false_implies,true_implies]
      refine conM_passDays (q := 11) (by omega) (by omega) hG2 ?_
      simp (disch := omega) only [cm_,aq_,ay_,ag_,b8_,af_,ba_,bc_,bb_,bf_,bv_,b4_,ac_,b2_,bq_,ed_,bs_,ao_,c4_,a2_,az_,ar_,av_,c1_,dw_,d6_,ea_,d3_,b5_,b1_,fl_,fn_,fh_,fu_,fp_,fz_,fq_,fk_,fr_,f0_,c5_,bt_,bd_,c3_,ct_,cx_,co_,cr_,cz_,cj_,cf_,ch_,an_,dr_,cd_,a9_,a8_,a7_,ce_,cv_,fv_,d1_,Int.toNat_natCast,c7_,c6_,ej_,ei_,f3_,e4_,gd_,e8_,a5_,et_,c8_,di_,dm_,dn_,Nat.reduceAdd,Nat.reduceMul,Int.reduceNeg,Nat.reduceLeDiff,List.length_cons,List.length_nil,true_and,and_true,Nat.zero_add,eq_self,Nat.reduceEqDiff,Int.reduceAdd,Int.reduceSub,Int.reduceMul,not_true_eq_false,not_false_eq_true,Nat.reduceLT,Int.reduceToNat,Int.reduceEq,Int.reduceNe,Int.reduceLT,Int.reduceLE,and_self,false_and,false_implies,true_implies]
      refine conM_isHome (q := 11) (by omega) (hG2.dsX n) (fun c => ?_) (fun c => ?_)
      · rw [if_pos c] at ht
        have hQ := hQ _ (hG2.dsX n)
        rw [← ht] at hQ
        simp (disch := omega) only [cm_,aq_,ay_,ag_,b8_,af_,ba_,bc_,bb_,bf_,bv_,b4_,ac_,b2_,bq_,ed_,bs_,ao_,c4_,a2_,az_,ar_,av_,c1_,dw_,d6_,ea_,d3_,b5_,b1_,fl_,fn_,fh_,fu_,fp_,fz_,fq_,fk_,fr_,f0_,c5_,bt_,bd_,c3_,ct_,cx_,co_,cr_,cz_,cj_,cf_,ch_,an_,dr_,cd_,a9_,a8_,a7_,ce_,cv_,fv_,d1_,Int.toNat_natCast,c7_,c6_,ej_,ei_,f3_,e4_,gd_,e8_,a5_,et_,c8_,di_,dm_,dn_,Nat.reduceAdd,Nat.reduceMul,Int.reduceNeg,Nat.reduceLeDiff,List.length_cons,List.length_nil,true_and,and_true,Nat.zero_add,eq_self,Nat.reduceEqDiff,Int.reduceAdd,Int.reduceSub,Int.reduceMul,not_true_eq_false,not_false_eq_true,Nat.reduceLT,Int.reduceToNat,Int.reduceEq,Int.reduceNe,Int.reduceLT,Int.reduceLE,and_self,false_and,false_implies,true_implies]
        exact hQ
      · rw [if_neg c] at ht
        have step := ih (by omega) ht _ (hG2.dsX n)
        have e : zI (((v + 1 : Nat) : Int) + -1) = zI (v : Int) := by congr 1; omega
        simp (disch := omega) only [cm_,aq_,ay_,ag_,b8_,af_,ba_,bc_,bb_,bf_,bv_,b4_,ac_,b2_,bq_,ed_,bs_,ao_,c4_,a2_,az_,ar_,av_,c1_,dw_,d6_,ea_,d3_,b5_,b1_,fl_,fn_,fh_,fu_,fp_,fz_,fq_,fk_,fr_,f0_,c5_,bt_,bd_,c3_,ct_,cx_,co_,cr_,cz_,cj_,cf_,ch_,an_,dr_,cd_,a9_,a8_,a7_,ce_,cv_,fv_,d1_,Int.toNat_natCast,c7_,c6_,ej_,ei_,f3_,e4_,gd_,e8_,a5_,et_,c8_,di_,dm_,dn_,Nat.reduceAdd,Nat.reduceMul,Int.reduceNeg,Nat.reduceLeDiff,List.length_cons,List.length_nil,true_and,and_true,Nat.zero_add,eq_self,Nat.reduceEqDiff,Int.reduceAdd,Int.reduceSub,Int.reduceMul,not_true_eq_false,not_false_eq_true,Nat.reduceLT,Int.reduceToNat,Int.reduceEq,Int.reduceNe,Int.reduceLT,Int.reduceLE,and_self,false_and,false_implies,true_implies]
        refine w_Co_greatestLoad_45 ?_
        simp (disch := omega) only [cm_,aq_,ay_,ag_,b8_,af_,ba_,bc_,bb_,bf_,bv_,b4_,ac_,b2_,bq_,ed_,bs_,ao_,c4_,a2_,az_,ar_,av_,c1_,dw_,d6_,ea_,d3_,b5_,b1_,fl_,fn_,fh_,fu_,fp_,fz_,fq_,fk_,fr_,f0_,c5_,bt_,bd_,c3_,ct_,cx_,co_,cr_,cz_,cj_,cf_,ch_,an_,dr_,cd_,a9_,a8_,a7_,ce_,cv_,fv_,d1_,Int.toNat_natCast,c7_,c6_,ej_,ei_,f3_,e4_,gd_,e8_,a5_,et_,c8_,di_,dm_,dn_,Nat.reduceAdd,Nat.reduceMul,Int.reduceNeg,Nat.reduceLeDiff,List.length_cons,List.length_nil,true_and,and_true,Nat.zero_add,eq_self,Nat.reduceEqDiff,Int.reduceAdd,Int.reduceSub,Int.reduceMul,not_true_eq_false,not_false_eq_true,Nat.reduceLT,Int.reduceToNat,Int.reduceEq,Int.reduceNe,Int.reduceLT,Int.reduceLE,and_self,false_and,false_implies,true_implies,e]
        exact step
  exact loop 60 (by omega) rfl A hA
theorem con_CwhereToDig {n : Nat} (hn : n ≤ 60) (hA : GR A) (hG : GR (rs 0)) (hQ : ∀ B, GR B → Q (some (.int (zI (dgN g6_ (rs 0) n 12).2))) (HX (upR rs 11 B) pi psz lt lsz tn tsz g1 g2 sd rf im hM)) : Con M_Co_whereToDig [.ref 85, .ref 0, .int (zI n)] (HX (upR rs 11 A) pi psz lt lsz tn tsz g1 g2 sd rf im hM) Q := by
  have gk : ∀ B, GR B → ∀ i, 0 ≤ hd_ (g6_ B i) ∧ hd_ (g6_ B i) ≤ 12 := fun B h i => (h.dsX i).king
  refine g8_ (L := [some (.ref 85), some (.ref 0), some (.int (zI n)), none, none, none]) ok_Co_whereToDig (Nat.le_of_ble_eq_true rfl) rfl ?_
  refine w_Co_whereToDig_0 ?_
  simp (disch := omega) only [cm_,aq_,ay_,ag_,b8_,af_,ba_,bc_,bb_,bf_,bv_,b4_,ac_,b2_,bq_,ed_,bs_,ao_,c4_,a2_,az_,ar_,av_,c1_,dw_,d6_,ea_,d3_,b5_,b1_,fl_,fn_,fh_,fu_,fp_,fz_,fq_,fk_,fr_,f0_,c5_,bt_,bd_,c3_,ct_,cx_,co_,cr_,cz_,cj_,cf_,ch_,an_,dr_,cd_,a9_,a8_,a7_,ce_,cv_,fv_,d1_,Int.toNat_natCast,c7_,c6_,ej_,ei_,f3_,e4_,gd_,e8_,a5_,et_,c8_,di_,dm_,dn_,Nat.reduceAdd,Nat.reduceMul,Int.reduceNeg,Nat.reduceLeDiff,List.length_cons,List.length_nil,true_and,and_true,Nat.zero_add,eq_self,Nat.reduceEqDiff,Int.reduceAdd,Int.reduceSub,Int.reduceMul,not_true_eq_false,not_false_eq_true,Nat.reduceLT,Int.reduceToNat,Int.reduceEq,Int.reduceNe,Int.reduceLT,Int.reduceLE,and_self,false_and,false_implies,true_implies]
  refine conM_become (q := 11) (by omega) ?_
  simp (disch := omega) only [cm_,aq_,ay_,ag_,b8_,af_,ba_,bc_,bb_,bf_,bv_,b4_,ac_,b2_,bq_,ed_,bs_,ao_,c4_,a2_,az_,ar_,av_,c1_,dw_,d6_,ea_,d3_,b5_,b1_,fl_,fn_,fh_,fu_,fp_,fz_,fq_,fk_,fr_,f0_,c5_,bt_,bd_,c3_,ct_,cx_,co_,cr_,cz_,cj_,cf_,ch_,an_,dr_,cd_,a9_,a8_,a7_,ce_,cv_,fv_,d1_,Int.toNat_natCast,c7_,c6_,ej_,ei_,f3_,e4_,gd_,e8_,a5_,et_,c8_,di_,dm_,dn_,Nat.reduceAdd,Nat.reduceMul,Int.reduceNeg,Nat.reduceLeDiff,List.length_cons,List.length_nil,true_and,and_true,Nat.zero_add,eq_self,Nat.reduceEqDiff,Int.reduceAdd,Int.reduceSub,Int.reduceMul,not_true_eq_false,not_false_eq_true,Nat.reduceLT,Int.reduceToNat,Int.reduceEq,Int.reduceNe,Int.reduceLT,Int.reduceLE,and_self,false_and,false_implies,true_implies]
  refine conM_passDays (q := 11) (by omega) (by omega) hG ?_
  simp (disch := omega) only [cm_,aq_,ay_,ag_,b8_,af_,ba_,bc_,bb_,bf_,bv_,b4_,ac_,b2_,bq_,ed_,bs_,ao_,c4_,a2_,az_,ar_,av_,c1_,dw_,d6_,ea_,d3_,b5_,b1_,fl_,fn_,fh_,fu_,fp_,fz_,fq_,fk_,fr_,f0_,c5_,bt_,bd_,c3_,ct_,cx_,co_,cr_,cz_,cj_,cf_,ch_,an_,dr_,cd_,a9_,a8_,a7_,ce_,cv_,fv_,d1_,Int.toNat_natCast,c7_,c6_,ej_,ei_,f3_,e4_,gd_,e8_,a5_,et_,c8_,di_,dm_,dn_,Nat.reduceAdd,Nat.reduceMul,Int.reduceNeg,Nat.reduceLeDiff,List.length_cons,List.length_nil,true_and,and_true,Nat.zero_add,eq_self,Nat.reduceEqDiff,Int.reduceAdd,Int.reduceSub,Int.reduceMul,not_true_eq_false,not_false_eq_true,Nat.reduceLT,Int.reduceToNat,Int.reduceEq,Int.reduceNe,Int.reduceLT,Int.reduceLE,and_self,false_and,false_implies,true_implies]
  have loop : ∀ k i : Nat, i + k = 12 → ∀ B, GR B → J M_Co_whereToDig 32 [some (.ref 85), some (.ref 0), some (.int (zI n)), some (.int (zI (dgN g6_ (rs 0) n i).1)), some (.int (zI (dgN g6_ (rs 0) n i).2)), some (.int (zI i))] [] (HX (upR rs 11 B) pi psz lt lsz tn tsz g1 g2 sd rf im hM) Q := by
    intro k
    induction k with
    | zero =>
      intro i hi B hB
      have e : i = 12 := by omega
      subst e
      refine w_Co_whereToDig_32 ?_
      simp (disch := omega) only [cm_,aq_,ay_,ag_,b8_,af_,ba_,bc_,bb_,bf_,bv_,b4_,ac_,b2_,bq_,ed_,bs_,ao_,c4_,a2_,az_,ar_,av_,c1_,dw_,d6_,ea_,d3_,b5_,b1_,fl_,fn_,fh_,fu_,fp_,fz_,fq_,fk_,fr_,f0_,c5_,bt_,bd_,c3_,ct_,cx_,co_,cr_,cz_,cj_,cf_,ch_,an_,dr_,cd_,a9_,a8_,a7_,ce_,cv_,fv_,d1_,Int.toNat_natCast,c7_,c6_,ej_,ei_,f3_,e4_,gd_,e8_,a5_,et_,c8_,di_,dm_,dn_,Nat.reduceAdd,Nat.reduceMul,Int.reduceNeg,Nat.reduceLeDiff,List.length_cons,List.length_nil,true_and,and_true,Nat.zero_add,eq_self,Nat.reduceEqDiff,Int.reduceAdd,Int.reduceSub,Int.reduceMul,not_true_eq_false,not_false_eq_true,Nat.reduceLT,Int.reduceToNat,Int.reduceEq,Int.reduceNe,Int.reduceLT,Int.reduceLE,and_self,false_and,false_implies,true_implies]
      repeat' (first | with_reducible refine And.intro ?_ ?_ | with_reducible intro _ | ((first | with_reducible refine w_Co_whereToDig_90 ?_ | with_reducible refine w_Co_whereToDig_96 ?_); simp (disch := omega) only [cm_,aq_,ay_,ag_,b8_,af_,ba_,bc_,bb_,bf_,bv_,b4_,ac_,b2_,bq_,ed_,bs_,ao_,c4_,a2_,az_,ar_,av_,c1_,dw_,d6_,ea_,d3_,b5_,b1_,fl_,fn_,fh_,fu_,fp_,fz_,fq_,fk_,fr_,f0_,c5_,bt_,bd_,c3_,ct_,cx_,co_,cr_,cz_,cj_,cf_,ch_,an_,dr_,cd_,a9_,a8_,a7_,ce_,cv_,fv_,d1_,Int.toNat_natCast,c7_,c6_,ej_,ei_,f3_,e4_,gd_,e8_,a5_,et_,c8_,di_,dm_,dn_,Nat.reduceAdd,Nat.reduceMul,Int.reduceNeg,Nat.reduceLeDiff,List.length_cons,List.length_nil,true_and,and_true,Nat.zero_add,eq_self,Nat.reduceEqDiff,Int.reduceAdd,Int.reduceSub,Int.reduceMul,not_true_eq_false,not_false_eq_true,Nat.reduceLT,Int.reduceToNat,Int.reduceEq,Int.reduceNe,Int.reduceLT,Int.reduceLE,and_self,false_and,false_implies,true_implies]))
      all_goals first | omega | exact hQ B hB
    | succ k ih =>
      intro i hi B hB
      have hr : 0 ≤ (dgN g6_ (rs 0) n i).1 ∧ (dgN g6_ (rs 0) n i).1 ≤ 12 := by
        clear ih hi
        induction i with
        | zero => exact gk _ hG n
        | succ j ihj =>
          simp only [dgN]
          split
          · exact gk _ (hG.setSl j (by omega)) n
          · exact ihj
      have step := ih (i + 1) (by omega)
      simp only [dgN] at step
      have hG2 := hG.setSl i (x := 0) (by omega)
      have hk2 := gk _ hG2 n
      refine w_Co_whereToDig_32 ?_
      simp (disch := omega) only [cm_,aq_,ay_,ag_,b8_,af_,ba_,bc_,bb_,bf_,bv_,b4_,ac_,b2_,bq_,ed_,bs_,ao_,c4_,a2_,az_,ar_,av_,c1_,dw_,d6_,ea_,d3_,b5_,b1_,fl_,fn_,fh_,fu_,fp_,fz_,fq_,fk_,fr_,f0_,c5_,bt_,bd_,c3_,ct_,cx_,co_,cr_,cz_,cj_,cf_,ch_,an_,dr_,cd_,a9_,a8_,a7_,ce_,cv_,fv_,d1_,Int.toNat_natCast,c7_,c6_,ej_,ei_,f3_,e4_,gd_,e8_,a5_,et_,c8_,di_,dm_,dn_,Nat.reduceAdd,Nat.reduceMul,Int.reduceNeg,Nat.reduceLeDiff,List.length_cons,List.length_nil,true_and,and_true,Nat.zero_add,eq_self,Nat.reduceEqDiff,Int.reduceAdd,Int.reduceSub,Int.reduceMul,not_true_eq_false,not_false_eq_true,Nat.reduceLT,Int.reduceToNat,Int.reduceEq,Int.reduceNe,Int.reduceLT,Int.reduceLE,and_self,false_and,false_implies,true_implies]
      refine ⟨fun _ => by omega, fun _ => ?_⟩
      refine conM_become (q := 11) (by omega) ?_
      simp (disch := omega) only [cm_,aq_,ay_,ag_,b8_,af_,ba_,bc_,bb_,bf_,bv_,b4_,ac_,b2_,bq_,ed_,bs_,ao_,c4_,a2_,az_,ar_,av_,c1_,dw_,d6_,ea_,d3_,b5_,b1_,fl_,fn_,fh_,fu_,fp_,fz_,fq_,fk_,fr_,f0_,c5_,bt_,bd_,c3_,ct_,cx_,co_,cr_,cz_,cj_,cf_,ch_,an_,dr_,cd_,a9_,a8_,a7_,ce_,cv_,fv_,d1_,Int.toNat_natCast,c7_,c6_,ej_,ei_,f3_,e4_,gd_,e8_,a5_,et_,c8_,di_,dm_,dn_,Nat.reduceAdd,Nat.reduceMul,Int.reduceNeg,Nat.reduceLeDiff,List.length_cons,List.length_nil,true_and,and_true,Nat.zero_add,eq_self,Nat.reduceEqDiff,Int.reduceAdd,Int.reduceSub,Int.reduceMul,not_true_eq_false,not_false_eq_true,Nat.reduceLT,Int.reduceToNat,Int.reduceEq,Int.reduceNe,Int.reduceLT,Int.reduceLE,and_self,false_and,false_implies,true_implies]
      refine conM_levels (q := 11) (by omega) (by unfold inI; omega) (fun _ => ?_) (fun q => absurd (by omega) q)
      simp (disch := omega) only [cm_,aq_,ay_,ag_,b8_,af_,ba_,bc_,bb_,bf_,bv_,b4_,ac_,b2_,bq_,ed_,bs_,ao_,c4_,a2_,az_,ar_,av_,c1_,dw_,d6_,ea_,d3_,b5_,b1_,fl_,fn_,fh_,fu_,fp_,fz_,fq_,fk_,fr_,f0_,c5_,bt_,bd_,c3_,ct_,cx_,co_,cr_,cz_,cj_,cf_,ch_,an_,dr_,cd_,a9_,a8_,a7_,ce_,cv_,fv_,d1_,Int.toNat_natCast,c7_,c6_,ej_,ei_,f3_,e4_,gd_,e8_,a5_,et_,c8_,di_,dm_,dn_,Nat.reduceAdd,Nat.reduceMul,Int.reduceNeg,Nat.reduceLeDiff,List.length_cons,List.length_nil,true_and,and_true,Nat.zero_add,eq_self,Nat.reduceEqDiff,Int.reduceAdd,Int.reduceSub,Int.reduceMul,not_true_eq_false,not_false_eq_true,Nat.reduceLT,Int.reduceToNat,Int.reduceEq,Int.reduceNe,Int.reduceLT,Int.reduceLE,and_self,false_and,false_implies,true_implies]
      refine conM_passDays (q := 11) (by omega) (by omega) hG2 ?_
      simp (disch := omega) only [cm_,aq_,ay_,ag_,b8_,af_,ba_,bc_,bb_,bf_,bv_,b4_,ac_,b2_,bq_,ed_,bs_,ao_,c4_,a2_,az_,ar_,av_,c1_,dw_,d6_,ea_,d3_,b5_,b1_,fl_,fn_,fh_,fu_,fp_,fz_,fq_,fk_,fr_,f0_,c5_,bt_,bd_,c3_,ct_,cx_,co_,cr_,cz_,cj_,cf_,ch_,an_,dr_,cd_,a9_,a8_,a7_,ce_,cv_,fv_,d1_,Int.toNat_natCast,c7_,c6_,ej_,ei_,f3_,e4_,gd_,e8_,a5_,et_,c8_,di_,dm_,dn_,Nat.reduceAdd,Nat.reduceMul,Int.reduceNeg,Nat.reduceLeDiff,List.length_cons,List.length_nil,true_and,and_true,Nat.zero_add,eq_self,Nat.reduceEqDiff,Int.reduceAdd,Int.reduceSub,Int.reduceMul,not_true_eq_false,not_false_eq_true,Nat.reduceLT,Int.reduceToNat,Int.reduceEq,Int.reduceNe,Int.reduceLT,Int.reduceLE,and_self,false_and,false_implies,true_implies]
      refine ⟨fun c3 => ?_, fun c3 => ?_⟩
      · rw [if_neg (by omega)] at step
        refine w_Co_whereToDig_90 ?_
        simp (disch := omega) only [cm_,aq_,ay_,ag_,b8_,af_,ba_,bc_,bb_,bf_,bv_,b4_,ac_,b2_,bq_,ed_,bs_,ao_,c4_,a2_,az_,ar_,av_,c1_,dw_,d6_,ea_,d3_,b5_,b1_,fl_,fn_,fh_,fu_,fp_,fz_,fq_,fk_,fr_,f0_,c5_,bt_,bd_,c3_,ct_,cx_,co_,cr_,cz_,cj_,cf_,ch_,an_,dr_,cd_,a9_,a8_,a7_,ce_,cv_,fv_,d1_,Int.toNat_natCast,c7_,c6_,ej_,ei_,f3_,e4_,gd_,e8_,a5_,et_,c8_,di_,dm_,dn_,Nat.reduceAdd,Nat.reduceMul,Int.reduceNeg,Nat.reduceLeDiff,List.length_cons,List.length_nil,true_and,and_true,Nat.zero_add,eq_self,Nat.reduceEqDiff,Int.reduceAdd,Int.reduceSub,Int.reduceMul,not_true_eq_false,not_false_eq_true,Nat.reduceLT,Int.reduceToNat,Int.reduceEq,Int.reduceNe,Int.reduceLT,Int.reduceLE,and_self,false_and,false_implies,true_implies]
        exact step _ (hG2.dsX n)
      · rw [if_pos (by omega)] at step
        refine w_Co_whereToDig_90 ?_
        simp (disch := omega) only [cm_,aq_,ay_,ag_,b8_,af_,ba_,bc_,bb_,bf_,bv_,b4_,ac_,b2_,bq_,ed_,bs_,ao_,c4_,a2_,az_,ar_,av_,c1_,dw_,d6_,ea_,d3_,b5_,b1_,fl_,fn_,fh_,fu_,fp_,fz_,fq_,fk_,fr_,f0_,c5_,bt_,bd_,c3_,ct_,cx_,co_,cr_,cz_,cj_,cf_,ch_,an_,dr_,cd_,a9_,a8_,a7_,ce_,cv_,fv_,d1_,Int.toNat_natCast,c7_,c6_,ej_,ei_,f3_,e4_,gd_,e8_,a5_,et_,c8_,di_,dm_,dn_,Nat.reduceAdd,Nat.reduceMul,Int.reduceNeg,Nat.reduceLeDiff,List.length_cons,List.length_nil,true_and,and_true,Nat.zero_add,eq_self,Nat.reduceEqDiff,Int.reduceAdd,Int.reduceSub,Int.reduceMul,not_true_eq_false,not_false_eq_true,Nat.reduceLT,Int.reduceToNat,Int.reduceEq,Int.reduceNe,Int.reduceLT,Int.reduceLE,and_self,false_and,false_implies,true_implies]
        exact step _ (hG2.dsX n)
  exact loop 12 0 rfl _ (hG.dsX n)
theorem con_CcheapestToCondemn {n : Nat} {w : Int} (hn : n ≤ 60) (hw : w = 0 ∨ w = 1) (hA : GR A) (hG : GR (rs 0)) (hQ : ∀ B, GR B → Q (some (.int (zI (if w = 0 then (kpN g6_ (rs 0) n 8).2 else (kpN g6_ (rs 0) n 8).1)))) (HX (upR rs 11 B) pi psz lt lsz tn tsz g1 g2 sd rf im hM)) : Con M_Co_cheapestToCondemn [.ref 85, .ref 0, .int (zI n), .int (zI w)] (HX (upR rs 11 A) pi psz lt lsz tn tsz g1 g2 sd rf im hM) Q := by
  have gm := hG.men
  have gn := hG.nM
  have gk : ∀ B, GR B → ∀ i, 0 ≤ hd_ (g6_ B i) ∧ hd_ (g6_ B i) ≤ 12 := fun B h i => (h.dsX i).king
  refine g8_ (L := [some (.ref 85), some (.ref 0), some (.int (zI n)), some (.int (zI w)), none, none, none]) ok_Co_cheapestToCondemn (Nat.le_of_ble_eq_true rfl) rfl ?_
  refine w_Co_cheapestToCondemn_0 ?_
  simp (disch := omega) only [cm_,aq_,ay_,ag_,b8_,af_,ba_,bc_,bb_,bf_,bv_,b4_,ac_,b2_,bq_,ed_,bs_,ao_,c4_,a2_,az_,ar_,av_,c1_,dw_,d6_,ea_,d3_,b5_,b1_,fl_,fn_,fh_,fu_,fp_,fz_,fq_,fk_,fr_,f0_,c5_,bt_,bd_,c3_,ct_,cx_,co_,cr_,cz_,cj_,cf_,ch_,an_,dr_,cd_,a9_,a8_,a7_,ce_,cv_,fv_,d1_,Int.toNat_natCast,c7_,c6_,ej_,ei_,f3_,e4_,gd_,e8_,a5_,et_,c8_,di_,dm_,dn_,Nat.reduceAdd,Nat.reduceMul,Int.reduceNeg,Nat.reduceLeDiff,List.length_cons,List.length_nil,true_and,and_true,Nat.zero_add,eq_self,Nat.reduceEqDiff,Int.reduceAdd,Int.reduceSub,Int.reduceMul,not_true_eq_false,not_false_eq_true,Nat.reduceLT,Int.reduceToNat,Int.reduceEq,Int.reduceNe,Int.reduceLT,Int.reduceLE,and_self,false_and,false_implies,true_implies]
  have loop : ∀ k i : Nat, i + k = 8 → ∀ B, GR B → J M_Co_cheapestToCondemn 11 [some (.ref 85), some (.ref 0), some (.int (zI n)), some (.int (zI w)), some (.int (zI (kpN g6_ (rs 0) n i).1)), some (.int (zI (kpN g6_ (rs 0) n i).2)), some (.int (zI i))] [] (HX (upR rs 11 B) pi psz lt lsz tn tsz g1 g2 sd rf im hM) Q := by
    intro k
    induction k with
    | zero =>
      intro i hi B hB
      have e : i = 8 := by omega
      subst e
      have hQ := hQ B hB
      refine w_Co_cheapestToCondemn_11 ?_
      simp (disch := omega) only [cm_,aq_,ay_,ag_,b8_,af_,ba_,bc_,bb_,bf_,bv_,b4_,ac_,b2_,bq_,ed_,bs_,ao_,c4_,a2_,az_,ar_,av_,c1_,dw_,d6_,ea_,d3_,b5_,b1_,fl_,fn_,fh_,fu_,fp_,fz_,fq_,fk_,fr_,f0_,c5_,bt_,bd_,c3_,ct_,cx_,co_,cr_,cz_,cj_,cf_,ch_,an_,dr_,cd_,a9_,a8_,a7_,ce_,cv_,fv_,d1_,Int.toNat_natCast,c7_,c6_,ej_,ei_,f3_,e4_,gd_,e8_,a5_,et_,c8_,di_,dm_,dn_,Nat.reduceAdd,Nat.reduceMul,Int.reduceNeg,Nat.reduceLeDiff,List.length_cons,List.length_nil,true_and,and_true,Nat.zero_add,eq_self,Nat.reduceEqDiff,Int.reduceAdd,Int.reduceSub,Int.reduceMul,not_true_eq_false,not_false_eq_true,Nat.reduceLT,Int.reduceToNat,Int.reduceEq,Int.reduceNe,Int.reduceLT,Int.reduceLE,and_self,false_and,false_implies,true_implies]
      repeat' (first | with_reducible refine And.intro ?_ ?_ | with_reducible intro _ | ((first | with_reducible refine w_Co_cheapestToCondemn_80 ?_ | with_reducible refine w_Co_cheapestToCondemn_86 ?_ | with_reducible refine w_Co_cheapestToCondemn_95 ?_ | with_reducible refine w_Co_cheapestToCondemn_97 ?_); simp (disch := omega) only [cm_,aq_,ay_,ag_,b8_,af_,ba_,bc_,bb_,bf_,bv_,b4_,ac_,b2_,bq_,ed_,bs_,ao_,c4_,a2_,az_,ar_,av_,c1_,dw_,d6_,ea_,d3_,b5_,b1_,fl_,fn_,fh_,fu_,fp_,fz_,fq_,fk_,fr_,f0_,c5_,bt_,bd_,c3_,ct_,cx_,co_,cr_,cz_,cj_,cf_,ch_,an_,dr_,cd_,a9_,a8_,a7_,ce_,cv_,fv_,d1_,Int.toNat_natCast,c7_,c6_,ej_,ei_,f3_,e4_,gd_,e8_,a5_,et_,c8_,di_,dm_,dn_,Nat.reduceAdd,Nat.reduceMul,Int.reduceNeg,Nat.reduceLeDiff,List.length_cons,List.length_nil,true_and,and_true,Nat.zero_add,eq_self,Nat.reduceEqDiff,Int.reduceAdd,Int.reduceSub,Int.reduceMul,not_true_eq_false,not_false_eq_true,Nat.reduceLT,Int.reduceToNat,Int.reduceEq,Int.reduceNe,Int.reduceLT,Int.reduceLE,and_self,false_and,false_implies,true_implies]))
      all_goals first | omega | (rw [if_neg (by omega)] at hQ; exact hQ) | (rw [if_pos (by omega)] at hQ; exact hQ)
    | succ k ih =>
      intro i hi B hB
      have hf := hG.fa i
      have hr : -9 ≤ (kpN g6_ (rs 0) n i).1 ∧ (kpN g6_ (rs 0) n i).1 ≤ 12 := by
        clear ih hi hf
        induction i with
        | zero => simp [kpN]
        | succ j ihj =>
          simp only [kpN]
          split
          · have := gk _ (hG.setFa j (x := 0) (by omega)) n
            omega
          · exact ihj
      have step := ih (i + 1) (by omega)
      simp only [kpN] at step
      refine w_Co_cheapestToCondemn_11 ?_
      simp (disch := omega) only [cm_,aq_,ay_,ag_,b8_,af_,ba_,bc_,bb_,bf_,bv_,b4_,ac_,b2_,bq_,ed_,bs_,ao_,c4_,a2_,az_,ar_,av_,c1_,dw_,d6_,ea_,d3_,b5_,b1_,fl_,fn_,fh_,fu_,fp_,fz_,fq_,fk_,fr_,f0_,c5_,bt_,bd_,c3_,ct_,cx_,co_,cr_,cz_,cj_,cf_,ch_,an_,dr_,cd_,a9_,a8_,a7_,ce_,cv_,fv_,d1_,Int.toNat_natCast,c7_,c6_,ej_,ei_,f3_,e4_,gd_,e8_,a5_,et_,c8_,di_,dm_,dn_,Nat.reduceAdd,Nat.reduceMul,Int.reduceNeg,Nat.reduceLeDiff,List.length_cons,List.length_nil,true_and,and_true,Nat.zero_add,eq_self,Nat.reduceEqDiff,Int.reduceAdd,Int.reduceSub,Int.reduceMul,not_true_eq_false,not_false_eq_true,Nat.reduceLT,Int.reduceToNat,Int.reduceEq,Int.reduceNe,Int.reduceLT,Int.reduceLE,and_self,false_and,false_implies,true_implies]
      refine ⟨fun _ => by omega, fun _ => ?_⟩
      refine conMN_fateOf (q := 11) (by omega) (by unfold inI; omega) hG (fun c1 => ?_) (fun c1 => ?_)
      · simp (disch := omega) only [cm_,aq_,ay_,ag_,b8_,af_,ba_,bc_,bb_,bf_,bv_,b4_,ac_,b2_,bq_,ed_,bs_,ao_,c4_,a2_,az_,ar_,av_,c1_,dw_,d6_,ea_,d3_,b5_,b1_,fl_,fn_,fh_,fu_,fp_,fz_,fq_,fk_,fr_,f0_,c5_,bt_,bd_,c3_,ct_,cx_,co_,cr_,cz_,cj_,cf_,ch_,an_,dr_,cd_,a9_,a8_,a7_,ce_,cv_,fv_,d1_,Int.toNat_natCast,c7_,c6_,ej_,ei_,f3_,e4_,gd_,e8_,a5_,et_,c8_,di_,dm_,dn_,Nat.reduceAdd,Nat.reduceMul,Int.reduceNeg,Nat.reduceLeDiff,List.length_cons,List.length_nil,true_and,and_true,Nat.zero_add,eq_self,Nat.reduceEqDiff,Int.reduceAdd,Int.reduceSub,Int.reduceMul,not_true_eq_false,not_false_eq_true,Nat.reduceLT,Int.reduceToNat,Int.reduceEq,Int.reduceNe,Int.reduceLT,Int.reduceLE,and_self,false_and,false_implies,true_implies]
        refine ⟨fun c2 => ?_, fun c2 => ?_⟩
        · rw [if_neg (fun q => c2 q.1.2)] at step
          refine w_Co_cheapestToCondemn_80 ?_
          simp (disch := omega) only [cm_,aq_,ay_,ag_,b8_,af_,ba_,bc_,bb_,bf_,bv_,b4_,ac_,b2_,bq_,ed_,bs_,ao_,c4_,a2_,az_,ar_,av_,c1_,dw_,d6_,ea_,d3_,b5_,b1_,fl_,fn_,fh_,fu_,fp_,fz_,fq_,fk_,fr_,f0_,c5_,bt_,bd_,c3_,ct_,cx_,co_,cr_,cz_,cj_,cf_,ch_,an_,dr_,cd_,a9_,a8_,a7_,ce_,cv_,fv_,d1_,Int.toNat_natCast,c7_,c6_,ej_,ei_,f3_,e4_,gd_,e8_,a5_,et_,c8_,di_,dm_,dn_,Nat.reduceAdd,Nat.reduceMul,Int.reduceNeg,Nat.reduceLeDiff,List.length_cons,List.length_nil,true_and,and_true,Nat.zero_add,eq_self,Nat.reduceEqDiff,Int.reduceAdd,Int.reduceSub,Int.reduceMul,not_true_eq_false,not_false_eq_true,Nat.reduceLT,Int.reduceToNat,Int.reduceEq,Int.reduceNe,Int.reduceLT,Int.reduceLE,and_self,false_and,false_implies,true_implies]
          exact step B hB
        · have hc : i < hb_ (rs 0) ∧ rFa (rs 0) i = 1 := ⟨by omega, by omega⟩
          have hG2 := hG.setFa i (x := 0) (by omega)
          have hk2 := gk _ hG2 n
          refine conM_become (q := 11) (by omega) ?_
          simp (disch := omega) only [cm_,aq_,ay_,ag_,b8_,af_,ba_,bc_,bb_,bf_,bv_,b4_,ac_,b2_,bq_,ed_,bs_,ao_,c4_,a2_,az_,ar_,av_,c1_,dw_,d6_,ea_,d3_,b5_,b1_,fl_,fn_,fh_,fu_,fp_,fz_,fq_,fk_,fr_,f0_,c5_,bt_,bd_,c3_,ct_,cx_,co_,cr_,cz_,cj_,cf_,ch_,an_,dr_,cd_,a9_,a8_,a7_,ce_,cv_,fv_,d1_,Int.toNat_natCast,c7_,c6_,ej_,ei_,f3_,e4_,gd_,e8_,a5_,et_,c8_,di_,dm_,dn_,Nat.reduceAdd,Nat.reduceMul,Int.reduceNeg,Nat.reduceLeDiff,List.length_cons,List.length_nil,true_and,and_true,Nat.zero_add,eq_self,Nat.reduceEqDiff,Int.reduceAdd,Int.reduceSub,Int.reduceMul,not_true_eq_false,not_false_eq_true,Nat.reduceLT,Int.reduceToNat,Int.reduceEq,Int.reduceNe,Int.reduceLT,Int.reduceLE,and_self,false_and,false_implies,true_implies]
          refine conM_makeFate (q := 11) (by omega) (by unfold inI; omega) hG (fun _ => ?_) (fun q => absurd c1 q)
          simp (disch := omega) only [cm_,aq_,ay_,ag_,b8_,af_,ba_,bc_,bb_,bf_,bv_,b4_,ac_,b2_,bq_,ed_,bs_,ao_,c4_,a2_,az_,ar_,av_,c1_,dw_,d6_,ea_,d3_,b5_,b1_,fl_,fn_,fh_,fu_,fp_,fz_,fq_,fk_,fr_,f0_,c5_,bt_,bd_,c3_,ct_,cx_,co_,cr_,cz_,cj_,cf_,ch_,an_,dr_,cd_,a9_,a8_,a7_,ce_,cv_,fv_,d1_,Int.toNat_natCast,c7_,c6_,ej_,ei_,f3_,e4_,gd_,e8_,a5_,et_,c8_,di_,dm_,dn_,Nat.reduceAdd,Nat.reduceMul,Int.reduceNeg,Nat.reduceLeDiff,List.length_cons,List.length_nil,true_and,and_true,Nat.zero_add,eq_self,Nat.reduceEqDiff,Int.reduceAdd,Int.reduceSub,Int.reduceMul,not_true_eq_false,not_false_eq_true,Nat.reduceLT,Int.reduceToNat,Int.reduceEq,Int.reduceNe,Int.reduceLT,Int.reduceLE,and_self,false_and,false_implies,true_implies]
          refine conM_passDays (q := 11) (by omega) (by omega) hG2 ?_
          simp (disch := omega) only [cm_,aq_,ay_,ag_,b8_,af_,ba_,bc_,bb_,bf_,bv_,b4_,ac_,b2_,bq_,ed_,bs_,ao_,c4_,a2_,az_,ar_,av_,c1_,dw_,d6_,ea_,d3_,b5_,b1_,fl_,fn_,fh_,fu_,fp_,fz_,fq_,fk_,fr_,f0_,c5_,bt_,bd_,c3_,ct_,cx_,co_,cr_,cz_,cj_,cf_,ch_,an_,dr_,cd_,a9_,a8_,a7_,ce_,cv_,fv_,d1_,Int.toNat_natCast,c7_,c6_,ej_,ei_,f3_,e4_,gd_,e8_,a5_,et_,c8_,di_,dm_,dn_,Nat.reduceAdd,Nat.reduceMul,Int.reduceNeg,Nat.reduceLeDiff,List.length_cons,List.length_nil,true_and,and_true,Nat.zero_add,eq_self,Nat.reduceEqDiff,Int.reduceAdd,Int.reduceSub,Int.reduceMul,not_true_eq_false,not_false_eq_true,Nat.reduceLT,Int.reduceToNat,Int.reduceEq,Int.reduceNe,Int.reduceLT,Int.reduceLE,and_self,false_and,false_implies,true_implies]
          refine ⟨fun c3 => ?_, fun c3 => ?_⟩
          · rw [if_neg (by omega)] at step
            refine w_Co_cheapestToCondemn_80 ?_
            simp (disch := omega) only [cm_,aq_,ay_,ag_,b8_,af_,ba_,bc_,bb_,bf_,bv_,b4_,ac_,b2_,bq_,ed_,bs_,ao_,c4_,a2_,az_,ar_,av_,c1_,dw_,d6_,ea_,d3_,b5_,b1_,fl_,fn_,fh_,fu_,fp_,fz_,fq_,fk_,fr_,f0_,c5_,bt_,bd_,c3_,ct_,cx_,co_,cr_,cz_,cj_,cf_,ch_,an_,dr_,cd_,a9_,a8_,a7_,ce_,cv_,fv_,d1_,Int.toNat_natCast,c7_,c6_,ej_,ei_,f3_,e4_,gd_,e8_,a5_,et_,c8_,di_,dm_,dn_,Nat.reduceAdd,Nat.reduceMul,Int.reduceNeg,Nat.reduceLeDiff,List.length_cons,List.length_nil,true_and,and_true,Nat.zero_add,eq_self,Nat.reduceEqDiff,Int.reduceAdd,Int.reduceSub,Int.reduceMul,not_true_eq_false,not_false_eq_true,Nat.reduceLT,Int.reduceToNat,Int.reduceEq,Int.reduceNe,Int.reduceLT,Int.reduceLE,and_self,false_and,false_implies,true_implies]
            exact step _ (hG2.dsX n)
          · rw [if_pos ⟨hc, by omega⟩] at step
            refine w_Co_cheapestToCondemn_80 ?_
            simp (disch := omega) only [cm_,aq_,ay_,ag_,b8_,af_,ba_,bc_,bb_,bf_,bv_,b4_,ac_,b2_,bq_,ed_,bs_,ao_,c4_,a2_,az_,ar_,av_,c1_,dw_,d6_,ea_,d3_,b5_,b1_,fl_,fn_,fh_,fu_,fp_,fz_,fq_,fk_,fr_,f0_,c5_,bt_,bd_,c3_,ct_,cx_,co_,cr_,cz_,cj_,cf_,ch_,an_,dr_,cd_,a9_,a8_,a7_,ce_,cv_,fv_,d1_,Int.toNat_natCast,c7_,c6_,ej_,ei_,f3_,e4_,gd_,e8_,a5_,et_,c8_,di_,dm_,dn_,Nat.reduceAdd,Nat.reduceMul,Int.reduceNeg,Nat.reduceLeDiff,List.length_cons,List.length_nil,true_and,and_true,Nat.zero_add,eq_self,Nat.reduceEqDiff,Int.reduceAdd,Int.reduceSub,Int.reduceMul,not_true_eq_false,not_false_eq_true,Nat.reduceLT,Int.reduceToNat,Int.reduceEq,Int.reduceNe,Int.reduceLT,Int.reduceLE,and_self,false_and,false_implies,true_implies]
            exact step _ (hG2.dsX n)
      · rw [if_neg (fun q => c1 ⟨by omega, by omega⟩)] at step
        simp (disch := omega) only [cm_,aq_,ay_,ag_,b8_,af_,ba_,bc_,bb_,bf_,bv_,b4_,ac_,b2_,bq_,ed_,bs_,ao_,c4_,a2_,az_,ar_,av_,c1_,dw_,d6_,ea_,d3_,b5_,b1_,fl_,fn_,fh_,fu_,fp_,fz_,fq_,fk_,fr_,f0_,c5_,bt_,bd_,c3_,ct_,cx_,co_,cr_,cz_,cj_,cf_,ch_,an_,dr_,cd_,a9_,a8_,a7_,ce_,cv_,fv_,d1_,Int.toNat_natCast,c7_,c6_,ej_,ei_,f3_,e4_,gd_,e8_,a5_,et_,c8_,di_,dm_,dn_,Nat.reduceAdd,Nat.reduceMul,Int.reduceNeg,Nat.reduceLeDiff,List.length_cons,List.length_nil,true_and,and_true,Nat.zero_add,eq_self,Nat.reduceEqDiff,Int.reduceAdd,Int.reduceSub,Int.reduceMul,not_true_eq_false,not_false_eq_true,Nat.reduceLT,Int.reduceToNat,Int.reduceEq,Int.reduceNe,Int.reduceLT,Int.reduceLE,and_self,false_and,false_implies,true_implies]
        refine w_Co_cheapestToCondemn_80 ?_
        simp (disch := omega) only [cm_,aq_,ay_,ag_,b8_,af_,ba_,bc_,bb_,bf_,bv_,b4_,ac_,b2_,bq_,ed_,bs_,ao_,c4_,a2_,az_,ar_,av_,c1_,dw_,d6_,ea_,d3_,b5_,b1_,fl_,fn_,fh_,fu_,fp_,fz_,fq_,fk_,fr_,f0_,c5_,bt_,bd_,c3_,ct_,cx_,co_,cr_,cz_,cj_,cf_,ch_,an_,dr_,cd_,a9_,a8_,a7_,ce_,cv_,fv_,d1_,Int.toNat_natCast,c7_,c6_,ej_,ei_,f3_,e4_,gd_,e8_,a5_,et_,c8_,di_,dm_,dn_,Nat.reduceAdd,Nat.reduceMul,Int.reduceNeg,Nat.reduceLeDiff,List.length_cons,List.length_nil,true_and,and_true,Nat.zero_add,eq_self,Nat.reduceEqDiff,Int.reduceAdd,Int.reduceSub,Int.reduceMul,not_true_eq_false,not_false_eq_true,Nat.reduceLT,Int.reduceToNat,Int.reduceEq,Int.reduceNe,Int.reduceLT,Int.reduceLE,and_self,false_and,false_implies,true_implies]
        exact step B hB
  exact loop 8 0 rfl A hA
theorem con_CgainWithoutSnow {n : Nat} (hn : n ≤ 60) (hA : GR A) (hG : GR (rs 0)) (hQ : ∀ B, GR B → Q (some (.int (zI (hd_ (g6_ (sSnow (rs 0) 0) n) - hd_ (g6_ (rs 0) n))))) (HX (upR rs 11 B) pi psz lt lsz tn tsz g1 g2 sd rf im hM)) : Con M_Co_gainWithoutSnow [.ref 85, .ref 0, .int (zI n)] (HX (upR rs 11 A) pi psz lt lsz tn tsz g1 g2 sd rf im hM) Q := by
  have hG2 : GR (sSnow (rs 0) 0) := hG.setSnow (by omega)
  refine g8_ (L := [some (.ref 85), some (.ref 0), some (.int (zI n)), none]) ok_Co_gainWithoutSnow (Nat.le_of_ble_eq_true rfl) rfl ?_
  refine w_Co_gainWithoutSnow_0 ?_
  simp (disch := omega) only [cm_,aq_,ay_,ag_,b8_,af_,ba_,bc_,bb_,bf_,bv_,b4_,ac_,b2_,bq_,ed_,bs_,ao_,c4_,a2_,az_,ar_,av_,c1_,dw_,d6_,ea_,d3_,b5_,b1_,fl_,fn_,fh_,fu_,fp_,fz_,fq_,fk_,fr_,f0_,c5_,bt_,bd_,c3_,ct_,cx_,co_,cr_,cz_,cj_,cf_,ch_,an_,dr_,cd_,a9_,a8_,a7_,ce_,cv_,fv_,d1_,Int.toNat_natCast,c7_,c6_,ej_,ei_,f3_,e4_,gd_,e8_,a5_,et_,c8_,di_,dm_,dn_,Nat.reduceAdd,Nat.reduceMul,Int.reduceNeg,Nat.reduceLeDiff,List.length_cons,List.length_nil,true_and,and_true,Nat.zero_add,eq_self,Nat.reduceEqDiff,Int.reduceAdd,Int.reduceSub,Int.reduceMul,not_true_eq_false,not_false_eq_true,Nat.reduceLT,Int.reduceToNat,Int.reduceEq,Int.reduceNe,Int.reduceLT,Int.reduceLE,and_self,false_and,false_implies,true_implies]
  refine conM_become (q := 11) (by omega) ?_
  simp (disch := omega) only [cm_,aq_,ay_,ag_,b8_,af_,ba_,bc_,bb_,bf_,bv_,b4_,ac_,b2_,bq_,ed_,bs_,ao_,c4_,a2_,az_,ar_,av_,c1_,dw_,d6_,ea_,d3_,b5_,b1_,fl_,fn_,fh_,fu_,fp_,fz_,fq_,fk_,fr_,f0_,c5_,bt_,bd_,c3_,ct_,cx_,co_,cr_,cz_,cj_,cf_,ch_,an_,dr_,cd_,a9_,a8_,a7_,ce_,cv_,fv_,d1_,Int.toNat_natCast,c7_,c6_,ej_,ei_,f3_,e4_,gd_,e8_,a5_,et_,c8_,di_,dm_,dn_,Nat.reduceAdd,Nat.reduceMul,Int.reduceNeg,Nat.reduceLeDiff,List.length_cons,List.length_nil,true_and,and_true,Nat.zero_add,eq_self,Nat.reduceEqDiff,Int.reduceAdd,Int.reduceSub,Int.reduceMul,not_true_eq_false,not_false_eq_true,Nat.reduceLT,Int.reduceToNat,Int.reduceEq,Int.reduceNe,Int.reduceLT,Int.reduceLE,and_self,false_and,false_implies,true_implies]
  refine conM_passDays (q := 11) (by omega) (by omega) hG ?_
  simp (disch := omega) only [cm_,aq_,ay_,ag_,b8_,af_,ba_,bc_,bb_,bf_,bv_,b4_,ac_,b2_,bq_,ed_,bs_,ao_,c4_,a2_,az_,ar_,av_,c1_,dw_,d6_,ea_,d3_,b5_,b1_,fl_,fn_,fh_,fu_,fp_,fz_,fq_,fk_,fr_,f0_,c5_,bt_,bd_,c3_,ct_,cx_,co_,cr_,cz_,cj_,cf_,ch_,an_,dr_,cd_,a9_,a8_,a7_,ce_,cv_,fv_,d1_,Int.toNat_natCast,c7_,c6_,ej_,ei_,f3_,e4_,gd_,e8_,a5_,et_,c8_,di_,dm_,dn_,Nat.reduceAdd,Nat.reduceMul,Int.reduceNeg,Nat.reduceLeDiff,List.length_cons,List.length_nil,true_and,and_true,Nat.zero_add,eq_self,Nat.reduceEqDiff,Int.reduceAdd,Int.reduceSub,Int.reduceMul,not_true_eq_false,not_false_eq_true,Nat.reduceLT,Int.reduceToNat,Int.reduceEq,Int.reduceNe,Int.reduceLT,Int.reduceLE,and_self,false_and,false_implies,true_implies]
  refine conM_become (q := 11) (by omega) ?_
  simp (disch := omega) only [cm_,aq_,ay_,ag_,b8_,af_,ba_,bc_,bb_,bf_,bv_,b4_,ac_,b2_,bq_,ed_,bs_,ao_,c4_,a2_,az_,ar_,av_,c1_,dw_,d6_,ea_,d3_,b5_,b1_,fl_,fn_,fh_,fu_,fp_,fz_,fq_,fk_,fr_,f0_,c5_,bt_,bd_,c3_,ct_,cx_,co_,cr_,cz_,cj_,cf_,ch_,an_,dr_,cd_,a9_,a8_,a7_,ce_,cv_,fv_,d1_,Int.toNat_natCast,c7_,c6_,ej_,ei_,f3_,e4_,gd_,e8_,a5_,et_,c8_,di_,dm_,dn_,Nat.reduceAdd,Nat.reduceMul,Int.reduceNeg,Nat.reduceLeDiff,List.length_cons,List.length_nil,true_and,and_true,Nat.zero_add,eq_self,Nat.reduceEqDiff,Int.reduceAdd,Int.reduceSub,Int.reduceMul,not_true_eq_false,not_false_eq_true,Nat.reduceLT,Int.reduceToNat,Int.reduceEq,Int.reduceNe,Int.reduceLT,Int.reduceLE,and_self,false_and,false_implies,true_implies]
  refine conM_passDays (q := 11) (by omega) (by omega) hG2 ?_
  simp (disch := omega) only [cm_,aq_,ay_,ag_,b8_,af_,ba_,bc_,bb_,bf_,bv_,b4_,ac_,b2_,bq_,ed_,bs_,ao_,c4_,a2_,az_,ar_,av_,c1_,dw_,d6_,ea_,d3_,b5_,b1_,fl_,fn_,fh_,fu_,fp_,fz_,fq_,fk_,fr_,f0_,c5_,bt_,bd_,c3_,ct_,cx_,co_,cr_,cz_,cj_,cf_,ch_,an_,dr_,cd_,a9_,a8_,a7_,ce_,cv_,fv_,d1_,Int.toNat_natCast,c7_,c6_,ej_,ei_,f3_,e4_,gd_,e8_,a5_,et_,c8_,di_,dm_,dn_,Nat.reduceAdd,Nat.reduceMul,Int.reduceNeg,Nat.reduceLeDiff,List.length_cons,List.length_nil,true_and,and_true,Nat.zero_add,eq_self,Nat.reduceEqDiff,Int.reduceAdd,Int.reduceSub,Int.reduceMul,not_true_eq_false,not_false_eq_true,Nat.reduceLT,Int.reduceToNat,Int.reduceEq,Int.reduceNe,Int.reduceLT,Int.reduceLE,and_self,false_and,false_implies,true_implies]
  exact hQ _ (hG2.dsX n)
theorem dayX_home {R : RR} (h : hd_ R = 12) : hd_ (dayX R) = 12 := by
  simp only [dayX]
  rw [if_pos h]
  exact h
theorem daysX_home {R : RR} {d : Nat} (h : hd_ (g6_ R d) = 12) (e : Nat) : hd_ (g6_ R (d + e)) = 12 := by
  induction e with
  | zero => exact h
  | succ e ih => exact dayX_home ih
theorem lmN_rng (w : Nat → Bool) (d : Nat) : 0 ≤ (lmN w d).2 ∧ (lmN w d).2 ≤ d ∧ 0 ≤ (lmN w d).1 ∧ (lmN w d).1 ≤ d := by
  induction d with
  | zero => simp [lmN]
  | succ d ih =>
    simp only [lmN]
    split <;> omega
theorem lmN_end {w : Nat → Bool} {d : Nat} (h : ∀ e, w (d + e) = false) (e : Nat) : (lmN w (d + e)).1 = (lmN w d).1 := by
  induction e with
  | zero => rfl
  | succ e ih =>
    have h1 := lmN_rng w (d + e)
    have h2 : (lmN w (d + (e + 1))).1 = max (lmN w (d + e)).1 (if w (d + e) = true then (lmN w (d + e)).2 + 1 else 0) := rfl
    rw [h2, h e, if_neg (by decide)]
    omega
theorem con_ClongestWait (hA : GR A) (hG : GR (rs 0)) (hQ : ∀ B, GR B → Q (some (.int (zI (lmN (fun d => waitX (g6_ (rs 0) d)) 60).1))) (HX (upR rs 11 B) pi psz lt lsz tn tsz g1 g2 sd rf im hM)) : Con M_Co_longestWait [.ref 85, .ref 0] (HX (upR rs 11 A) pi psz lt lsz tn tsz g1 g2 sd rf im hM) Q := by
  refine g8_ (L := [some (.ref 85), some (.ref 0), none, none, none]) ok_Co_longestWait (Nat.le_of_ble_eq_true rfl) rfl ?_
  refine w_Co_longestWait_0 ?_
  simp (disch := omega) only [cm_,aq_,ay_,ag_,b8_,af_,ba_,bc_,bb_,bf_,bv_,b4_,ac_,b2_,bq_,ed_,bs_,ao_,c4_,a2_,az_,ar_,av_,c1_,dw_,d6_,ea_,d3_,b5_,b1_,fl_,fn_,fh_,fu_,fp_,fz_,fq_,fk_,fr_,f0_,c5_,bt_,bd_,c3_,ct_,cx_,co_,cr_,cz_,cj_,cf_,ch_,an_,dr_,cd_,a9_,a8_,a7_,ce_,cv_,fv_,d1_,Int.toNat_natCast,c7_,c6_,ej_,ei_,f3_,e4_,gd_,e8_,a5_,et_,c8_,di_,dm_,dn_,Nat.reduceAdd,Nat.reduceMul,Int.reduceNeg,Nat.reduceLeDiff,List.length_cons,List.length_nil,true_and,and_true,Nat.zero_add,eq_self,Nat.reduceEqDiff,Int.reduceAdd,Int.reduceSub,Int.reduceMul,not_true_eq_false,not_false_eq_true,Nat.reduceLT,Int.reduceToNat,Int.reduceEq,Int.reduceNe,Int.reduceLT,Int.reduceLE,and_self,false_and,false_implies,true_implies]
  refine conM_become (q := 11) (by omega) ?_
  simp (disch := omega) only [cm_,aq_,ay_,ag_,b8_,af_,ba_,bc_,bb_,bf_,bv_,b4_,ac_,b2_,bq_,ed_,bs_,ao_,c4_,a2_,az_,ar_,av_,c1_,dw_,d6_,ea_,d3_,b5_,b1_,fl_,fn_,fh_,fu_,fp_,fz_,fq_,fk_,fr_,f0_,c5_,bt_,bd_,c3_,ct_,cx_,co_,cr_,cz_,cj_,cf_,ch_,an_,dr_,cd_,a9_,a8_,a7_,ce_,cv_,fv_,d1_,Int.toNat_natCast,c7_,c6_,ej_,ei_,f3_,e4_,gd_,e8_,a5_,et_,c8_,di_,dm_,dn_,Nat.reduceAdd,Nat.reduceMul,Int.reduceNeg,Nat.reduceLeDiff,List.length_cons,List.length_nil,true_and,and_true,Nat.zero_add,eq_self,Nat.reduceEqDiff,Int.reduceAdd,Int.reduceSub,Int.reduceMul,not_true_eq_false,not_false_eq_true,Nat.reduceLT,Int.reduceToNat,Int.reduceEq,Int.reduceNe,Int.reduceLT,Int.reduceLE,and_self,false_and,false_implies,true_implies]
  have loop : ∀ n i : Nat, i + n = 60 → J M_Co_longestWait 15 [some (.ref 85), some (.ref 0), some (.int (zI (lmN (fun d => waitX (g6_ (rs 0) d)) i).1)), some (.int (zI (lmN (fun d => waitX (g6_ (rs 0) d)) i).2)), some (.int (zI i))] [] (HX (upR rs 11 (g6_ (rs 0) i)) pi psz lt lsz tn tsz g1 g2 sd rf im hM) Q := by
    intro n
    induction n with
    | zero =>
      intro i hi
      have e : i = 60 := by omega
      subst e
      refine w_Co_longestWait_15 ?_
      simp (disch := omega) only [cm_,aq_,ay_,ag_,b8_,af_,ba_,bc_,bb_,bf_,bv_,b4_,ac_,b2_,bq_,ed_,bs_,ao_,c4_,a2_,az_,ar_,av_,c1_,dw_,d6_,ea_,d3_,b5_,b1_,fl_,fn_,fh_,fu_,fp_,fz_,fq_,fk_,fr_,f0_,c5_,bt_,bd_,c3_,ct_,cx_,co_,cr_,cz_,cj_,cf_,ch_,an_,dr_,cd_,a9_,a8_,a7_,ce_,cv_,fv_,d1_,Int.toNat_natCast,c7_,c6_,ej_,ei_,f3_,e4_,gd_,e8_,a5_,et_,c8_,di_,dm_,dn_,Nat.reduceAdd,Nat.reduceMul,Int.reduceNeg,Nat.reduceLeDiff,List.length_cons,List.length_nil,true_and,and_true,Nat.zero_add,eq_self,Nat.reduceEqDiff,Int.reduceAdd,Int.reduceSub,Int.reduceMul,not_true_eq_false,not_false_eq_true,Nat.reduceLT,Int.reduceToNat,Int.reduceEq,Int.reduceNe,Int.reduceLT,Int.reduceLE,and_self,false_and,false_implies,true_implies]
      repeat' (first | with_reducible refine And.intro ?_ ?_ | with_reducible intro _ | ((first | with_reducible refine w_Co_longestWait_48 ?_ | with_reducible refine w_Co_longestWait_49 ?_ | with_reducible refine w_Co_longestWait_62 ?_); simp (disch := omega) only [cm_,aq_,ay_,ag_,b8_,af_,ba_,bc_,bb_,bf_,bv_,b4_,ac_,b2_,bq_,ed_,bs_,ao_,c4_,a2_,az_,ar_,av_,c1_,dw_,d6_,ea_,d3_,b5_,b1_,fl_,fn_,fh_,fu_,fp_,fz_,fq_,fk_,fr_,f0_,c5_,bt_,bd_,c3_,ct_,cx_,co_,cr_,cz_,cj_,cf_,ch_,an_,dr_,cd_,a9_,a8_,a7_,ce_,cv_,fv_,d1_,Int.toNat_natCast,c7_,c6_,ej_,ei_,f3_,e4_,gd_,e8_,a5_,et_,c8_,di_,dm_,dn_,Nat.reduceAdd,Nat.reduceMul,Int.reduceNeg,Nat.reduceLeDiff,List.length_cons,List.length_nil,true_and,and_true,Nat.zero_add,eq_self,Nat.reduceEqDiff,Int.reduceAdd,Int.reduceSub,Int.reduceMul,not_true_eq_false,not_false_eq_true,Nat.reduceLT,Int.reduceToNat,Int.reduceEq,Int.reduceNe,Int.reduceLT,Int.reduceLE,and_self,false_and,false_implies,true_implies]))
      all_goals first | omega | exact hQ _ (hG.dsX 60)
    | succ n ih =>
      intro i hi
      have step := ih (i + 1) (by omega)
      have hr := lmN_rng (fun d => waitX (g6_ (rs 0) d)) i
      refine w_Co_longestWait_15 ?_
      simp (disch := omega) only [cm_,aq_,ay_,ag_,b8_,af_,ba_,bc_,bb_,bf_,bv_,b4_,ac_,b2_,bq_,ed_,bs_,ao_,c4_,a2_,az_,ar_,av_,c1_,dw_,d6_,ea_,d3_,b5_,b1_,fl_,fn_,fh_,fu_,fp_,fz_,fq_,fk_,fr_,f0_,c5_,bt_,bd_,c3_,ct_,cx_,co_,cr_,cz_,cj_,cf_,ch_,an_,dr_,cd_,a9_,a8_,a7_,ce_,cv_,fv_,d1_,Int.toNat_natCast,c7_,c6_,ej_,ei_,f3_,e4_,gd_,e8_,a5_,et_,c8_,di_,dm_,dn_,Nat.reduceAdd,Nat.reduceMul,Int.reduceNeg,Nat.reduceLeDiff,List.length_cons,List.length_nil,true_and,and_true,Nat.zero_add,eq_self,Nat.reduceEqDiff,Int.reduceAdd,Int.reduceSub,Int.reduceMul,not_true_eq_false,not_false_eq_true,Nat.reduceLT,Int.reduceToNat,Int.reduceEq,Int.reduceNe,Int.reduceLT,Int.reduceLE,and_self,false_and,false_implies,true_implies]
      refine ⟨fun _ => by omega, fun _ => ?_⟩
      refine conM_isHome (q := 11) (by omega) (hG.dsX i) (fun c => ?_) (fun c => ?_)
      · have hw : ∀ e, (fun d => waitX (g6_ (rs 0) d)) (i + e) = false := by
          intro e
          simp [waitX, daysX_home c e]
        have h2 := lmN_end (w := fun d => waitX (g6_ (rs 0) d)) (d := i) hw (n + 1)
        rw [hi] at h2
        have hQ := hQ _ (hG.dsX i)
        rw [h2] at hQ
        simp (disch := omega) only [cm_,aq_,ay_,ag_,b8_,af_,ba_,bc_,bb_,bf_,bv_,b4_,ac_,b2_,bq_,ed_,bs_,ao_,c4_,a2_,az_,ar_,av_,c1_,dw_,d6_,ea_,d3_,b5_,b1_,fl_,fn_,fh_,fu_,fp_,fz_,fq_,fk_,fr_,f0_,c5_,bt_,bd_,c3_,ct_,cx_,co_,cr_,cz_,cj_,cf_,ch_,an_,dr_,cd_,a9_,a8_,a7_,ce_,cv_,fv_,d1_,Int.toNat_natCast,c7_,c6_,ej_,ei_,f3_,e4_,gd_,e8_,a5_,et_,c8_,di_,dm_,dn_,Nat.reduceAdd,Nat.reduceMul,Int.reduceNeg,Nat.reduceLeDiff,List.length_cons,List.length_nil,true_and,and_true,Nat.zero_add,eq_self,Nat.reduceEqDiff,Int.reduceAdd,Int.reduceSub,Int.reduceMul,not_true_eq_false,not_false_eq_true,Nat.reduceLT,Int.reduceToNat,Int.reduceEq,Int.reduceNe,Int.reduceLT,Int.reduceLE,and_self,false_and,false_implies,true_implies]
        refine w_Co_longestWait_62 ?_
        simp (disch := omega) only [cm_,aq_,ay_,ag_,b8_,af_,ba_,bc_,bb_,bf_,bv_,b4_,ac_,b2_,bq_,ed_,bs_,ao_,c4_,a2_,az_,ar_,av_,c1_,dw_,d6_,ea_,d3_,b5_,b1_,fl_,fn_,fh_,fu_,fp_,fz_,fq_,fk_,fr_,f0_,c5_,bt_,bd_,c3_,ct_,cx_,co_,cr_,cz_,cj_,cf_,ch_,an_,dr_,cd_,a9_,a8_,a7_,ce_,cv_,fv_,d1_,Int.toNat_natCast,c7_,c6_,ej_,ei_,f3_,e4_,gd_,e8_,a5_,et_,c8_,di_,dm_,dn_,Nat.reduceAdd,Nat.reduceMul,Int.reduceNeg,Nat.reduceLeDiff,List.length_cons,List.length_nil,true_and,and_true,Nat.zero_add,eq_self,Nat.reduceEqDiff,Int.reduceAdd,Int.reduceSub,Int.reduceMul,not_true_eq_false,not_false_eq_true,Nat.reduceLT,Int.reduceToNat,Int.reduceEq,Int.reduceNe,Int.reduceLT,Int.reduceLE,and_self,false_and,false_implies,true_implies]
        exact hQ
      · simp only [lmN, g6_] at step
        simp (disch := omega) only [cm_,aq_,ay_,ag_,b8_,af_,ba_,bc_,bb_,bf_,bv_,b4_,ac_,b2_,bq_,ed_,bs_,ao_,c4_,a2_,az_,ar_,av_,c1_,dw_,d6_,ea_,d3_,b5_,b1_,fl_,fn_,fh_,fu_,fp_,fz_,fq_,fk_,fr_,f0_,c5_,bt_,bd_,c3_,ct_,cx_,co_,cr_,cz_,cj_,cf_,ch_,an_,dr_,cd_,a9_,a8_,a7_,ce_,cv_,fv_,d1_,Int.toNat_natCast,c7_,c6_,ej_,ei_,f3_,e4_,gd_,e8_,a5_,et_,c8_,di_,dm_,dn_,Nat.reduceAdd,Nat.reduceMul,Int.reduceNeg,Nat.reduceLeDiff,List.length_cons,List.length_nil,true_and,and_true,Nat.zero_add,eq_self,Nat.reduceEqDiff,Int.reduceAdd,Int.reduceSub,Int.reduceMul,not_true_eq_false,not_false_eq_true,Nat.reduceLT,Int.reduceToNat,Int.reduceEq,Int.reduceNe,Int.reduceLT,Int.reduceLE,and_self,false_and,false_implies,true_implies]
        refine conM_waits (q := 11) (by omega) (hG.dsX i) ?_
        cases hw : waitX (g6_ (rs 0) i)
        · rw [if_neg (show ¬ (waitX (g6_ (rs 0) i) = true) by simp [hw])] at step
          simp (disch := omega) only [cm_,aq_,ay_,ag_,b8_,af_,ba_,bc_,bb_,bf_,bv_,b4_,ac_,b2_,bq_,ed_,bs_,ao_,c4_,a2_,az_,ar_,av_,c1_,dw_,d6_,ea_,d3_,b5_,b1_,fl_,fn_,fh_,fu_,fp_,fz_,fq_,fk_,fr_,f0_,c5_,bt_,bd_,c3_,ct_,cx_,co_,cr_,cz_,cj_,cf_,ch_,an_,dr_,cd_,a9_,a8_,a7_,ce_,cv_,fv_,d1_,Int.toNat_natCast,c7_,c6_,ej_,ei_,f3_,e4_,gd_,e8_,a5_,et_,c8_,di_,dm_,dn_,Nat.reduceAdd,Nat.reduceMul,Int.reduceNeg,Nat.reduceLeDiff,List.length_cons,List.length_nil,true_and,and_true,Nat.zero_add,eq_self,Nat.reduceEqDiff,Int.reduceAdd,Int.reduceSub,Int.reduceMul,not_true_eq_false,not_false_eq_true,Nat.reduceLT,Int.reduceToNat,Int.reduceEq,Int.reduceNe,Int.reduceLT,Int.reduceLE,and_self,false_and,false_implies,true_implies]
          repeat' (first | with_reducible refine And.intro ?_ ?_ | with_reducible intro _ | ((first | with_reducible refine w_Co_longestWait_48 ?_ | with_reducible refine w_Co_longestWait_49 ?_ | with_reducible refine w_Co_longestWait_62 ?_); simp (disch := omega) only [cm_,aq_,ay_,ag_,b8_,af_,ba_,bc_,bb_,bf_,bv_,b4_,ac_,b2_,bq_,ed_,bs_,ao_,c4_,a2_,az_,ar_,av_,c1_,dw_,d6_,ea_,d3_,b5_,b1_,fl_,fn_,fh_,fu_,fp_,fz_,fq_,fk_,fr_,f0_,c5_,bt_,bd_,c3_,ct_,cx_,co_,cr_,cz_,cj_,cf_,ch_,an_,dr_,cd_,a9_,a8_,a7_,ce_,cv_,fv_,d1_,Int.toNat_natCast,c7_,c6_,ej_,ei_,f3_,e4_,gd_,e8_,a5_,et_,c8_,di_,dm_,dn_,Nat.reduceAdd,Nat.reduceMul,Int.reduceNeg,Nat.reduceLeDiff,List.length_cons,List.length_nil,true_and,and_true,Nat.zero_add,eq_self,Nat.reduceEqDiff,Int.reduceAdd,Int.reduceSub,Int.reduceMul,not_true_eq_false,not_false_eq_true,Nat.reduceLT,Int.reduceToNat,Int.reduceEq,Int.reduceNe,Int.reduceLT,Int.reduceLE,and_self,false_and,false_implies,true_implies]))
          all_goals first | omega | (exact absurd rfl (by assumption)) | (rw [show max (lmN (fun d => waitX (g6_ (rs 0) d)) i).1 0 = max (lmN (fun d => waitX (g6_ (rs 0) d)) i).1 0 from rfl]; exact step)
        · rw [if_pos hw] at step
          simp (disch := omega) only [cm_,aq_,ay_,ag_,b8_,af_,ba_,bc_,bb_,bf_,bv_,b4_,ac_,b2_,bq_,ed_,bs_,ao_,c4_,a2_,az_,ar_,av_,c1_,dw_,d6_,ea_,d3_,b5_,b1_,fl_,fn_,fh_,fu_,fp_,fz_,fq_,fk_,fr_,f0_,c5_,bt_,bd_,c3_,ct_,cx_,co_,cr_,cz_,cj_,cf_,ch_,an_,dr_,cd_,a9_,a8_,a7_,ce_,cv_,fv_,d1_,Int.toNat_natCast,c7_,c6_,ej_,ei_,f3_,e4_,gd_,e8_,a5_,et_,c8_,di_,dm_,dn_,Nat.reduceAdd,Nat.reduceMul,Int.reduceNeg,Nat.reduceLeDiff,List.length_cons,List.length_nil,true_and,and_true,Nat.zero_add,eq_self,Nat.reduceEqDiff,Int.reduceAdd,Int.reduceSub,Int.reduceMul,not_true_eq_false,not_false_eq_true,Nat.reduceLT,Int.reduceToNat,Int.reduceEq,Int.reduceNe,Int.reduceLT,Int.reduceLE,and_self,false_and,false_implies,true_implies]
          repeat' (first | with_reducible refine And.intro ?_ ?_ | with_reducible intro _ | ((first | with_reducible refine w_Co_longestWait_48 ?_ | with_reducible refine w_Co_longestWait_49 ?_ | with_reducible refine w_Co_longestWait_62 ?_); simp (disch := omega) only [cm_,aq_,ay_,ag_,b8_,af_,ba_,bc_,bb_,bf_,bv_,b4_,ac_,b2_,bq_,ed_,bs_,ao_,c4_,a2_,az_,ar_,av_,c1_,dw_,d6_,ea_,d3_,b5_,b1_,fl_,fn_,fh_,fu_,fp_,fz_,fq_,fk_,fr_,f0_,c5_,bt_,bd_,c3_,ct_,cx_,co_,cr_,cz_,cj_,cf_,ch_,an_,dr_,cd_,a9_,a8_,a7_,ce_,cv_,fv_,d1_,Int.toNat_natCast,c7_,c6_,ej_,ei_,f3_,e4_,gd_,e8_,a5_,et_,c8_,di_,dm_,dn_,Nat.reduceAdd,Nat.reduceMul,Int.reduceNeg,Nat.reduceLeDiff,List.length_cons,List.length_nil,true_and,and_true,Nat.zero_add,eq_self,Nat.reduceEqDiff,Int.reduceAdd,Int.reduceSub,Int.reduceMul,not_true_eq_false,not_false_eq_true,Nat.reduceLT,Int.reduceToNat,Int.reduceEq,Int.reduceNe,Int.reduceLT,Int.reduceLE,and_self,false_and,false_implies,true_implies]))
          all_goals first | omega | contradiction | exact step
  exact loop 60 0 rfl
theorem con_CfewestToPardon {n : Nat} (hn : n ≤ 60) (hA : GR A) (hG : GR (rs 0)) (hQ : ∀ B, GR B → Q (some (.int (zI (fewF g6_ (rs 0) n)))) (HX (upR rs 11 B) pi psz lt lsz tn tsz g1 g2 sd rf im hM)) : Con M_Co_fewestToPardon [.ref 85, .ref 0, .int (zI n)] (HX (upR rs 11 A) pi psz lt lsz tn tsz g1 g2 sd rf im hM) Q := by
  have gn := hG.nM
  have gc := mask_256 (isF (rs 0) 0) gn.2
  refine g8_ (L := [some (.ref 85), some (.ref 0), some (.int (zI n)), none, none, none]) ok_Co_fewestToPardon (Nat.le_of_ble_eq_true rfl) rfl ?_
  refine w_Co_fewestToPardon_0 ?_
  simp (disch := omega) only [cm_,aq_,ay_,ag_,b8_,af_,ba_,bc_,bb_,bf_,bv_,b4_,ac_,b2_,bq_,ed_,bs_,ao_,c4_,a2_,az_,ar_,av_,c1_,dw_,d6_,ea_,d3_,b5_,b1_,fl_,fn_,fh_,fu_,fp_,fz_,fq_,fk_,fr_,f0_,c5_,bt_,bd_,c3_,ct_,cx_,co_,cr_,cz_,cj_,cf_,ch_,an_,dr_,cd_,a9_,a8_,a7_,ce_,cv_,fv_,d1_,Int.toNat_natCast,c7_,c6_,ej_,ei_,f3_,e4_,gd_,e8_,a5_,et_,c8_,di_,dm_,dn_,Nat.reduceAdd,Nat.reduceMul,Int.reduceNeg,Nat.reduceLeDiff,List.length_cons,List.length_nil,true_and,and_true,Nat.zero_add,eq_self,Nat.reduceEqDiff,Int.reduceAdd,Int.reduceSub,Int.reduceMul,not_true_eq_false,not_false_eq_true,Nat.reduceLT,Int.reduceToNat,Int.reduceEq,Int.reduceNe,Int.reduceLT,Int.reduceLE,and_self,false_and,false_implies,true_implies]
  refine conN_menWhoAre (by unfold inI; omega) hG ?_
  simp (disch := omega) only [cm_,aq_,ay_,ag_,b8_,af_,ba_,bc_,bb_,bf_,bv_,b4_,ac_,b2_,bq_,ed_,bs_,ao_,c4_,a2_,az_,ar_,av_,c1_,dw_,d6_,ea_,d3_,b5_,b1_,fl_,fn_,fh_,fu_,fp_,fz_,fq_,fk_,fr_,f0_,c5_,bt_,bd_,c3_,ct_,cx_,co_,cr_,cz_,cj_,cf_,ch_,an_,dr_,cd_,a9_,a8_,a7_,ce_,cv_,fv_,d1_,Int.toNat_natCast,c7_,c6_,ej_,ei_,f3_,e4_,gd_,e8_,a5_,et_,c8_,di_,dm_,dn_,Nat.reduceAdd,Nat.reduceMul,Int.reduceNeg,Nat.reduceLeDiff,List.length_cons,List.length_nil,true_and,and_true,Nat.zero_add,eq_self,Nat.reduceEqDiff,Int.reduceAdd,Int.reduceSub,Int.reduceMul,not_true_eq_false,not_false_eq_true,Nat.reduceLT,Int.reduceToNat,Int.reduceEq,Int.reduceNe,Int.reduceLT,Int.reduceLE,and_self,false_and,false_implies,true_implies]
  have outer : ∀ k z : Nat, z + k = 9 → scan2 (fewI g6_ (rs 0) n) z k = fewF g6_ (rs 0) n → ∀ B, GR B → ∀ x5, J M_Co_fewestToPardon 9 [some (.ref 85), some (.ref 0), some (.int (zI n)), some (.int (zI (mask (isF (rs 0) 0) (hb_ (rs 0)) : Nat))), some (.int (zI z)), x5] [] (HX (upR rs 11 B) pi psz lt lsz tn tsz g1 g2 sd rf im hM) Q := by
    intro k
    induction k with
    | zero =>
      intro z hz ht B hB x5
      have e : z = 9 := by omega
      subst e
      have hQ := hQ _ hB
      rw [← ht] at hQ
      refine w_Co_fewestToPardon_9 ?_
      simp (disch := omega) only [cm_,aq_,ay_,ag_,b8_,af_,ba_,bc_,bb_,bf_,bv_,b4_,ac_,b2_,bq_,ed_,bs_,ao_,c4_,a2_,az_,ar_,av_,c1_,dw_,d6_,ea_,d3_,b5_,b1_,fl_,fn_,fh_,fu_,fp_,fz_,fq_,fk_,fr_,f0_,c5_,bt_,bd_,c3_,ct_,cx_,co_,cr_,cz_,cj_,cf_,ch_,an_,dr_,cd_,a9_,a8_,a7_,ce_,cv_,fv_,d1_,Int.toNat_natCast,c7_,c6_,ej_,ei_,f3_,e4_,gd_,e8_,a5_,et_,c8_,di_,dm_,dn_,Nat.reduceAdd,Nat.reduceMul,Int.reduceNeg,Nat.reduceLeDiff,List.length_cons,List.length_nil,true_and,and_true,Nat.zero_add,eq_self,Nat.reduceEqDiff,Int.reduceAdd,Int.reduceSub,Int.reduceMul,not_true_eq_false,not_false_eq_true,Nat.reduceLT,Int.reduceToNat,Int.reduceEq,Int.reduceNe,Int.reduceLT,Int.reduceLE,and_self,false_and,false_implies,true_implies]
      repeat' (first | with_reducible refine And.intro ?_ ?_ | with_reducible intro _ | ((first | with_reducible refine w_Co_fewestToPardon_82 ?_ | with_reducible refine w_Co_fewestToPardon_88 ?_ | with_reducible refine w_Co_fewestToPardon_94 ?_); simp (disch := omega) only [cm_,aq_,ay_,ag_,b8_,af_,ba_,bc_,bb_,bf_,bv_,b4_,ac_,b2_,bq_,ed_,bs_,ao_,c4_,a2_,az_,ar_,av_,c1_,dw_,d6_,ea_,d3_,b5_,b1_,fl_,fn_,fh_,fu_,fp_,fz_,fq_,fk_,fr_,f0_,c5_,bt_,bd_,c3_,ct_,cx_,co_,cr_,cz_,cj_,cf_,ch_,an_,dr_,cd_,a9_,a8_,a7_,ce_,cv_,fv_,d1_,Int.toNat_natCast,c7_,c6_,ej_,ei_,f3_,e4_,gd_,e8_,a5_,et_,c8_,di_,dm_,dn_,Nat.reduceAdd,Nat.reduceMul,Int.reduceNeg,Nat.reduceLeDiff,List.length_cons,List.length_nil,true_and,and_true,Nat.zero_add,eq_self,Nat.reduceEqDiff,Int.reduceAdd,Int.reduceSub,Int.reduceMul,not_true_eq_false,not_false_eq_true,Nat.reduceLT,Int.reduceToNat,Int.reduceEq,Int.reduceNe,Int.reduceLT,Int.reduceLE,and_self,false_and,false_implies,true_implies]))
      all_goals first | omega | exact hQ
    | succ k ih =>
      intro z hz ht B hB x5
      have hs : scan2 (fewI g6_ (rs 0) n) z (k + 1) = if fewI g6_ (rs 0) n z = -9 then scan2 (fewI g6_ (rs 0) n) (z + 1) k else fewI g6_ (rs 0) n z := rfl
      rw [hs] at ht
      have inner : ∀ m b : Nat, b + m = 256 → firstN (fun b => decide (anb b (mask (isF (rs 0) 0) (hb_ (rs 0))) = 0 ∧ pop8 b = z ∧ hd_ (g6_ (parR (rs 0) b 8) n) = 12)) b m = fewI g6_ (rs 0) n z → ∀ B, GR B → J M_Co_fewestToPardon 19 [some (.ref 85), some (.ref 0), some (.int (zI n)), some (.int (zI (mask (isF (rs 0) 0) (hb_ (rs 0)) : Nat))), some (.int (zI z)), some (.int (zI b))] [] (HX (upR rs 11 B) pi psz lt lsz tn tsz g1 g2 sd rf im hM) Q := by
        intro m
        induction m with
        | zero =>
          intro b hb hm B hB
          have e : b = 256 := by omega
          subst e
          simp only [firstN] at hm
          rw [if_pos hm.symm] at ht
          have step := ih (z + 1) (by omega) ht _ hB
          have e256 : ((256 : Nat) : Int) = 256 := rfl
          refine w_Co_fewestToPardon_19 ?_
          simp (disch := omega) only [cm_,aq_,ay_,ag_,b8_,af_,ba_,bc_,bb_,bf_,bv_,b4_,ac_,b2_,bq_,ed_,bs_,ao_,c4_,a2_,az_,ar_,av_,c1_,dw_,d6_,ea_,d3_,b5_,b1_,fl_,fn_,fh_,fu_,fp_,fz_,fq_,fk_,fr_,f0_,c5_,bt_,bd_,c3_,ct_,cx_,co_,cr_,cz_,cj_,cf_,ch_,an_,dr_,cd_,a9_,a8_,a7_,ce_,cv_,fv_,d1_,Int.toNat_natCast,c7_,c6_,ej_,ei_,f3_,e4_,gd_,e8_,a5_,et_,c8_,di_,dm_,dn_,Nat.reduceAdd,Nat.reduceMul,Int.reduceNeg,Nat.reduceLeDiff,List.length_cons,List.length_nil,true_and,and_true,Nat.zero_add,eq_self,Nat.reduceEqDiff,Int.reduceAdd,Int.reduceSub,Int.reduceMul,not_true_eq_false,not_false_eq_true,Nat.reduceLT,Int.reduceToNat,Int.reduceEq,Int.reduceNe,Int.reduceLT,Int.reduceLE,and_self,false_and,false_implies,true_implies,e256]
          refine w_Co_fewestToPardon_88 ?_
          simp (disch := omega) only [cm_,aq_,ay_,ag_,b8_,af_,ba_,bc_,bb_,bf_,bv_,b4_,ac_,b2_,bq_,ed_,bs_,ao_,c4_,a2_,az_,ar_,av_,c1_,dw_,d6_,ea_,d3_,b5_,b1_,fl_,fn_,fh_,fu_,fp_,fz_,fq_,fk_,fr_,f0_,c5_,bt_,bd_,c3_,ct_,cx_,co_,cr_,cz_,cj_,cf_,ch_,an_,dr_,cd_,a9_,a8_,a7_,ce_,cv_,fv_,d1_,Int.toNat_natCast,c7_,c6_,ej_,ei_,f3_,e4_,gd_,e8_,a5_,et_,c8_,di_,dm_,dn_,Nat.reduceAdd,Nat.reduceMul,Int.reduceNeg,Nat.reduceLeDiff,List.length_cons,List.length_nil,true_and,and_true,Nat.zero_add,eq_self,Nat.reduceEqDiff,Int.reduceAdd,Int.reduceSub,Int.reduceMul,not_true_eq_false,not_false_eq_true,Nat.reduceLT,Int.reduceToNat,Int.reduceEq,Int.reduceNe,Int.reduceLT,Int.reduceLE,and_self,false_and,false_implies,true_implies]
          exact step _
        | succ m ihm =>
          intro b hb hm B hB
          have hp := pop8_le b
          have hab := anb_256 (a := b) (c := mask (isF (rs 0) 0) (hb_ (rs 0))) (by omega)
          have hs2 : ∀ p : Nat → Bool, firstN p b (m + 1) = if p b = true then (b : Int) else firstN p (b + 1) m := fun _ => rfl
          rw [hs2] at hm
          simp only [decide_eq_true_eq] at hm
          have stepF : ¬ (anb b (mask (isF (rs 0) 0) (hb_ (rs 0))) = 0 ∧ pop8 b = z ∧ hd_ (g6_ (parR (rs 0) b 8) n) = 12) → ∀ B, GR B → J M_Co_fewestToPardon 19 [some (.ref 85), some (.ref 0), some (.int (zI n)), some (.int (zI (mask (isF (rs 0) 0) (hb_ (rs 0)) : Nat))), some (.int (zI z)), some (.int (zI (b + 1 : Nat)))] [] (HX (upR rs 11 B) pi psz lt lsz tn tsz g1 g2 sd rf im hM) Q := by
            intro c B hB
            rw [if_neg c] at hm
            exact ihm (b + 1) (by omega) hm B hB
          refine w_Co_fewestToPardon_19 ?_
          simp (disch := omega) only [cm_,aq_,ay_,ag_,b8_,af_,ba_,bc_,bb_,bf_,bv_,b4_,ac_,b2_,bq_,ed_,bs_,ao_,c4_,a2_,az_,ar_,av_,c1_,dw_,d6_,ea_,d3_,b5_,b1_,fl_,fn_,fh_,fu_,fp_,fz_,fq_,fk_,fr_,f0_,c5_,bt_,bd_,c3_,ct_,cx_,co_,cr_,cz_,cj_,cf_,ch_,an_,dr_,cd_,a9_,a8_,a7_,ce_,cv_,fv_,d1_,Int.toNat_natCast,c7_,c6_,ej_,ei_,f3_,e4_,gd_,e8_,a5_,et_,c8_,di_,dm_,dn_,Nat.reduceAdd,Nat.reduceMul,Int.reduceNeg,Nat.reduceLeDiff,List.length_cons,List.length_nil,true_and,and_true,Nat.zero_add,eq_self,Nat.reduceEqDiff,Int.reduceAdd,Int.reduceSub,Int.reduceMul,not_true_eq_false,not_false_eq_true,Nat.reduceLT,Int.reduceToNat,Int.reduceEq,Int.reduceNe,Int.reduceLT,Int.reduceLE,and_self,false_and,false_implies,true_implies]
          refine ⟨fun _ => by omega, fun _ => ⟨fun c1 => ?_, fun c1 => ?_⟩⟩
          · refine w_Co_fewestToPardon_82 ?_
            simp (disch := omega) only [cm_,aq_,ay_,ag_,b8_,af_,ba_,bc_,bb_,bf_,bv_,b4_,ac_,b2_,bq_,ed_,bs_,ao_,c4_,a2_,az_,ar_,av_,c1_,dw_,d6_,ea_,d3_,b5_,b1_,fl_,fn_,fh_,fu_,fp_,fz_,fq_,fk_,fr_,f0_,c5_,bt_,bd_,c3_,ct_,cx_,co_,cr_,cz_,cj_,cf_,ch_,an_,dr_,cd_,a9_,a8_,a7_,ce_,cv_,fv_,d1_,Int.toNat_natCast,c7_,c6_,ej_,ei_,f3_,e4_,gd_,e8_,a5_,et_,c8_,di_,dm_,dn_,Nat.reduceAdd,Nat.reduceMul,Int.reduceNeg,Nat.reduceLeDiff,List.length_cons,List.length_nil,true_and,and_true,Nat.zero_add,eq_self,Nat.reduceEqDiff,Int.reduceAdd,Int.reduceSub,Int.reduceMul,not_true_eq_false,not_false_eq_true,Nat.reduceLT,Int.reduceToNat,Int.reduceEq,Int.reduceNe,Int.reduceLT,Int.reduceLE,and_self,false_and,false_implies,true_implies]
            exact stepF (fun q => c1 (by rw [q.1]; rfl)) B hB
          · refine con_bitCount (by omega) ?_
            simp (disch := omega) only [cm_,aq_,ay_,ag_,b8_,af_,ba_,bc_,bb_,bf_,bv_,b4_,ac_,b2_,bq_,ed_,bs_,ao_,c4_,a2_,az_,ar_,av_,c1_,dw_,d6_,ea_,d3_,b5_,b1_,fl_,fn_,fh_,fu_,fp_,fz_,fq_,fk_,fr_,f0_,c5_,bt_,bd_,c3_,ct_,cx_,co_,cr_,cz_,cj_,cf_,ch_,an_,dr_,cd_,a9_,a8_,a7_,ce_,cv_,fv_,d1_,Int.toNat_natCast,c7_,c6_,ej_,ei_,f3_,e4_,gd_,e8_,a5_,et_,c8_,di_,dm_,dn_,Nat.reduceAdd,Nat.reduceMul,Int.reduceNeg,Nat.reduceLeDiff,List.length_cons,List.length_nil,true_and,and_true,Nat.zero_add,eq_self,Nat.reduceEqDiff,Int.reduceAdd,Int.reduceSub,Int.reduceMul,not_true_eq_false,not_false_eq_true,Nat.reduceLT,Int.reduceToNat,Int.reduceEq,Int.reduceNe,Int.reduceLT,Int.reduceLE,and_self,false_and,false_implies,true_implies]
            refine ⟨fun c2 => ?_, fun c2 => ?_⟩
            · refine w_Co_fewestToPardon_82 ?_
              simp (disch := omega) only [cm_,aq_,ay_,ag_,b8_,af_,ba_,bc_,bb_,bf_,bv_,b4_,ac_,b2_,bq_,ed_,bs_,ao_,c4_,a2_,az_,ar_,av_,c1_,dw_,d6_,ea_,d3_,b5_,b1_,fl_,fn_,fh_,fu_,fp_,fz_,fq_,fk_,fr_,f0_,c5_,bt_,bd_,c3_,ct_,cx_,co_,cr_,cz_,cj_,cf_,ch_,an_,dr_,cd_,a9_,a8_,a7_,ce_,cv_,fv_,d1_,Int.toNat_natCast,c7_,c6_,ej_,ei_,f3_,e4_,gd_,e8_,a5_,et_,c8_,di_,dm_,dn_,Nat.reduceAdd,Nat.reduceMul,Int.reduceNeg,Nat.reduceLeDiff,List.length_cons,List.length_nil,true_and,and_true,Nat.zero_add,eq_self,Nat.reduceEqDiff,Int.reduceAdd,Int.reduceSub,Int.reduceMul,not_true_eq_false,not_false_eq_true,Nat.reduceLT,Int.reduceToNat,Int.reduceEq,Int.reduceNe,Int.reduceLT,Int.reduceLE,and_self,false_and,false_implies,true_implies]
              exact stepF (fun q => c2 (by rw [q.2.1])) B hB
            · have hGp := hG.par b 8
              refine conM_become (q := 11) (by omega) ?_
              simp (disch := omega) only [cm_,aq_,ay_,ag_,b8_,af_,ba_,bc_,bb_,bf_,bv_,b4_,ac_,b2_,bq_,ed_,bs_,ao_,c4_,a2_,az_,ar_,av_,c1_,dw_,d6_,ea_,d3_,b5_,b1_,fl_,fn_,fh_,fu_,fp_,fz_,fq_,fk_,fr_,f0_,c5_,bt_,bd_,c3_,ct_,cx_,co_,cr_,cz_,cj_,cf_,ch_,an_,dr_,cd_,a9_,a8_,a7_,ce_,cv_,fv_,d1_,Int.toNat_natCast,c7_,c6_,ej_,ei_,f3_,e4_,gd_,e8_,a5_,et_,c8_,di_,dm_,dn_,Nat.reduceAdd,Nat.reduceMul,Int.reduceNeg,Nat.reduceLeDiff,List.length_cons,List.length_nil,true_and,and_true,Nat.zero_add,eq_self,Nat.reduceEqDiff,Int.reduceAdd,Int.reduceSub,Int.reduceMul,not_true_eq_false,not_false_eq_true,Nat.reduceLT,Int.reduceToNat,Int.reduceEq,Int.reduceNe,Int.reduceLT,Int.reduceLE,and_self,false_and,false_implies,true_implies]
              refine con_CpardonInMind (by omega) hG ?_
              simp (disch := omega) only [cm_,aq_,ay_,ag_,b8_,af_,ba_,bc_,bb_,bf_,bv_,b4_,ac_,b2_,bq_,ed_,bs_,ao_,c4_,a2_,az_,ar_,av_,c1_,dw_,d6_,ea_,d3_,b5_,b1_,fl_,fn_,fh_,fu_,fp_,fz_,fq_,fk_,fr_,f0_,c5_,bt_,bd_,c3_,ct_,cx_,co_,cr_,cz_,cj_,cf_,ch_,an_,dr_,cd_,a9_,a8_,a7_,ce_,cv_,fv_,d1_,Int.toNat_natCast,c7_,c6_,ej_,ei_,f3_,e4_,gd_,e8_,a5_,et_,c8_,di_,dm_,dn_,Nat.reduceAdd,Nat.reduceMul,Int.reduceNeg,Nat.reduceLeDiff,List.length_cons,List.length_nil,true_and,and_true,Nat.zero_add,eq_self,Nat.reduceEqDiff,Int.reduceAdd,Int.reduceSub,Int.reduceMul,not_true_eq_false,not_false_eq_true,Nat.reduceLT,Int.reduceToNat,Int.reduceEq,Int.reduceNe,Int.reduceLT,Int.reduceLE,and_self,false_and,false_implies,true_implies]
              refine conM_passDays (q := 11) (by omega) (by omega) hGp ?_
              simp (disch := omega) only [cm_,aq_,ay_,ag_,b8_,af_,ba_,bc_,bb_,bf_,bv_,b4_,ac_,b2_,bq_,ed_,bs_,ao_,c4_,a2_,az_,ar_,av_,c1_,dw_,d6_,ea_,d3_,b5_,b1_,fl_,fn_,fh_,fu_,fp_,fz_,fq_,fk_,fr_,f0_,c5_,bt_,bd_,c3_,ct_,cx_,co_,cr_,cz_,cj_,cf_,ch_,an_,dr_,cd_,a9_,a8_,a7_,ce_,cv_,fv_,d1_,Int.toNat_natCast,c7_,c6_,ej_,ei_,f3_,e4_,gd_,e8_,a5_,et_,c8_,di_,dm_,dn_,Nat.reduceAdd,Nat.reduceMul,Int.reduceNeg,Nat.reduceLeDiff,List.length_cons,List.length_nil,true_and,and_true,Nat.zero_add,eq_self,Nat.reduceEqDiff,Int.reduceAdd,Int.reduceSub,Int.reduceMul,not_true_eq_false,not_false_eq_true,Nat.reduceLT,Int.reduceToNat,Int.reduceEq,Int.reduceNe,Int.reduceLT,Int.reduceLE,and_self,false_and,false_implies,true_implies]
              refine conM_isHome (q := 11) (by omega) (hGp.dsX n) (fun c3 => ?_) (fun c3 => ?_)
              · rw [if_pos ⟨by omega, by omega, c3⟩] at hm
                rw [if_neg (by omega)] at ht
                have hQ := hQ _ (hGp.dsX n)
                rw [← ht, ← hm] at hQ
                simp (disch := omega) only [cm_,aq_,ay_,ag_,b8_,af_,ba_,bc_,bb_,bf_,bv_,b4_,ac_,b2_,bq_,ed_,bs_,ao_,c4_,a2_,az_,ar_,av_,c1_,dw_,d6_,ea_,d3_,b5_,b1_,fl_,fn_,fh_,fu_,fp_,fz_,fq_,fk_,fr_,f0_,c5_,bt_,bd_,c3_,ct_,cx_,co_,cr_,cz_,cj_,cf_,ch_,an_,dr_,cd_,a9_,a8_,a7_,ce_,cv_,fv_,d1_,Int.toNat_natCast,c7_,c6_,ej_,ei_,f3_,e4_,gd_,e8_,a5_,et_,c8_,di_,dm_,dn_,Nat.reduceAdd,Nat.reduceMul,Int.reduceNeg,Nat.reduceLeDiff,List.length_cons,List.length_nil,true_and,and_true,Nat.zero_add,eq_self,Nat.reduceEqDiff,Int.reduceAdd,Int.reduceSub,Int.reduceMul,not_true_eq_false,not_false_eq_true,Nat.reduceLT,Int.reduceToNat,Int.reduceEq,Int.reduceNe,Int.reduceLT,Int.reduceLE,and_self,false_and,false_implies,true_implies]
                exact hQ
              · simp (disch := omega) only [cm_,aq_,ay_,ag_,b8_,af_,ba_,bc_,bb_,bf_,bv_,b4_,ac_,b2_,bq_,ed_,bs_,ao_,c4_,a2_,az_,ar_,av_,c1_,dw_,d6_,ea_,d3_,b5_,b1_,fl_,fn_,fh_,fu_,fp_,fz_,fq_,fk_,fr_,f0_,c5_,bt_,bd_,c3_,ct_,cx_,co_,cr_,cz_,cj_,cf_,ch_,an_,dr_,cd_,a9_,a8_,a7_,ce_,cv_,fv_,d1_,Int.toNat_natCast,c7_,c6_,ej_,ei_,f3_,e4_,gd_,e8_,a5_,et_,c8_,di_,dm_,dn_,Nat.reduceAdd,Nat.reduceMul,Int.reduceNeg,Nat.reduceLeDiff,List.length_cons,List.length_nil,true_and,and_true,Nat.zero_add,eq_self,Nat.reduceEqDiff,Int.reduceAdd,Int.reduceSub,Int.reduceMul,not_true_eq_false,not_false_eq_true,Nat.reduceLT,Int.reduceToNat,Int.reduceEq,Int.reduceNe,Int.reduceLT,Int.reduceLE,and_self,false_and,false_implies,true_implies]
                refine w_Co_fewestToPardon_82 ?_
                simp (disch := omega) only [cm_,aq_,ay_,ag_,b8_,af_,ba_,bc_,bb_,bf_,bv_,b4_,ac_,b2_,bq_,ed_,bs_,ao_,c4_,a2_,az_,ar_,av_,c1_,dw_,d6_,ea_,d3_,b5_,b1_,fl_,fn_,fh_,fu_,fp_,fz_,fq_,fk_,fr_,f0_,c5_,bt_,bd_,c3_,ct_,cx_,co_,cr_,cz_,cj_,cf_,ch_,an_,dr_,cd_,a9_,a8_,a7_,ce_,cv_,fv_,d1_,Int.toNat_natCast,c7_,c6_,ej_,ei_,f3_,e4_,gd_,e8_,a5_,et_,c8_,di_,dm_,dn_,Nat.reduceAdd,Nat.reduceMul,Int.reduceNeg,Nat.reduceLeDiff,List.length_cons,List.length_nil,true_and,and_true,Nat.zero_add,eq_self,Nat.reduceEqDiff,Int.reduceAdd,Int.reduceSub,Int.reduceMul,not_true_eq_false,not_false_eq_true,Nat.reduceLT,Int.reduceToNat,Int.reduceEq,Int.reduceNe,Int.reduceLT,Int.reduceLE,and_self,false_and,false_implies,true_implies]
                exact stepF (fun q => c3 q.2.2) _ (hGp.dsX n)
      refine w_Co_fewestToPardon_9 ?_
      simp (disch := omega) only [cm_,aq_,ay_,ag_,b8_,af_,ba_,bc_,bb_,bf_,bv_,b4_,ac_,b2_,bq_,ed_,bs_,ao_,c4_,a2_,az_,ar_,av_,c1_,dw_,d6_,ea_,d3_,b5_,b1_,fl_,fn_,fh_,fu_,fp_,fz_,fq_,fk_,fr_,f0_,c5_,bt_,bd_,c3_,ct_,cx_,co_,cr_,cz_,cj_,cf_,ch_,an_,dr_,cd_,a9_,a8_,a7_,ce_,cv_,fv_,d1_,Int.toNat_natCast,c7_,c6_,ej_,ei_,f3_,e4_,gd_,e8_,a5_,et_,c8_,di_,dm_,dn_,Nat.reduceAdd,Nat.reduceMul,Int.reduceNeg,Nat.reduceLeDiff,List.length_cons,List.length_nil,true_and,and_true,Nat.zero_add,eq_self,Nat.reduceEqDiff,Int.reduceAdd,Int.reduceSub,Int.reduceMul,not_true_eq_false,not_false_eq_true,Nat.reduceLT,Int.reduceToNat,Int.reduceEq,Int.reduceNe,Int.reduceLT,Int.reduceLE,and_self,false_and,false_implies,true_implies]
      refine ⟨fun _ => by omega, fun _ => ?_⟩
      exact inner 256 0 rfl rfl B hB
  exact outer 9 0 rfl rfl A hA _
theorem con_CfewestPoles (hG : GR (rs 0)) (hQ : Q (some (.int (zI (polF (rs 0))))) (HX rs pi psz lt lsz tn tsz g1 g2 sd rf im hM)) : Con M_Co_fewestPoles [.ref 85, .ref 0] (HX rs pi psz lt lsz tn tsz g1 g2 sd rf im hM) Q := by
  have gn := hG.nM
  have gc := mask_256 (isF (rs 0) 1) gn.2
  have gd := needed_rng hG
  refine g8_ (L := [some (.ref 85), some (.ref 0), none, none, none]) ok_Co_fewestPoles (Nat.le_of_ble_eq_true rfl) rfl ?_
  refine w_Co_fewestPoles_0 ?_
  simp (disch := omega) only [cm_,aq_,ay_,ag_,b8_,af_,ba_,bc_,bb_,bf_,bv_,b4_,ac_,b2_,bq_,ed_,bs_,ao_,c4_,a2_,az_,ar_,av_,c1_,dw_,d6_,ea_,d3_,b5_,b1_,fl_,fn_,fh_,fu_,fp_,fz_,fq_,fk_,fr_,f0_,c5_,bt_,bd_,c3_,ct_,cx_,co_,cr_,cz_,cj_,cf_,ch_,an_,dr_,cd_,a9_,a8_,a7_,ce_,cv_,fv_,d1_,Int.toNat_natCast,c7_,c6_,ej_,ei_,f3_,e4_,gd_,e8_,a5_,et_,c8_,di_,dm_,dn_,Nat.reduceAdd,Nat.reduceMul,Int.reduceNeg,Nat.reduceLeDiff,List.length_cons,List.length_nil,true_and,and_true,Nat.zero_add,eq_self,Nat.reduceEqDiff,Int.reduceAdd,Int.reduceSub,Int.reduceMul,not_true_eq_false,not_false_eq_true,Nat.reduceLT,Int.reduceToNat,Int.reduceEq,Int.reduceNe,Int.reduceLT,Int.reduceLE,and_self,false_and,false_implies,true_implies]
  refine conN_menWhoAre (by unfold inI; omega) hG ?_
  simp (disch := omega) only [cm_,aq_,ay_,ag_,b8_,af_,ba_,bc_,bb_,bf_,bv_,b4_,ac_,b2_,bq_,ed_,bs_,ao_,c4_,a2_,az_,ar_,av_,c1_,dw_,d6_,ea_,d3_,b5_,b1_,fl_,fn_,fh_,fu_,fp_,fz_,fq_,fk_,fr_,f0_,c5_,bt_,bd_,c3_,ct_,cx_,co_,cr_,cz_,cj_,cf_,ch_,an_,dr_,cd_,a9_,a8_,a7_,ce_,cv_,fv_,d1_,Int.toNat_natCast,c7_,c6_,ej_,ei_,f3_,e4_,gd_,e8_,a5_,et_,c8_,di_,dm_,dn_,Nat.reduceAdd,Nat.reduceMul,Int.reduceNeg,Nat.reduceLeDiff,List.length_cons,List.length_nil,true_and,and_true,Nat.zero_add,eq_self,Nat.reduceEqDiff,Int.reduceAdd,Int.reduceSub,Int.reduceMul,not_true_eq_false,not_false_eq_true,Nat.reduceLT,Int.reduceToNat,Int.reduceEq,Int.reduceNe,Int.reduceLT,Int.reduceLE,and_self,false_and,false_implies,true_implies]
  have outer : ∀ k z : Nat, z + k = 9 → scan2 (polI (rs 0)) z k = polF (rs 0) → ∀ x5, J M_Co_fewestPoles 8 [some (.ref 85), some (.ref 0), some (.int (zI (mask (isF (rs 0) 1) (hb_ (rs 0)) : Nat))), some (.int (zI z)), x5] [] (HX rs pi psz lt lsz tn tsz g1 g2 sd rf im hM) Q := by
    intro k
    induction k with
    | zero =>
      intro z hz ht x5
      have e : z = 9 := by omega
      subst e
      rw [← ht] at hQ
      refine w_Co_fewestPoles_8 ?_
      simp (disch := omega) only [cm_,aq_,ay_,ag_,b8_,af_,ba_,bc_,bb_,bf_,bv_,b4_,ac_,b2_,bq_,ed_,bs_,ao_,c4_,a2_,az_,ar_,av_,c1_,dw_,d6_,ea_,d3_,b5_,b1_,fl_,fn_,fh_,fu_,fp_,fz_,fq_,fk_,fr_,f0_,c5_,bt_,bd_,c3_,ct_,cx_,co_,cr_,cz_,cj_,cf_,ch_,an_,dr_,cd_,a9_,a8_,a7_,ce_,cv_,fv_,d1_,Int.toNat_natCast,c7_,c6_,ej_,ei_,f3_,e4_,gd_,e8_,a5_,et_,c8_,di_,dm_,dn_,Nat.reduceAdd,Nat.reduceMul,Int.reduceNeg,Nat.reduceLeDiff,List.length_cons,List.length_nil,true_and,and_true,Nat.zero_add,eq_self,Nat.reduceEqDiff,Int.reduceAdd,Int.reduceSub,Int.reduceMul,not_true_eq_false,not_false_eq_true,Nat.reduceLT,Int.reduceToNat,Int.reduceEq,Int.reduceNe,Int.reduceLT,Int.reduceLE,and_self,false_and,false_implies,true_implies]
      repeat' (first | with_reducible refine And.intro ?_ ?_ | with_reducible intro _ | ((first | with_reducible refine w_Co_fewestPoles_59 ?_ | with_reducible refine w_Co_fewestPoles_65 ?_ | with_reducible refine w_Co_fewestPoles_71 ?_); simp (disch := omega) only [cm_,aq_,ay_,ag_,b8_,af_,ba_,bc_,bb_,bf_,bv_,b4_,ac_,b2_,bq_,ed_,bs_,ao_,c4_,a2_,az_,ar_,av_,c1_,dw_,d6_,ea_,d3_,b5_,b1_,fl_,fn_,fh_,fu_,fp_,fz_,fq_,fk_,fr_,f0_,c5_,bt_,bd_,c3_,ct_,cx_,co_,cr_,cz_,cj_,cf_,ch_,an_,dr_,cd_,a9_,a8_,a7_,ce_,cv_,fv_,d1_,Int.toNat_natCast,c7_,c6_,ej_,ei_,f3_,e4_,gd_,e8_,a5_,et_,c8_,di_,dm_,dn_,Nat.reduceAdd,Nat.reduceMul,Int.reduceNeg,Nat.reduceLeDiff,List.length_cons,List.length_nil,true_and,and_true,Nat.zero_add,eq_self,Nat.reduceEqDiff,Int.reduceAdd,Int.reduceSub,Int.reduceMul,not_true_eq_false,not_false_eq_true,Nat.reduceLT,Int.reduceToNat,Int.reduceEq,Int.reduceNe,Int.reduceLT,Int.reduceLE,and_self,false_and,false_implies,true_implies]))
      all_goals first | omega | exact hQ
    | succ k ih =>
      intro z hz ht x5
      have hs : scan2 (polI (rs 0)) z (k + 1) = if polI (rs 0) z = -9 then scan2 (polI (rs 0)) (z + 1) k else polI (rs 0) z := rfl
      rw [hs] at ht
      have inner : ∀ m b : Nat, b + m = 256 → firstN (fun b => decide (anb b (mask (isF (rs 0) 1) (hb_ (rs 0))) = 0 ∧ pop8 b = z ∧ needed (rs 0) ≤ stN (rs 0) b 8)) b m = polI (rs 0) z → J M_Co_fewestPoles 17 [some (.ref 85), some (.ref 0), some (.int (zI (mask (isF (rs 0) 1) (hb_ (rs 0)) : Nat))), some (.int (zI z)), some (.int (zI b))] [] (HX rs pi psz lt lsz tn tsz g1 g2 sd rf im hM) Q := by
        intro m
        induction m with
        | zero =>
          intro b hb hm
          have e : b = 256 := by omega
          subst e
          simp only [firstN] at hm
          rw [if_pos hm.symm] at ht
          have step := ih (z + 1) (by omega) ht
          have e256 : ((256 : Nat) : Int) = 256 := rfl
          refine w_Co_fewestPoles_17 ?_
          simp (disch := omega) only [cm_,aq_,ay_,ag_,b8_,af_,ba_,bc_,bb_,bf_,bv_,b4_,ac_,b2_,bq_,ed_,bs_,ao_,c4_,a2_,az_,ar_,av_,c1_,dw_,d6_,ea_,d3_,b5_,b1_,fl_,fn_,fh_,fu_,fp_,fz_,fq_,fk_,fr_,f0_,c5_,bt_,bd_,c3_,ct_,cx_,co_,cr_,cz_,cj_,cf_,ch_,an_,dr_,cd_,a9_,a8_,a7_,ce_,cv_,fv_,d1_,Int.toNat_natCast,c7_,c6_,ej_,ei_,f3_,e4_,gd_,e8_,a5_,et_,c8_,di_,dm_,dn_,Nat.reduceAdd,Nat.reduceMul,Int.reduceNeg,Nat.reduceLeDiff,List.length_cons,List.length_nil,true_and,and_true,Nat.zero_add,eq_self,Nat.reduceEqDiff,Int.reduceAdd,Int.reduceSub,Int.reduceMul,not_true_eq_false,not_false_eq_true,Nat.reduceLT,Int.reduceToNat,Int.reduceEq,Int.reduceNe,Int.reduceLT,Int.reduceLE,and_self,false_and,false_implies,true_implies,e256]
          refine w_Co_fewestPoles_65 ?_
          simp (disch := omega) only [cm_,aq_,ay_,ag_,b8_,af_,ba_,bc_,bb_,bf_,bv_,b4_,ac_,b2_,bq_,ed_,bs_,ao_,c4_,a2_,az_,ar_,av_,c1_,dw_,d6_,ea_,d3_,b5_,b1_,fl_,fn_,fh_,fu_,fp_,fz_,fq_,fk_,fr_,f0_,c5_,bt_,bd_,c3_,ct_,cx_,co_,cr_,cz_,cj_,cf_,ch_,an_,dr_,cd_,a9_,a8_,a7_,ce_,cv_,fv_,d1_,Int.toNat_natCast,c7_,c6_,ej_,ei_,f3_,e4_,gd_,e8_,a5_,et_,c8_,di_,dm_,dn_,Nat.reduceAdd,Nat.reduceMul,Int.reduceNeg,Nat.reduceLeDiff,List.length_cons,List.length_nil,true_and,and_true,Nat.zero_add,eq_self,Nat.reduceEqDiff,Int.reduceAdd,Int.reduceSub,Int.reduceMul,not_true_eq_false,not_false_eq_true,Nat.reduceLT,Int.reduceToNat,Int.reduceEq,Int.reduceNe,Int.reduceLT,Int.reduceLE,and_self,false_and,false_implies,true_implies]
          exact step _
        | succ m ihm =>
          intro b hb hm
          have hp := pop8_le b
          have hst := stN_rng hG b 8
          have hab := anb_256 (a := b) (c := mask (isF (rs 0) 1) (hb_ (rs 0))) (by omega)
          have hs2 : ∀ p : Nat → Bool, firstN p b (m + 1) = if p b = true then (b : Int) else firstN p (b + 1) m := fun _ => rfl
          rw [hs2] at hm
          simp only [decide_eq_true_eq] at hm
          have stepF : ¬ (anb b (mask (isF (rs 0) 1) (hb_ (rs 0))) = 0 ∧ pop8 b = z ∧ needed (rs 0) ≤ stN (rs 0) b 8) → J M_Co_fewestPoles 17 [some (.ref 85), some (.ref 0), some (.int (zI (mask (isF (rs 0) 1) (hb_ (rs 0)) : Nat))), some (.int (zI z)), some (.int (zI (b + 1 : Nat)))] [] (HX rs pi psz lt lsz tn tsz g1 g2 sd rf im hM) Q := by
            intro c
            rw [if_neg c] at hm
            exact ihm (b + 1) (by omega) hm
          refine w_Co_fewestPoles_17 ?_
          simp (disch := omega) only [cm_,aq_,ay_,ag_,b8_,af_,ba_,bc_,bb_,bf_,bv_,b4_,ac_,b2_,bq_,ed_,bs_,ao_,c4_,a2_,az_,ar_,av_,c1_,dw_,d6_,ea_,d3_,b5_,b1_,fl_,fn_,fh_,fu_,fp_,fz_,fq_,fk_,fr_,f0_,c5_,bt_,bd_,c3_,ct_,cx_,co_,cr_,cz_,cj_,cf_,ch_,an_,dr_,cd_,a9_,a8_,a7_,ce_,cv_,fv_,d1_,Int.toNat_natCast,c7_,c6_,ej_,ei_,f3_,e4_,gd_,e8_,a5_,et_,c8_,di_,dm_,dn_,Nat.reduceAdd,Nat.reduceMul,Int.reduceNeg,Nat.reduceLeDiff,List.length_cons,List.length_nil,true_and,and_true,Nat.zero_add,eq_self,Nat.reduceEqDiff,Int.reduceAdd,Int.reduceSub,Int.reduceMul,not_true_eq_false,not_false_eq_true,Nat.reduceLT,Int.reduceToNat,Int.reduceEq,Int.reduceNe,Int.reduceLT,Int.reduceLE,and_self,false_and,false_implies,true_implies]
          refine ⟨fun _ => by omega, fun _ => ⟨fun c1 => ?_, fun c1 => ?_⟩⟩
          · refine w_Co_fewestPoles_59 ?_
            simp (disch := omega) only [cm_,aq_,ay_,ag_,b8_,af_,ba_,bc_,bb_,bf_,bv_,b4_,ac_,b2_,bq_,ed_,bs_,ao_,c4_,a2_,az_,ar_,av_,c1_,dw_,d6_,ea_,d3_,b5_,b1_,fl_,fn_,fh_,fu_,fp_,fz_,fq_,fk_,fr_,f0_,c5_,bt_,bd_,c3_,ct_,cx_,co_,cr_,cz_,cj_,cf_,ch_,an_,dr_,cd_,a9_,a8_,a7_,ce_,cv_,fv_,d1_,Int.toNat_natCast,c7_,c6_,ej_,ei_,f3_,e4_,gd_,e8_,a5_,et_,c8_,di_,dm_,dn_,Nat.reduceAdd,Nat.reduceMul,Int.reduceNeg,Nat.reduceLeDiff,List.length_cons,List.length_nil,true_and,and_true,Nat.zero_add,eq_self,Nat.reduceEqDiff,Int.reduceAdd,Int.reduceSub,Int.reduceMul,not_true_eq_false,not_false_eq_true,Nat.reduceLT,Int.reduceToNat,Int.reduceEq,Int.reduceNe,Int.reduceLT,Int.reduceLE,and_self,false_and,false_implies,true_implies]
            exact stepF (fun q => c1 (by rw [q.1]; rfl))
          · refine con_bitCount (by omega) ?_
            simp (disch := omega) only [cm_,aq_,ay_,ag_,b8_,af_,ba_,bc_,bb_,bf_,bv_,b4_,ac_,b2_,bq_,ed_,bs_,ao_,c4_,a2_,az_,ar_,av_,c1_,dw_,d6_,ea_,d3_,b5_,b1_,fl_,fn_,fh_,fu_,fp_,fz_,fq_,fk_,fr_,f0_,c5_,bt_,bd_,c3_,ct_,cx_,co_,cr_,cz_,cj_,cf_,ch_,an_,dr_,cd_,a9_,a8_,a7_,ce_,cv_,fv_,d1_,Int.toNat_natCast,c7_,c6_,ej_,ei_,f3_,e4_,gd_,e8_,a5_,et_,c8_,di_,dm_,dn_,Nat.reduceAdd,Nat.reduceMul,Int.reduceNeg,Nat.reduceLeDiff,List.length_cons,List.length_nil,true_and,and_true,Nat.zero_add,eq_self,Nat.reduceEqDiff,Int.reduceAdd,Int.reduceSub,Int.reduceMul,not_true_eq_false,not_false_eq_true,Nat.reduceLT,Int.reduceToNat,Int.reduceEq,Int.reduceNe,Int.reduceLT,Int.reduceLE,and_self,false_and,false_implies,true_implies]
            refine ⟨fun c2 => ?_, fun c2 => ?_⟩
            · refine w_Co_fewestPoles_59 ?_
              simp (disch := omega) only [cm_,aq_,ay_,ag_,b8_,af_,ba_,bc_,bb_,bf_,bv_,b4_,ac_,b2_,bq_,ed_,bs_,ao_,c4_,a2_,az_,ar_,av_,c1_,dw_,d6_,ea_,d3_,b5_,b1_,fl_,fn_,fh_,fu_,fp_,fz_,fq_,fk_,fr_,f0_,c5_,bt_,bd_,c3_,ct_,cx_,co_,cr_,cz_,cj_,cf_,ch_,an_,dr_,cd_,a9_,a8_,a7_,ce_,cv_,fv_,d1_,Int.toNat_natCast,c7_,c6_,ej_,ei_,f3_,e4_,gd_,e8_,a5_,et_,c8_,di_,dm_,dn_,Nat.reduceAdd,Nat.reduceMul,Int.reduceNeg,Nat.reduceLeDiff,List.length_cons,List.length_nil,true_and,and_true,Nat.zero_add,eq_self,Nat.reduceEqDiff,Int.reduceAdd,Int.reduceSub,Int.reduceMul,not_true_eq_false,not_false_eq_true,Nat.reduceLT,Int.reduceToNat,Int.reduceEq,Int.reduceNe,Int.reduceLT,Int.reduceLE,and_self,false_and,false_implies,true_implies]
              exact stepF (fun q => c2 (by rw [q.2.1]))
            · refine conN_strengthOf (by omega) hG ?_
              simp (disch := omega) only [cm_,aq_,ay_,ag_,b8_,af_,ba_,bc_,bb_,bf_,bv_,b4_,ac_,b2_,bq_,ed_,bs_,ao_,c4_,a2_,az_,ar_,av_,c1_,dw_,d6_,ea_,d3_,b5_,b1_,fl_,fn_,fh_,fu_,fp_,fz_,fq_,fk_,fr_,f0_,c5_,bt_,bd_,c3_,ct_,cx_,co_,cr_,cz_,cj_,cf_,ch_,an_,dr_,cd_,a9_,a8_,a7_,ce_,cv_,fv_,d1_,Int.toNat_natCast,c7_,c6_,ej_,ei_,f3_,e4_,gd_,e8_,a5_,et_,c8_,di_,dm_,dn_,Nat.reduceAdd,Nat.reduceMul,Int.reduceNeg,Nat.reduceLeDiff,List.length_cons,List.length_nil,true_and,and_true,Nat.zero_add,eq_self,Nat.reduceEqDiff,Int.reduceAdd,Int.reduceSub,Int.reduceMul,not_true_eq_false,not_false_eq_true,Nat.reduceLT,Int.reduceToNat,Int.reduceEq,Int.reduceNe,Int.reduceLT,Int.reduceLE,and_self,false_and,false_implies,true_implies]
              refine conN_needed hG ?_
              simp (disch := omega) only [cm_,aq_,ay_,ag_,b8_,af_,ba_,bc_,bb_,bf_,bv_,b4_,ac_,b2_,bq_,ed_,bs_,ao_,c4_,a2_,az_,ar_,av_,c1_,dw_,d6_,ea_,d3_,b5_,b1_,fl_,fn_,fh_,fu_,fp_,fz_,fq_,fk_,fr_,f0_,c5_,bt_,bd_,c3_,ct_,cx_,co_,cr_,cz_,cj_,cf_,ch_,an_,dr_,cd_,a9_,a8_,a7_,ce_,cv_,fv_,d1_,Int.toNat_natCast,c7_,c6_,ej_,ei_,f3_,e4_,gd_,e8_,a5_,et_,c8_,di_,dm_,dn_,Nat.reduceAdd,Nat.reduceMul,Int.reduceNeg,Nat.reduceLeDiff,List.length_cons,List.length_nil,true_and,and_true,Nat.zero_add,eq_self,Nat.reduceEqDiff,Int.reduceAdd,Int.reduceSub,Int.reduceMul,not_true_eq_false,not_false_eq_true,Nat.reduceLT,Int.reduceToNat,Int.reduceEq,Int.reduceNe,Int.reduceLT,Int.reduceLE,and_self,false_and,false_implies,true_implies]
              refine ⟨fun c3 => ?_, fun c3 => ?_⟩
              · refine w_Co_fewestPoles_59 ?_
                simp (disch := omega) only [cm_,aq_,ay_,ag_,b8_,af_,ba_,bc_,bb_,bf_,bv_,b4_,ac_,b2_,bq_,ed_,bs_,ao_,c4_,a2_,az_,ar_,av_,c1_,dw_,d6_,ea_,d3_,b5_,b1_,fl_,fn_,fh_,fu_,fp_,fz_,fq_,fk_,fr_,f0_,c5_,bt_,bd_,c3_,ct_,cx_,co_,cr_,cz_,cj_,cf_,ch_,an_,dr_,cd_,a9_,a8_,a7_,ce_,cv_,fv_,d1_,Int.toNat_natCast,c7_,c6_,ej_,ei_,f3_,e4_,gd_,e8_,a5_,et_,c8_,di_,dm_,dn_,Nat.reduceAdd,Nat.reduceMul,Int.reduceNeg,Nat.reduceLeDiff,List.length_cons,List.length_nil,true_and,and_true,Nat.zero_add,eq_self,Nat.reduceEqDiff,Int.reduceAdd,Int.reduceSub,Int.reduceMul,not_true_eq_false,not_false_eq_true,Nat.reduceLT,Int.reduceToNat,Int.reduceEq,Int.reduceNe,Int.reduceLT,Int.reduceLE,and_self,false_and,false_implies,true_implies]
                exact stepF (fun q => by omega)
              · rw [if_pos ⟨by omega, by omega, by omega⟩] at hm
                rw [if_neg (by omega)] at ht
                rw [← ht, ← hm] at hQ
                exact hQ
      refine w_Co_fewestPoles_8 ?_
      simp (disch := omega) only [cm_,aq_,ay_,ag_,b8_,af_,ba_,bc_,bb_,bf_,bv_,b4_,ac_,b2_,bq_,ed_,bs_,ao_,c4_,a2_,az_,ar_,av_,c1_,dw_,d6_,ea_,d3_,b5_,b1_,fl_,fn_,fh_,fu_,fp_,fz_,fq_,fk_,fr_,f0_,c5_,bt_,bd_,c3_,ct_,cx_,co_,cr_,cz_,cj_,cf_,ch_,an_,dr_,cd_,a9_,a8_,a7_,ce_,cv_,fv_,d1_,Int.toNat_natCast,c7_,c6_,ej_,ei_,f3_,e4_,gd_,e8_,a5_,et_,c8_,di_,dm_,dn_,Nat.reduceAdd,Nat.reduceMul,Int.reduceNeg,Nat.reduceLeDiff,List.length_cons,List.length_nil,true_and,and_true,Nat.zero_add,eq_self,Nat.reduceEqDiff,Int.reduceAdd,Int.reduceSub,Int.reduceMul,not_true_eq_false,not_false_eq_true,Nat.reduceLT,Int.reduceToNat,Int.reduceEq,Int.reduceNe,Int.reduceLT,Int.reduceLE,and_self,false_and,false_implies,true_implies]
      refine ⟨fun _ => by omega, fun _ => ?_⟩
      exact inner 256 0 rfl rfl
  exact outer 9 0 rfl rfl _
end C8
end
/-! tells -/
section
/-! ===== the counsel: what a row tells, two ===== -/
section C9
variable {rs : Nat → RR} {pi : Nat → Nat} {psz : Int} {lt : Nat → Int} {lsz : Int} {tn : Nat → Int} {tsz : Int} {g1 g2 : Nat → Int} {sd : Int} {rf : Nat → Int} {im : Int} {hM : AH} {Q : Option Value → AH → Prop} {A : RR}
theorem con_CkingGoesAs (hG : GR A) (hT : GT tn tsz) (h1 : goesB g6_ A tn tsz.toNat = true → ∀ B, GR B → Q (some (.int (zI 1))) (HX (upR rs 11 B) pi psz lt lsz tn tsz g1 g2 sd rf im hM)) (h0 : goesB g6_ A tn tsz.toNat = false → ∀ B, GR B → Q (some (.int (zI 0))) (HX (upR rs 11 B) pi psz lt lsz tn tsz g1 g2 sd rf im hM)) : Con M_Co_kingGoesAs [.ref 85, .ref 83] (HX (upR rs 11 A) pi psz lt lsz tn tsz g1 g2 sd rf im hM) Q := by
  have gt := hT.1
  refine g8_ (L := [some (.ref 85), some (.ref 83), none]) ok_Co_kingGoesAs (Nat.le_of_ble_eq_true rfl) rfl ?_
  refine w_Co_kingGoesAs_0 ?_
  simp (disch := omega) only [cm_,aq_,ay_,ag_,b8_,af_,ba_,bc_,bx_,bb_,cp_,bf_,b3_,bv_,bh_,b4_,am_,ae_,ac_,bq_,ed_,bs_,ao_,as_,a2_,az_,ar_,dw_,d6_,ea_,d3_,b5_,b1_,fh_,fu_,fp_,fz_,fq_,fk_,ft_,fs_,f0_,c5_,bt_,bd_,ct_,cx_,cr_,cz_,cf_,ch_,ci_,an_,cl_,dr_,cd_,a9_,a8_,a7_,ce_,fy_,fv_,cq_,Int.toNat_natCast,eh_,b9_,f3_,e1_,e4_,ex_,e5_,gd_,e8_,dg_,dc_,et_,di_,dm_,dn_,Nat.reduceAdd,Nat.reduceMul,Int.reduceNeg,Nat.reduceLeDiff,List.length_cons,List.length_nil,true_and,and_true,Nat.zero_add,eq_self,Nat.reduceEqDiff,Int.reduceAdd,Int.reduceSub,Int.reduceMul,not_true_eq_false,not_false_eq_true,Nat.reduceLT,Int.reduceToNat,Int.reduceEq,Int.reduceNe,Int.reduceLT,Int.reduceLE,or_true,or_false,and_self,and_false,false_and,false_implies,true_implies]
  have loop : ∀ n i : Nat, i + n = tsz.toNat → goesB g6_ A tn i = true → J M_Co_kingGoesAs 2 [some (.ref 85), some (.ref 83), some (.int (zI i))] [] (HX (upR rs 11 (g6_ A i)) pi psz lt lsz tn tsz g1 g2 sd rf im hM) Q := by
    intro n
    induction n with
    | zero =>
      intro i hi hb
      have e : i = tsz.toNat := by omega
      subst e
      refine w_Co_kingGoesAs_2 ?_
      simp (disch := omega) only [cm_,aq_,ay_,ag_,b8_,af_,ba_,bc_,bx_,bb_,cp_,bf_,b3_,bv_,bh_,b4_,am_,ae_,ac_,bq_,ed_,bs_,ao_,as_,a2_,az_,ar_,dw_,d6_,ea_,d3_,b5_,b1_,fh_,fu_,fp_,fz_,fq_,fk_,ft_,fs_,f0_,c5_,bt_,bd_,ct_,cx_,cr_,cz_,cf_,ch_,ci_,an_,cl_,dr_,cd_,a9_,a8_,a7_,ce_,fy_,fv_,cq_,Int.toNat_natCast,eh_,b9_,f3_,e1_,e4_,ex_,e5_,gd_,e8_,dg_,dc_,et_,di_,dm_,dn_,Nat.reduceAdd,Nat.reduceMul,Int.reduceNeg,Nat.reduceLeDiff,List.length_cons,List.length_nil,true_and,and_true,Nat.zero_add,eq_self,Nat.reduceEqDiff,Int.reduceAdd,Int.reduceSub,Int.reduceMul,not_true_eq_false,not_false_eq_true,Nat.reduceLT,Int.reduceToNat,Int.reduceEq,Int.reduceNe,Int.reduceLT,Int.reduceLE,or_true,or_false,and_self,and_false,false_and,false_implies,true_implies]
      repeat' (first | with_reducible refine And.intro ?_ ?_ | with_reducible intro _ | ((first | with_reducible refine w_Co_kingGoesAs_27 ?_ | with_reducible refine w_Co_kingGoesAs_41 ?_); simp (disch := omega) only [cm_,aq_,ay_,ag_,b8_,af_,ba_,bc_,bx_,bb_,cp_,bf_,b3_,bv_,bh_,b4_,am_,ae_,ac_,bq_,ed_,bs_,ao_,as_,a2_,az_,ar_,dw_,d6_,ea_,d3_,b5_,b1_,fh_,fu_,fp_,fz_,fq_,fk_,ft_,fs_,f0_,c5_,bt_,bd_,ct_,cx_,cr_,cz_,cf_,ch_,ci_,an_,cl_,dr_,cd_,a9_,a8_,a7_,ce_,fy_,fv_,cq_,Int.toNat_natCast,eh_,b9_,f3_,e1_,e4_,ex_,e5_,gd_,e8_,dg_,dc_,et_,di_,dm_,dn_,Nat.reduceAdd,Nat.reduceMul,Int.reduceNeg,Nat.reduceLeDiff,List.length_cons,List.length_nil,true_and,and_true,Nat.zero_add,eq_self,Nat.reduceEqDiff,Int.reduceAdd,Int.reduceSub,Int.reduceMul,not_true_eq_false,not_false_eq_true,Nat.reduceLT,Int.reduceToNat,Int.reduceEq,Int.reduceNe,Int.reduceLT,Int.reduceLE,or_true,or_false,and_self,and_false,false_and,false_implies,true_implies]))
      all_goals first | omega | exact h1 hb _ (hG.dsX _)
    | succ n ih =>
      intro i hi hb
      have gk := (hG.dsX i).king
      have gv := hT.2 i
      refine w_Co_kingGoesAs_2 ?_
      simp (disch := omega) only [cm_,aq_,ay_,ag_,b8_,af_,ba_,bc_,bx_,bb_,cp_,bf_,b3_,bv_,bh_,b4_,am_,ae_,ac_,bq_,ed_,bs_,ao_,as_,a2_,az_,ar_,dw_,d6_,ea_,d3_,b5_,b1_,fh_,fu_,fp_,fz_,fq_,fk_,ft_,fs_,f0_,c5_,bt_,bd_,ct_,cx_,cr_,cz_,cf_,ch_,ci_,an_,cl_,dr_,cd_,a9_,a8_,a7_,ce_,fy_,fv_,cq_,Int.toNat_natCast,eh_,b9_,f3_,e1_,e4_,ex_,e5_,gd_,e8_,dg_,dc_,et_,di_,dm_,dn_,Nat.reduceAdd,Nat.reduceMul,Int.reduceNeg,Nat.reduceLeDiff,List.length_cons,List.length_nil,true_and,and_true,Nat.zero_add,eq_self,Nat.reduceEqDiff,Int.reduceAdd,Int.reduceSub,Int.reduceMul,not_true_eq_false,not_false_eq_true,Nat.reduceLT,Int.reduceToNat,Int.reduceEq,Int.reduceNe,Int.reduceLT,Int.reduceLE,or_true,or_false,and_self,and_false,false_and,false_implies,true_implies]
      refine ⟨fun _ => by omega, fun _ => ?_⟩
      refine con_Tat (by omega) hT ?_
      simp (disch := omega) only [cm_,aq_,ay_,ag_,b8_,af_,ba_,bc_,bx_,bb_,cp_,bf_,b3_,bv_,bh_,b4_,am_,ae_,ac_,bq_,ed_,bs_,ao_,as_,a2_,az_,ar_,dw_,d6_,ea_,d3_,b5_,b1_,fh_,fu_,fp_,fz_,fq_,fk_,ft_,fs_,f0_,c5_,bt_,bd_,ct_,cx_,cr_,cz_,cf_,ch_,ci_,an_,cl_,dr_,cd_,a9_,a8_,a7_,ce_,fy_,fv_,cq_,Int.toNat_natCast,eh_,b9_,f3_,e1_,e4_,ex_,e5_,gd_,e8_,dg_,dc_,et_,di_,dm_,dn_,Nat.reduceAdd,Nat.reduceMul,Int.reduceNeg,Nat.reduceLeDiff,List.length_cons,List.length_nil,true_and,and_true,Nat.zero_add,eq_self,Nat.reduceEqDiff,Int.reduceAdd,Int.reduceSub,Int.reduceMul,not_true_eq_false,not_false_eq_true,Nat.reduceLT,Int.reduceToNat,Int.reduceEq,Int.reduceNe,Int.reduceLT,Int.reduceLE,or_true,or_false,and_self,and_false,false_and,false_implies,true_implies]
      refine ⟨fun c => ?_, fun c => ?_⟩
      · have hb2 : goesB g6_ A tn (i + 1) = true := by
          show (allN _ i && _) = true
          rw [show allN (fun d => decide (hd_ (g6_ A d) = tn d)) i = true from hb]
          simpa using c
        have step := ih (i + 1) (by omega) hb2
        simp only [g6_] at step
        refine w_Co_kingGoesAs_27 ?_
        simp (disch := omega) only [cm_,aq_,ay_,ag_,b8_,af_,ba_,bc_,bx_,bb_,cp_,bf_,b3_,bv_,bh_,b4_,am_,ae_,ac_,bq_,ed_,bs_,ao_,as_,a2_,az_,ar_,dw_,d6_,ea_,d3_,b5_,b1_,fh_,fu_,fp_,fz_,fq_,fk_,ft_,fs_,f0_,c5_,bt_,bd_,ct_,cx_,cr_,cz_,cf_,ch_,ci_,an_,cl_,dr_,cd_,a9_,a8_,a7_,ce_,fy_,fv_,cq_,Int.toNat_natCast,eh_,b9_,f3_,e1_,e4_,ex_,e5_,gd_,e8_,dg_,dc_,et_,di_,dm_,dn_,Nat.reduceAdd,Nat.reduceMul,Int.reduceNeg,Nat.reduceLeDiff,List.length_cons,List.length_nil,true_and,and_true,Nat.zero_add,eq_self,Nat.reduceEqDiff,Int.reduceAdd,Int.reduceSub,Int.reduceMul,not_true_eq_false,not_false_eq_true,Nat.reduceLT,Int.reduceToNat,Int.reduceEq,Int.reduceNe,Int.reduceLT,Int.reduceLE,or_true,or_false,and_self,and_false,false_and,false_implies,true_implies]
        refine conM_waits (q := 11) (by omega) (hG.dsX i) ?_
        simp (disch := omega) only [cm_,aq_,ay_,ag_,b8_,af_,ba_,bc_,bx_,bb_,cp_,bf_,b3_,bv_,bh_,b4_,am_,ae_,ac_,bq_,ed_,bs_,ao_,as_,a2_,az_,ar_,dw_,d6_,ea_,d3_,b5_,b1_,fh_,fu_,fp_,fz_,fq_,fk_,ft_,fs_,f0_,c5_,bt_,bd_,ct_,cx_,cr_,cz_,cf_,ch_,ci_,an_,cl_,dr_,cd_,a9_,a8_,a7_,ce_,fy_,fv_,cq_,Int.toNat_natCast,eh_,b9_,f3_,e1_,e4_,ex_,e5_,gd_,e8_,dg_,dc_,et_,di_,dm_,dn_,Nat.reduceAdd,Nat.reduceMul,Int.reduceNeg,Nat.reduceLeDiff,List.length_cons,List.length_nil,true_and,and_true,Nat.zero_add,eq_self,Nat.reduceEqDiff,Int.reduceAdd,Int.reduceSub,Int.reduceMul,not_true_eq_false,not_false_eq_true,Nat.reduceLT,Int.reduceToNat,Int.reduceEq,Int.reduceNe,Int.reduceLT,Int.reduceLE,or_true,or_false,and_self,and_false,false_and,false_implies,true_implies]
        exact step
      · have hb2 : goesB g6_ A tn tsz.toNat = false := allN_f (i := i) (by simpa using c) (by omega)
        exact h0 hb2 _ (hG.dsX i)
  exact loop tsz.toNat 0 (Nat.zero_add _) rfl
theorem con_CwhoFits (hA : GR A) (hG : GR (rs 0)) (hT : GT tn tsz) (hQ : ∀ B, GR B → Q (some (.int (zI (mask (boreP g6_ (rs 0) tn tsz.toNat) 8 : Nat)))) (HX (upR rs 11 B) pi psz lt lsz tn tsz g1 g2 sd rf im hM)) : Con M_Co_whoFits [.ref 85, .ref 0, .ref 83] (HX (upR rs 11 A) pi psz lt lsz tn tsz g1 g2 sd rf im hM) Q := by
  have gm := hG.men
  have gn := hG.nM
  refine g8_ (L := [some (.ref 85), some (.ref 0), some (.ref 83), none, none]) ok_Co_whoFits (Nat.le_of_ble_eq_true rfl) rfl ?_
  refine w_Co_whoFits_0 ?_
  simp (disch := omega) only [cm_,aq_,ay_,ag_,b8_,af_,ba_,bc_,bx_,bb_,cp_,bf_,b3_,bv_,bh_,b4_,am_,ae_,ac_,bq_,ed_,bs_,ao_,as_,a2_,az_,ar_,dw_,d6_,ea_,d3_,b5_,b1_,fh_,fu_,fp_,fz_,fq_,fk_,ft_,fs_,f0_,c5_,bt_,bd_,ct_,cx_,cr_,cz_,cf_,ch_,ci_,an_,cl_,dr_,cd_,a9_,a8_,a7_,ce_,fy_,fv_,cq_,Int.toNat_natCast,eh_,b9_,f3_,e1_,e4_,ex_,e5_,gd_,e8_,dg_,dc_,et_,di_,dm_,dn_,Nat.reduceAdd,Nat.reduceMul,Int.reduceNeg,Nat.reduceLeDiff,List.length_cons,List.length_nil,true_and,and_true,Nat.zero_add,eq_self,Nat.reduceEqDiff,Int.reduceAdd,Int.reduceSub,Int.reduceMul,not_true_eq_false,not_false_eq_true,Nat.reduceLT,Int.reduceToNat,Int.reduceEq,Int.reduceNe,Int.reduceLT,Int.reduceLE,or_true,or_false,and_self,and_false,false_and,false_implies,true_implies]
  have loop : ∀ k i : Nat, i + k = 8 → ∀ B, GR B → J M_Co_whoFits 5 [some (.ref 85), some (.ref 0), some (.ref 83), some (.int (zI (mask (boreP g6_ (rs 0) tn tsz.toNat) i : Nat))), some (.int (zI i))] [] (HX (upR rs 11 B) pi psz lt lsz tn tsz g1 g2 sd rf im hM) Q := by
    intro k
    induction k with
    | zero =>
      intro i hi B hB
      have e : i = 8 := by omega
      subst e
      refine w_Co_whoFits_5 ?_
      simp (disch := omega) only [cm_,aq_,ay_,ag_,b8_,af_,ba_,bc_,bx_,bb_,cp_,bf_,b3_,bv_,bh_,b4_,am_,ae_,ac_,bq_,ed_,bs_,ao_,as_,a2_,az_,ar_,dw_,d6_,ea_,d3_,b5_,b1_,fh_,fu_,fp_,fz_,fq_,fk_,ft_,fs_,f0_,c5_,bt_,bd_,ct_,cx_,cr_,cz_,cf_,ch_,ci_,an_,cl_,dr_,cd_,a9_,a8_,a7_,ce_,fy_,fv_,cq_,Int.toNat_natCast,eh_,b9_,f3_,e1_,e4_,ex_,e5_,gd_,e8_,dg_,dc_,et_,di_,dm_,dn_,Nat.reduceAdd,Nat.reduceMul,Int.reduceNeg,Nat.reduceLeDiff,List.length_cons,List.length_nil,true_and,and_true,Nat.zero_add,eq_self,Nat.reduceEqDiff,Int.reduceAdd,Int.reduceSub,Int.reduceMul,not_true_eq_false,not_false_eq_true,Nat.reduceLT,Int.reduceToNat,Int.reduceEq,Int.reduceNe,Int.reduceLT,Int.reduceLE,or_true,or_false,and_self,and_false,false_and,false_implies,true_implies]
      repeat' (first | with_reducible refine And.intro ?_ ?_ | with_reducible intro _ | ((first | with_reducible refine w_Co_whoFits_54 ?_ | with_reducible refine w_Co_whoFits_60 ?_); simp (disch := omega) only [cm_,aq_,ay_,ag_,b8_,af_,ba_,bc_,bx_,bb_,cp_,bf_,b3_,bv_,bh_,b4_,am_,ae_,ac_,bq_,ed_,bs_,ao_,as_,a2_,az_,ar_,dw_,d6_,ea_,d3_,b5_,b1_,fh_,fu_,fp_,fz_,fq_,fk_,ft_,fs_,f0_,c5_,bt_,bd_,ct_,cx_,cr_,cz_,cf_,ch_,ci_,an_,cl_,dr_,cd_,a9_,a8_,a7_,ce_,fy_,fv_,cq_,Int.toNat_natCast,eh_,b9_,f3_,e1_,e4_,ex_,e5_,gd_,e8_,dg_,dc_,et_,di_,dm_,dn_,Nat.reduceAdd,Nat.reduceMul,Int.reduceNeg,Nat.reduceLeDiff,List.length_cons,List.length_nil,true_and,and_true,Nat.zero_add,eq_self,Nat.reduceEqDiff,Int.reduceAdd,Int.reduceSub,Int.reduceMul,not_true_eq_false,not_false_eq_true,Nat.reduceLT,Int.reduceToNat,Int.reduceEq,Int.reduceNe,Int.reduceLT,Int.reduceLE,or_true,or_false,and_self,and_false,false_and,false_implies,true_implies]))
      all_goals first | omega | exact hQ B hB
    | succ k ih =>
      intro i hi B hB
      have hf := hG.fa i
      have step := ih (i + 1) (by omega)
      refine w_Co_whoFits_5 ?_
      simp (disch := omega) only [cm_,aq_,ay_,ag_,b8_,af_,ba_,bc_,bx_,bb_,cp_,bf_,b3_,bv_,bh_,b4_,am_,ae_,ac_,bq_,ed_,bs_,ao_,as_,a2_,az_,ar_,dw_,d6_,ea_,d3_,b5_,b1_,fh_,fu_,fp_,fz_,fq_,fk_,ft_,fs_,f0_,c5_,bt_,bd_,ct_,cx_,cr_,cz_,cf_,ch_,ci_,an_,cl_,dr_,cd_,a9_,a8_,a7_,ce_,fy_,fv_,cq_,Int.toNat_natCast,eh_,b9_,f3_,e1_,e4_,ex_,e5_,gd_,e8_,dg_,dc_,et_,di_,dm_,dn_,Nat.reduceAdd,Nat.reduceMul,Int.reduceNeg,Nat.reduceLeDiff,List.length_cons,List.length_nil,true_and,and_true,Nat.zero_add,eq_self,Nat.reduceEqDiff,Int.reduceAdd,Int.reduceSub,Int.reduceMul,not_true_eq_false,not_false_eq_true,Nat.reduceLT,Int.reduceToNat,Int.reduceEq,Int.reduceNe,Int.reduceLT,Int.reduceLE,or_true,or_false,and_self,and_false,false_and,false_implies,true_implies]
      refine ⟨fun _ => by omega, fun _ => ?_⟩
      refine conMN_fateOf (q := 11) (by omega) (by unfold inI; omega) hG (fun c1 => ?_) (fun c1 => ?_)
      · simp (disch := omega) only [cm_,aq_,ay_,ag_,b8_,af_,ba_,bc_,bx_,bb_,cp_,bf_,b3_,bv_,bh_,b4_,am_,ae_,ac_,bq_,ed_,bs_,ao_,as_,a2_,az_,ar_,dw_,d6_,ea_,d3_,b5_,b1_,fh_,fu_,fp_,fz_,fq_,fk_,ft_,fs_,f0_,c5_,bt_,bd_,ct_,cx_,cr_,cz_,cf_,ch_,ci_,an_,cl_,dr_,cd_,a9_,a8_,a7_,ce_,fy_,fv_,cq_,Int.toNat_natCast,eh_,b9_,f3_,e1_,e4_,ex_,e5_,gd_,e8_,dg_,dc_,et_,di_,dm_,dn_,Nat.reduceAdd,Nat.reduceMul,Int.reduceNeg,Nat.reduceLeDiff,List.length_cons,List.length_nil,true_and,and_true,Nat.zero_add,eq_self,Nat.reduceEqDiff,Int.reduceAdd,Int.reduceSub,Int.reduceMul,not_true_eq_false,not_false_eq_true,Nat.reduceLT,Int.reduceToNat,Int.reduceEq,Int.reduceNe,Int.reduceLT,Int.reduceLE,or_true,or_false,and_self,and_false,false_and,false_implies,true_implies]
        refine ⟨fun c2 => ?_, fun c2 => ?_⟩
        · rw [mask_f (by simp [boreP, show ¬ rFa (rs 0) i = 0 from c2])] at step
          refine w_Co_whoFits_54 ?_
          simp (disch := omega) only [cm_,aq_,ay_,ag_,b8_,af_,ba_,bc_,bx_,bb_,cp_,bf_,b3_,bv_,bh_,b4_,am_,ae_,ac_,bq_,ed_,bs_,ao_,as_,a2_,az_,ar_,dw_,d6_,ea_,d3_,b5_,b1_,fh_,fu_,fp_,fz_,fq_,fk_,ft_,fs_,f0_,c5_,bt_,bd_,ct_,cx_,cr_,cz_,cf_,ch_,ci_,an_,cl_,dr_,cd_,a9_,a8_,a7_,ce_,fy_,fv_,cq_,Int.toNat_natCast,eh_,b9_,f3_,e1_,e4_,ex_,e5_,gd_,e8_,dg_,dc_,et_,di_,dm_,dn_,Nat.reduceAdd,Nat.reduceMul,Int.reduceNeg,Nat.reduceLeDiff,List.length_cons,List.length_nil,true_and,and_true,Nat.zero_add,eq_self,Nat.reduceEqDiff,Int.reduceAdd,Int.reduceSub,Int.reduceMul,not_true_eq_false,not_false_eq_true,Nat.reduceLT,Int.reduceToNat,Int.reduceEq,Int.reduceNe,Int.reduceLT,Int.reduceLE,or_true,or_false,and_self,and_false,false_and,false_implies,true_implies]
          exact step B hB
        · have hc : i < hb_ (rs 0) ∧ rFa (rs 0) i = 0 := ⟨by omega, by omega⟩
          have hG2 := hG.setFa i (x := 1) (by omega)
          refine conM_become (q := 11) (by omega) ?_
          simp (disch := omega) only [cm_,aq_,ay_,ag_,b8_,af_,ba_,bc_,bx_,bb_,cp_,bf_,b3_,bv_,bh_,b4_,am_,ae_,ac_,bq_,ed_,bs_,ao_,as_,a2_,az_,ar_,dw_,d6_,ea_,d3_,b5_,b1_,fh_,fu_,fp_,fz_,fq_,fk_,ft_,fs_,f0_,c5_,bt_,bd_,ct_,cx_,cr_,cz_,cf_,ch_,ci_,an_,cl_,dr_,cd_,a9_,a8_,a7_,ce_,fy_,fv_,cq_,Int.toNat_natCast,eh_,b9_,f3_,e1_,e4_,ex_,e5_,gd_,e8_,dg_,dc_,et_,di_,dm_,dn_,Nat.reduceAdd,Nat.reduceMul,Int.reduceNeg,Nat.reduceLeDiff,List.length_cons,List.length_nil,true_and,and_true,Nat.zero_add,eq_self,Nat.reduceEqDiff,Int.reduceAdd,Int.reduceSub,Int.reduceMul,not_true_eq_false,not_false_eq_true,Nat.reduceLT,Int.reduceToNat,Int.reduceEq,Int.reduceNe,Int.reduceLT,Int.reduceLE,or_true,or_false,and_self,and_false,false_and,false_implies,true_implies]
          refine conM_makeFate (q := 11) (by omega) (by unfold inI; omega) hG (fun _ => ?_) (fun q => absurd c1 q)
          simp (disch := omega) only [cm_,aq_,ay_,ag_,b8_,af_,ba_,bc_,bx_,bb_,cp_,bf_,b3_,bv_,bh_,b4_,am_,ae_,ac_,bq_,ed_,bs_,ao_,as_,a2_,az_,ar_,dw_,d6_,ea_,d3_,b5_,b1_,fh_,fu_,fp_,fz_,fq_,fk_,ft_,fs_,f0_,c5_,bt_,bd_,ct_,cx_,cr_,cz_,cf_,ch_,ci_,an_,cl_,dr_,cd_,a9_,a8_,a7_,ce_,fy_,fv_,cq_,Int.toNat_natCast,eh_,b9_,f3_,e1_,e4_,ex_,e5_,gd_,e8_,dg_,dc_,et_,di_,dm_,dn_,Nat.reduceAdd,Nat.reduceMul,Int.reduceNeg,Nat.reduceLeDiff,List.length_cons,List.length_nil,true_and,and_true,Nat.zero_add,eq_self,Nat.reduceEqDiff,Int.reduceAdd,Int.reduceSub,Int.reduceMul,not_true_eq_false,not_false_eq_true,Nat.reduceLT,Int.reduceToNat,Int.reduceEq,Int.reduceNe,Int.reduceLT,Int.reduceLE,or_true,or_false,and_self,and_false,false_and,false_implies,true_implies]
          refine con_CkingGoesAs hG2 hT (fun c3 C hC => ?_) (fun c3 C hC => ?_)
          · have c3 : goesB g6_ (sFa (rs 0) (upI (rFa (rs 0)) i 1)) tn tsz.toNat = true := c3
            rw [mask_t (by simp [boreP, hc, c3])] at step
            simp (disch := omega) only [cm_,aq_,ay_,ag_,b8_,af_,ba_,bc_,bx_,bb_,cp_,bf_,b3_,bv_,bh_,b4_,am_,ae_,ac_,bq_,ed_,bs_,ao_,as_,a2_,az_,ar_,dw_,d6_,ea_,d3_,b5_,b1_,fh_,fu_,fp_,fz_,fq_,fk_,ft_,fs_,f0_,c5_,bt_,bd_,ct_,cx_,cr_,cz_,cf_,ch_,ci_,an_,cl_,dr_,cd_,a9_,a8_,a7_,ce_,fy_,fv_,cq_,Int.toNat_natCast,eh_,b9_,f3_,e1_,e4_,ex_,e5_,gd_,e8_,dg_,dc_,et_,di_,dm_,dn_,Nat.reduceAdd,Nat.reduceMul,Int.reduceNeg,Nat.reduceLeDiff,List.length_cons,List.length_nil,true_and,and_true,Nat.zero_add,eq_self,Nat.reduceEqDiff,Int.reduceAdd,Int.reduceSub,Int.reduceMul,not_true_eq_false,not_false_eq_true,Nat.reduceLT,Int.reduceToNat,Int.reduceEq,Int.reduceNe,Int.reduceLT,Int.reduceLE,or_true,or_false,and_self,and_false,false_and,false_implies,true_implies]
            refine w_Co_whoFits_54 ?_
            simp (disch := omega) only [cm_,aq_,ay_,ag_,b8_,af_,ba_,bc_,bx_,bb_,cp_,bf_,b3_,bv_,bh_,b4_,am_,ae_,ac_,bq_,ed_,bs_,ao_,as_,a2_,az_,ar_,dw_,d6_,ea_,d3_,b5_,b1_,fh_,fu_,fp_,fz_,fq_,fk_,ft_,fs_,f0_,c5_,bt_,bd_,ct_,cx_,cr_,cz_,cf_,ch_,ci_,an_,cl_,dr_,cd_,a9_,a8_,a7_,ce_,fy_,fv_,cq_,Int.toNat_natCast,eh_,b9_,f3_,e1_,e4_,ex_,e5_,gd_,e8_,dg_,dc_,et_,di_,dm_,dn_,Nat.reduceAdd,Nat.reduceMul,Int.reduceNeg,Nat.reduceLeDiff,List.length_cons,List.length_nil,true_and,and_true,Nat.zero_add,eq_self,Nat.reduceEqDiff,Int.reduceAdd,Int.reduceSub,Int.reduceMul,not_true_eq_false,not_false_eq_true,Nat.reduceLT,Int.reduceToNat,Int.reduceEq,Int.reduceNe,Int.reduceLT,Int.reduceLE,or_true,or_false,and_self,and_false,false_and,false_implies,true_implies]
            exact step C hC
          · have c3 : goesB g6_ (sFa (rs 0) (upI (rFa (rs 0)) i 1)) tn tsz.toNat = false := c3
            rw [mask_f (by simp [boreP, c3])] at step
            simp (disch := omega) only [cm_,aq_,ay_,ag_,b8_,af_,ba_,bc_,bx_,bb_,cp_,bf_,b3_,bv_,bh_,b4_,am_,ae_,ac_,bq_,ed_,bs_,ao_,as_,a2_,az_,ar_,dw_,d6_,ea_,d3_,b5_,b1_,fh_,fu_,fp_,fz_,fq_,fk_,ft_,fs_,f0_,c5_,bt_,bd_,ct_,cx_,cr_,cz_,cf_,ch_,ci_,an_,cl_,dr_,cd_,a9_,a8_,a7_,ce_,fy_,fv_,cq_,Int.toNat_natCast,eh_,b9_,f3_,e1_,e4_,ex_,e5_,gd_,e8_,dg_,dc_,et_,di_,dm_,dn_,Nat.reduceAdd,Nat.reduceMul,Int.reduceNeg,Nat.reduceLeDiff,List.length_cons,List.length_nil,true_and,and_true,Nat.zero_add,eq_self,Nat.reduceEqDiff,Int.reduceAdd,Int.reduceSub,Int.reduceMul,not_true_eq_false,not_false_eq_true,Nat.reduceLT,Int.reduceToNat,Int.reduceEq,Int.reduceNe,Int.reduceLT,Int.reduceLE,or_true,or_false,and_self,and_false,false_and,false_implies,true_implies]
            refine w_Co_whoFits_54 ?_
            simp (disch := omega) only [cm_,aq_,ay_,ag_,b8_,af_,ba_,bc_,bx_,bb_,cp_,bf_,b3_,bv_,bh_,b4_,am_,ae_,ac_,bq_,ed_,bs_,ao_,as_,a2_,az_,ar_,dw_,d6_,ea_,d3_,b5_,b1_,fh_,fu_,fp_,fz_,fq_,fk_,ft_,fs_,f0_,c5_,bt_,bd_,ct_,cx_,cr_,cz_,cf_,ch_,ci_,an_,cl_,dr_,cd_,a9_,a8_,a7_,ce_,fy_,fv_,cq_,Int.toNat_natCast,eh_,b9_,f3_,e1_,e4_,ex_,e5_,gd_,e8_,dg_,dc_,et_,di_,dm_,dn_,Nat.reduceAdd,Nat.reduceMul,Int.reduceNeg,Nat.reduceLeDiff,List.length_cons,List.length_nil,true_and,and_true,Nat.zero_add,eq_self,Nat.reduceEqDiff,Int.reduceAdd,Int.reduceSub,Int.reduceMul,not_true_eq_false,not_false_eq_true,Nat.reduceLT,Int.reduceToNat,Int.reduceEq,Int.reduceNe,Int.reduceLT,Int.reduceLE,or_true,or_false,and_self,and_false,false_and,false_implies,true_implies]
            exact step C hC
      · have c1 : ¬ i < hb_ (rs 0) := fun q => c1 ⟨by omega, by omega⟩
        rw [mask_f (by simp only [boreP]; rw [decide_eq_false (fun q => c1 q.1)]; rfl)] at step
        simp (disch := omega) only [cm_,aq_,ay_,ag_,b8_,af_,ba_,bc_,bx_,bb_,cp_,bf_,b3_,bv_,bh_,b4_,am_,ae_,ac_,bq_,ed_,bs_,ao_,as_,a2_,az_,ar_,dw_,d6_,ea_,d3_,b5_,b1_,fh_,fu_,fp_,fz_,fq_,fk_,ft_,fs_,f0_,c5_,bt_,bd_,ct_,cx_,cr_,cz_,cf_,ch_,ci_,an_,cl_,dr_,cd_,a9_,a8_,a7_,ce_,fy_,fv_,cq_,Int.toNat_natCast,eh_,b9_,f3_,e1_,e4_,ex_,e5_,gd_,e8_,dg_,dc_,et_,di_,dm_,dn_,Nat.reduceAdd,Nat.reduceMul,Int.reduceNeg,Nat.reduceLeDiff,List.length_cons,List.length_nil,true_and,and_true,Nat.zero_add,eq_self,Nat.reduceEqDiff,Int.reduceAdd,Int.reduceSub,Int.reduceMul,not_true_eq_false,not_false_eq_true,Nat.reduceLT,Int.reduceToNat,Int.reduceEq,Int.reduceNe,Int.reduceLT,Int.reduceLE,or_true,or_false,and_self,and_false,false_and,false_implies,true_implies]
        refine w_Co_whoFits_54 ?_
        simp (disch := omega) only [cm_,aq_,ay_,ag_,b8_,af_,ba_,bc_,bx_,bb_,cp_,bf_,b3_,bv_,bh_,b4_,am_,ae_,ac_,bq_,ed_,bs_,ao_,as_,a2_,az_,ar_,dw_,d6_,ea_,d3_,b5_,b1_,fh_,fu_,fp_,fz_,fq_,fk_,ft_,fs_,f0_,c5_,bt_,bd_,ct_,cx_,cr_,cz_,cf_,ch_,ci_,an_,cl_,dr_,cd_,a9_,a8_,a7_,ce_,fy_,fv_,cq_,Int.toNat_natCast,eh_,b9_,f3_,e1_,e4_,ex_,e5_,gd_,e8_,dg_,dc_,et_,di_,dm_,dn_,Nat.reduceAdd,Nat.reduceMul,Int.reduceNeg,Nat.reduceLeDiff,List.length_cons,List.length_nil,true_and,and_true,Nat.zero_add,eq_self,Nat.reduceEqDiff,Int.reduceAdd,Int.reduceSub,Int.reduceMul,not_true_eq_false,not_false_eq_true,Nat.reduceLT,Int.reduceToNat,Int.reduceEq,Int.reduceNe,Int.reduceLT,Int.reduceLE,or_true,or_false,and_self,and_false,false_and,false_implies,true_implies]
        exact step B hB
  exact loop 8 0 rfl A hA
/-- of what kind one is: the answers aren't told here, only that there is one -/
theorem con_CisWornAs {m : Int} (hm : g7_ A m) (hG : GR A) (hT : GT tn tsz) (hQ : ∀ v, (v = 0 ∨ v = 1) → ∀ B, GR B → Q (some (.int (zI v))) (HX (upR rs 11 B) pi psz lt lsz tn tsz g1 g2 sd rf im hM)) : Con M_Co_isWornAs [.ref 85, .ref 83, .int (zI m)] (HX (upR rs 11 A) pi psz lt lsz tn tsz g1 g2 sd rf im hM) Q := by
  have gm := hG.men
  have gt := hT.1
  have hmen : ∀ d, rMen (g6_ A d) = rMen A := daysX_men A
  refine g8_ (L := [some (.ref 85), some (.ref 83), some (.int (zI m)), none]) ok_Co_isWornAs (Nat.le_of_ble_eq_true rfl) rfl ?_
  refine w_Co_isWornAs_0 ?_
  simp (disch := omega) only [cm_,aq_,ay_,ag_,b8_,af_,ba_,bc_,bx_,bb_,cp_,bf_,b3_,bv_,bh_,b4_,am_,ae_,ac_,bq_,ed_,bs_,ao_,as_,a2_,az_,ar_,dw_,d6_,ea_,d3_,b5_,b1_,fh_,fu_,fp_,fz_,fq_,fk_,ft_,fs_,f0_,c5_,bt_,bd_,ct_,cx_,cr_,cz_,cf_,ch_,ci_,an_,cl_,dr_,cd_,a9_,a8_,a7_,ce_,fy_,fv_,cq_,Int.toNat_natCast,eh_,b9_,f3_,e1_,e4_,ex_,e5_,gd_,e8_,dg_,dc_,et_,di_,dm_,dn_,Nat.reduceAdd,Nat.reduceMul,Int.reduceNeg,Nat.reduceLeDiff,List.length_cons,List.length_nil,true_and,and_true,Nat.zero_add,eq_self,Nat.reduceEqDiff,Int.reduceAdd,Int.reduceSub,Int.reduceMul,not_true_eq_false,not_false_eq_true,Nat.reduceLT,Int.reduceToNat,Int.reduceEq,Int.reduceNe,Int.reduceLT,Int.reduceLE,or_true,or_false,and_self,and_false,false_and,false_implies,true_implies]
  have loop : ∀ n i : Nat, i + n = tsz.toNat → J M_Co_isWornAs 2 [some (.ref 85), some (.ref 83), some (.int (zI m)), some (.int (zI i))] [] (HX (upR rs 11 (g6_ A i)) pi psz lt lsz tn tsz g1 g2 sd rf im hM) Q := by
    intro n
    induction n with
    | zero =>
      intro i hi
      have e : i = tsz.toNat := by omega
      subst e
      refine w_Co_isWornAs_2 ?_
      simp (disch := omega) only [cm_,aq_,ay_,ag_,b8_,af_,ba_,bc_,bx_,bb_,cp_,bf_,b3_,bv_,bh_,b4_,am_,ae_,ac_,bq_,ed_,bs_,ao_,as_,a2_,az_,ar_,dw_,d6_,ea_,d3_,b5_,b1_,fh_,fu_,fp_,fz_,fq_,fk_,ft_,fs_,f0_,c5_,bt_,bd_,ct_,cx_,cr_,cz_,cf_,ch_,ci_,an_,cl_,dr_,cd_,a9_,a8_,a7_,ce_,fy_,fv_,cq_,Int.toNat_natCast,eh_,b9_,f3_,e1_,e4_,ex_,e5_,gd_,e8_,dg_,dc_,et_,di_,dm_,dn_,Nat.reduceAdd,Nat.reduceMul,Int.reduceNeg,Nat.reduceLeDiff,List.length_cons,List.length_nil,true_and,and_true,Nat.zero_add,eq_self,Nat.reduceEqDiff,Int.reduceAdd,Int.reduceSub,Int.reduceMul,not_true_eq_false,not_false_eq_true,Nat.reduceLT,Int.reduceToNat,Int.reduceEq,Int.reduceNe,Int.reduceLT,Int.reduceLE,or_true,or_false,and_self,and_false,false_and,false_implies,true_implies]
      repeat' (first | with_reducible refine And.intro ?_ ?_ | with_reducible intro _ | ((first | with_reducible refine w_Co_isWornAs_28 ?_ | with_reducible refine w_Co_isWornAs_42 ?_); simp (disch := omega) only [cm_,aq_,ay_,ag_,b8_,af_,ba_,bc_,bx_,bb_,cp_,bf_,b3_,bv_,bh_,b4_,am_,ae_,ac_,bq_,ed_,bs_,ao_,as_,a2_,az_,ar_,dw_,d6_,ea_,d3_,b5_,b1_,fh_,fu_,fp_,fz_,fq_,fk_,ft_,fs_,f0_,c5_,bt_,bd_,ct_,cx_,cr_,cz_,cf_,ch_,ci_,an_,cl_,dr_,cd_,a9_,a8_,a7_,ce_,fy_,fv_,cq_,Int.toNat_natCast,eh_,b9_,f3_,e1_,e4_,ex_,e5_,gd_,e8_,dg_,dc_,et_,di_,dm_,dn_,Nat.reduceAdd,Nat.reduceMul,Int.reduceNeg,Nat.reduceLeDiff,List.length_cons,List.length_nil,true_and,and_true,Nat.zero_add,eq_self,Nat.reduceEqDiff,Int.reduceAdd,Int.reduceSub,Int.reduceMul,not_true_eq_false,not_false_eq_true,Nat.reduceLT,Int.reduceToNat,Int.reduceEq,Int.reduceNe,Int.reduceLT,Int.reduceLE,or_true,or_false,and_self,and_false,false_and,false_implies,true_implies]))
      all_goals first | omega | exact hQ 1 (by omega) _ (hG.dsX _)
    | succ n ih =>
      intro i hi
      have step := ih (i + 1) (by omega)
      have gk := (hG.dsX i).wo m.toNat
      have gv := hT.2 i
      have hp : g7_ (g6_ A i) m := ⟨hm.1, by rw [hmen]; exact hm.2⟩
      simp only [g6_] at step
      refine w_Co_isWornAs_2 ?_
      simp (disch := omega) only [cm_,aq_,ay_,ag_,b8_,af_,ba_,bc_,bx_,bb_,cp_,bf_,b3_,bv_,bh_,b4_,am_,ae_,ac_,bq_,ed_,bs_,ao_,as_,a2_,az_,ar_,dw_,d6_,ea_,d3_,b5_,b1_,fh_,fu_,fp_,fz_,fq_,fk_,ft_,fs_,f0_,c5_,bt_,bd_,ct_,cx_,cr_,cz_,cf_,ch_,ci_,an_,cl_,dr_,cd_,a9_,a8_,a7_,ce_,fy_,fv_,cq_,Int.toNat_natCast,eh_,b9_,f3_,e1_,e4_,ex_,e5_,gd_,e8_,dg_,dc_,et_,di_,dm_,dn_,Nat.reduceAdd,Nat.reduceMul,Int.reduceNeg,Nat.reduceLeDiff,List.length_cons,List.length_nil,true_and,and_true,Nat.zero_add,eq_self,Nat.reduceEqDiff,Int.reduceAdd,Int.reduceSub,Int.reduceMul,not_true_eq_false,not_false_eq_true,Nat.reduceLT,Int.reduceToNat,Int.reduceEq,Int.reduceNe,Int.reduceLT,Int.reduceLE,or_true,or_false,and_self,and_false,false_and,false_implies,true_implies]
      refine ⟨fun _ => by omega, fun _ => ?_⟩
      refine conM_wornOf (q := 11) (by omega) (by unfold inI; omega) (hG.dsX i) (fun _ => ?_) (fun q => absurd hp q)
      simp (disch := omega) only [cm_,aq_,ay_,ag_,b8_,af_,ba_,bc_,bx_,bb_,cp_,bf_,b3_,bv_,bh_,b4_,am_,ae_,ac_,bq_,ed_,bs_,ao_,as_,a2_,az_,ar_,dw_,d6_,ea_,d3_,b5_,b1_,fh_,fu_,fp_,fz_,fq_,fk_,ft_,fs_,f0_,c5_,bt_,bd_,ct_,cx_,cr_,cz_,cf_,ch_,ci_,an_,cl_,dr_,cd_,a9_,a8_,a7_,ce_,fy_,fv_,cq_,Int.toNat_natCast,eh_,b9_,f3_,e1_,e4_,ex_,e5_,gd_,e8_,dg_,dc_,et_,di_,dm_,dn_,Nat.reduceAdd,Nat.reduceMul,Int.reduceNeg,Nat.reduceLeDiff,List.length_cons,List.length_nil,true_and,and_true,Nat.zero_add,eq_self,Nat.reduceEqDiff,Int.reduceAdd,Int.reduceSub,Int.reduceMul,not_true_eq_false,not_false_eq_true,Nat.reduceLT,Int.reduceToNat,Int.reduceEq,Int.reduceNe,Int.reduceLT,Int.reduceLE,or_true,or_false,and_self,and_false,false_and,false_implies,true_implies]
      refine con_Tat (by omega) hT ?_
      simp (disch := omega) only [cm_,aq_,ay_,ag_,b8_,af_,ba_,bc_,bx_,bb_,cp_,bf_,b3_,bv_,bh_,b4_,am_,ae_,ac_,bq_,ed_,bs_,ao_,as_,a2_,az_,ar_,dw_,d6_,ea_,d3_,b5_,b1_,fh_,fu_,fp_,fz_,fq_,fk_,ft_,fs_,f0_,c5_,bt_,bd_,ct_,cx_,cr_,cz_,cf_,ch_,ci_,an_,cl_,dr_,cd_,a9_,a8_,a7_,ce_,fy_,fv_,cq_,Int.toNat_natCast,eh_,b9_,f3_,e1_,e4_,ex_,e5_,gd_,e8_,dg_,dc_,et_,di_,dm_,dn_,Nat.reduceAdd,Nat.reduceMul,Int.reduceNeg,Nat.reduceLeDiff,List.length_cons,List.length_nil,true_and,and_true,Nat.zero_add,eq_self,Nat.reduceEqDiff,Int.reduceAdd,Int.reduceSub,Int.reduceMul,not_true_eq_false,not_false_eq_true,Nat.reduceLT,Int.reduceToNat,Int.reduceEq,Int.reduceNe,Int.reduceLT,Int.reduceLE,or_true,or_false,and_self,and_false,false_and,false_implies,true_implies]
      refine ⟨fun c => ?_, fun c => ?_⟩
      · refine w_Co_isWornAs_28 ?_
        simp (disch := omega) only [cm_,aq_,ay_,ag_,b8_,af_,ba_,bc_,bx_,bb_,cp_,bf_,b3_,bv_,bh_,b4_,am_,ae_,ac_,bq_,ed_,bs_,ao_,as_,a2_,az_,ar_,dw_,d6_,ea_,d3_,b5_,b1_,fh_,fu_,fp_,fz_,fq_,fk_,ft_,fs_,f0_,c5_,bt_,bd_,ct_,cx_,cr_,cz_,cf_,ch_,ci_,an_,cl_,dr_,cd_,a9_,a8_,a7_,ce_,fy_,fv_,cq_,Int.toNat_natCast,eh_,b9_,f3_,e1_,e4_,ex_,e5_,gd_,e8_,dg_,dc_,et_,di_,dm_,dn_,Nat.reduceAdd,Nat.reduceMul,Int.reduceNeg,Nat.reduceLeDiff,List.length_cons,List.length_nil,true_and,and_true,Nat.zero_add,eq_self,Nat.reduceEqDiff,Int.reduceAdd,Int.reduceSub,Int.reduceMul,not_true_eq_false,not_false_eq_true,Nat.reduceLT,Int.reduceToNat,Int.reduceEq,Int.reduceNe,Int.reduceLT,Int.reduceLE,or_true,or_false,and_self,and_false,false_and,false_implies,true_implies]
        refine conM_waits (q := 11) (by omega) (hG.dsX i) ?_
        simp (disch := omega) only [cm_,aq_,ay_,ag_,b8_,af_,ba_,bc_,bx_,bb_,cp_,bf_,b3_,bv_,bh_,b4_,am_,ae_,ac_,bq_,ed_,bs_,ao_,as_,a2_,az_,ar_,dw_,d6_,ea_,d3_,b5_,b1_,fh_,fu_,fp_,fz_,fq_,fk_,ft_,fs_,f0_,c5_,bt_,bd_,ct_,cx_,cr_,cz_,cf_,ch_,ci_,an_,cl_,dr_,cd_,a9_,a8_,a7_,ce_,fy_,fv_,cq_,Int.toNat_natCast,eh_,b9_,f3_,e1_,e4_,ex_,e5_,gd_,e8_,dg_,dc_,et_,di_,dm_,dn_,Nat.reduceAdd,Nat.reduceMul,Int.reduceNeg,Nat.reduceLeDiff,List.length_cons,List.length_nil,true_and,and_true,Nat.zero_add,eq_self,Nat.reduceEqDiff,Int.reduceAdd,Int.reduceSub,Int.reduceMul,not_true_eq_false,not_false_eq_true,Nat.reduceLT,Int.reduceToNat,Int.reduceEq,Int.reduceNe,Int.reduceLT,Int.reduceLE,or_true,or_false,and_self,and_false,false_and,false_implies,true_implies]
        exact step
      · exact hQ 0 (by omega) _ (hG.dsX i)
  exact loop tsz.toNat 0 (Nat.zero_add _)
theorem con_CkindsThatFit {m : Int} (hm : g7_ (rs 0) m) (hA : GR A) (hG : GR (rs 0)) (hT : GT tn tsz) (hQ : ∀ v B, GR B → Q (some (.int (zI v))) (HX (upR rs 11 B) pi psz lt lsz tn tsz g1 g2 sd rf im hM)) : Con M_Co_kindsThatFit [.ref 85, .ref 0, .ref 83, .int (zI m)] (HX (upR rs 11 A) pi psz lt lsz tn tsz g1 g2 sd rf im hM) Q := by
  have gm := hG.men
  refine g8_ (L := [some (.ref 85), some (.ref 0), some (.ref 83), some (.int (zI m)), none, none]) ok_Co_kindsThatFit (Nat.le_of_ble_eq_true rfl) rfl ?_
  refine w_Co_kindsThatFit_0 ?_
  simp (disch := omega) only [cm_,aq_,ay_,ag_,b8_,af_,ba_,bc_,bx_,bb_,cp_,bf_,b3_,bv_,bh_,b4_,am_,ae_,ac_,bq_,ed_,bs_,ao_,as_,a2_,az_,ar_,dw_,d6_,ea_,d3_,b5_,b1_,fh_,fu_,fp_,fz_,fq_,fk_,ft_,fs_,f0_,c5_,bt_,bd_,ct_,cx_,cr_,cz_,cf_,ch_,ci_,an_,cl_,dr_,cd_,a9_,a8_,a7_,ce_,fy_,fv_,cq_,Int.toNat_natCast,eh_,b9_,f3_,e1_,e4_,ex_,e5_,gd_,e8_,dg_,dc_,et_,di_,dm_,dn_,Nat.reduceAdd,Nat.reduceMul,Int.reduceNeg,Nat.reduceLeDiff,List.length_cons,List.length_nil,true_and,and_true,Nat.zero_add,eq_self,Nat.reduceEqDiff,Int.reduceAdd,Int.reduceSub,Int.reduceMul,not_true_eq_false,not_false_eq_true,Nat.reduceLT,Int.reduceToNat,Int.reduceEq,Int.reduceNe,Int.reduceLT,Int.reduceLE,or_true,or_false,and_self,and_false,false_and,false_implies,true_implies]
  have loop : ∀ k i : Nat, i + k = 6 → ∀ (v : Nat) (B : RR), GR B → J M_Co_kindsThatFit 6 [some (.ref 85), some (.ref 0), some (.ref 83), some (.int (zI m)), some (.int (zI v)), some (.int (zI i))] [] (HX (upR rs 11 B) pi psz lt lsz tn tsz g1 g2 sd rf im hM) Q := by
    intro k
    induction k with
    | zero =>
      intro i hi v B hB
      have e : i = 6 := by omega
      subst e
      have e6 : ((6 : Nat) : Int) = 6 := rfl
      refine w_Co_kindsThatFit_6 ?_
      simp (disch := omega) only [cm_,aq_,ay_,ag_,b8_,af_,ba_,bc_,bx_,bb_,cp_,bf_,b3_,bv_,bh_,b4_,am_,ae_,ac_,bq_,ed_,bs_,ao_,as_,a2_,az_,ar_,dw_,d6_,ea_,d3_,b5_,b1_,fh_,fu_,fp_,fz_,fq_,fk_,ft_,fs_,f0_,c5_,bt_,bd_,ct_,cx_,cr_,cz_,cf_,ch_,ci_,an_,cl_,dr_,cd_,a9_,a8_,a7_,ce_,fy_,fv_,cq_,Int.toNat_natCast,eh_,b9_,f3_,e1_,e4_,ex_,e5_,gd_,e8_,dg_,dc_,et_,di_,dm_,dn_,Nat.reduceAdd,Nat.reduceMul,Int.reduceNeg,Nat.reduceLeDiff,List.length_cons,List.length_nil,true_and,and_true,Nat.zero_add,eq_self,Nat.reduceEqDiff,Int.reduceAdd,Int.reduceSub,Int.reduceMul,not_true_eq_false,not_false_eq_true,Nat.reduceLT,Int.reduceToNat,Int.reduceEq,Int.reduceNe,Int.reduceLT,Int.reduceLE,or_true,or_false,and_self,and_false,false_and,false_implies,true_implies,e6]
      repeat' (first | with_reducible refine And.intro ?_ ?_ | with_reducible intro _ | ((first | with_reducible refine w_Co_kindsThatFit_49 ?_ | with_reducible refine w_Co_kindsThatFit_55 ?_); simp (disch := omega) only [cm_,aq_,ay_,ag_,b8_,af_,ba_,bc_,bx_,bb_,cp_,bf_,b3_,bv_,bh_,b4_,am_,ae_,ac_,bq_,ed_,bs_,ao_,as_,a2_,az_,ar_,dw_,d6_,ea_,d3_,b5_,b1_,fh_,fu_,fp_,fz_,fq_,fk_,ft_,fs_,f0_,c5_,bt_,bd_,ct_,cx_,cr_,cz_,cf_,ch_,ci_,an_,cl_,dr_,cd_,a9_,a8_,a7_,ce_,fy_,fv_,cq_,Int.toNat_natCast,eh_,b9_,f3_,e1_,e4_,ex_,e5_,gd_,e8_,dg_,dc_,et_,di_,dm_,dn_,Nat.reduceAdd,Nat.reduceMul,Int.reduceNeg,Nat.reduceLeDiff,List.length_cons,List.length_nil,true_and,and_true,Nat.zero_add,eq_self,Nat.reduceEqDiff,Int.reduceAdd,Int.reduceSub,Int.reduceMul,not_true_eq_false,not_false_eq_true,Nat.reduceLT,Int.reduceToNat,Int.reduceEq,Int.reduceNe,Int.reduceLT,Int.reduceLE,or_true,or_false,and_self,and_false,false_and,false_implies,true_implies]))
      all_goals first | omega | exact hQ _ B hB
    | succ k ih =>
      intro i hi v B hB
      have step := ih (i + 1) (by omega)
      have hG2 := hG.setKi m.toNat (x := (i : Int)) (by omega)
      refine w_Co_kindsThatFit_6 ?_
      simp (disch := omega) only [cm_,aq_,ay_,ag_,b8_,af_,ba_,bc_,bx_,bb_,cp_,bf_,b3_,bv_,bh_,b4_,am_,ae_,ac_,bq_,ed_,bs_,ao_,as_,a2_,az_,ar_,dw_,d6_,ea_,d3_,b5_,b1_,fh_,fu_,fp_,fz_,fq_,fk_,ft_,fs_,f0_,c5_,bt_,bd_,ct_,cx_,cr_,cz_,cf_,ch_,ci_,an_,cl_,dr_,cd_,a9_,a8_,a7_,ce_,fy_,fv_,cq_,Int.toNat_natCast,eh_,b9_,f3_,e1_,e4_,ex_,e5_,gd_,e8_,dg_,dc_,et_,di_,dm_,dn_,Nat.reduceAdd,Nat.reduceMul,Int.reduceNeg,Nat.reduceLeDiff,List.length_cons,List.length_nil,true_and,and_true,Nat.zero_add,eq_self,Nat.reduceEqDiff,Int.reduceAdd,Int.reduceSub,Int.reduceMul,not_true_eq_false,not_false_eq_true,Nat.reduceLT,Int.reduceToNat,Int.reduceEq,Int.reduceNe,Int.reduceLT,Int.reduceLE,or_true,or_false,and_self,and_false,false_and,false_implies,true_implies]
      refine ⟨fun _ => by omega, fun _ => ?_⟩
      refine conM_become (q := 11) (by omega) ?_
      simp (disch := omega) only [cm_,aq_,ay_,ag_,b8_,af_,ba_,bc_,bx_,bb_,cp_,bf_,b3_,bv_,bh_,b4_,am_,ae_,ac_,bq_,ed_,bs_,ao_,as_,a2_,az_,ar_,dw_,d6_,ea_,d3_,b5_,b1_,fh_,fu_,fp_,fz_,fq_,fk_,ft_,fs_,f0_,c5_,bt_,bd_,ct_,cx_,cr_,cz_,cf_,ch_,ci_,an_,cl_,dr_,cd_,a9_,a8_,a7_,ce_,fy_,fv_,cq_,Int.toNat_natCast,eh_,b9_,f3_,e1_,e4_,ex_,e5_,gd_,e8_,dg_,dc_,et_,di_,dm_,dn_,Nat.reduceAdd,Nat.reduceMul,Int.reduceNeg,Nat.reduceLeDiff,List.length_cons,List.length_nil,true_and,and_true,Nat.zero_add,eq_self,Nat.reduceEqDiff,Int.reduceAdd,Int.reduceSub,Int.reduceMul,not_true_eq_false,not_false_eq_true,Nat.reduceLT,Int.reduceToNat,Int.reduceEq,Int.reduceNe,Int.reduceLT,Int.reduceLE,or_true,or_false,and_self,and_false,false_and,false_implies,true_implies]
      refine conM_makeKind (q := 11) (by omega) (by unfold inI; omega) hG (fun _ => ?_) (fun q => absurd hm q)
      simp (disch := omega) only [cm_,aq_,ay_,ag_,b8_,af_,ba_,bc_,bx_,bb_,cp_,bf_,b3_,bv_,bh_,b4_,am_,ae_,ac_,bq_,ed_,bs_,ao_,as_,a2_,az_,ar_,dw_,d6_,ea_,d3_,b5_,b1_,fh_,fu_,fp_,fz_,fq_,fk_,ft_,fs_,f0_,c5_,bt_,bd_,ct_,cx_,cr_,cz_,cf_,ch_,ci_,an_,cl_,dr_,cd_,a9_,a8_,a7_,ce_,fy_,fv_,cq_,Int.toNat_natCast,eh_,b9_,f3_,e1_,e4_,ex_,e5_,gd_,e8_,dg_,dc_,et_,di_,dm_,dn_,Nat.reduceAdd,Nat.reduceMul,Int.reduceNeg,Nat.reduceLeDiff,List.length_cons,List.length_nil,true_and,and_true,Nat.zero_add,eq_self,Nat.reduceEqDiff,Int.reduceAdd,Int.reduceSub,Int.reduceMul,not_true_eq_false,not_false_eq_true,Nat.reduceLT,Int.reduceToNat,Int.reduceEq,Int.reduceNe,Int.reduceLT,Int.reduceLE,or_true,or_false,and_self,and_false,false_and,false_implies,true_implies]
      refine con_CisWornAs hm hG2 hT (fun z hz C hC => ?_)
      simp (disch := omega) only [cm_,aq_,ay_,ag_,b8_,af_,ba_,bc_,bx_,bb_,cp_,bf_,b3_,bv_,bh_,b4_,am_,ae_,ac_,bq_,ed_,bs_,ao_,as_,a2_,az_,ar_,dw_,d6_,ea_,d3_,b5_,b1_,fh_,fu_,fp_,fz_,fq_,fk_,ft_,fs_,f0_,c5_,bt_,bd_,ct_,cx_,cr_,cz_,cf_,ch_,ci_,an_,cl_,dr_,cd_,a9_,a8_,a7_,ce_,fy_,fv_,cq_,Int.toNat_natCast,eh_,b9_,f3_,e1_,e4_,ex_,e5_,gd_,e8_,dg_,dc_,et_,di_,dm_,dn_,Nat.reduceAdd,Nat.reduceMul,Int.reduceNeg,Nat.reduceLeDiff,List.length_cons,List.length_nil,true_and,and_true,Nat.zero_add,eq_self,Nat.reduceEqDiff,Int.reduceAdd,Int.reduceSub,Int.reduceMul,not_true_eq_false,not_false_eq_true,Nat.reduceLT,Int.reduceToNat,Int.reduceEq,Int.reduceNe,Int.reduceLT,Int.reduceLE,or_true,or_false,and_self,and_false,false_and,false_implies,true_implies]
      repeat' (first | with_reducible refine And.intro ?_ ?_ | with_reducible intro _ | ((first | with_reducible refine w_Co_kindsThatFit_49 ?_ | with_reducible refine w_Co_kindsThatFit_55 ?_); simp (disch := omega) only [cm_,aq_,ay_,ag_,b8_,af_,ba_,bc_,bx_,bb_,cp_,bf_,b3_,bv_,bh_,b4_,am_,ae_,ac_,bq_,ed_,bs_,ao_,as_,a2_,az_,ar_,dw_,d6_,ea_,d3_,b5_,b1_,fh_,fu_,fp_,fz_,fq_,fk_,ft_,fs_,f0_,c5_,bt_,bd_,ct_,cx_,cr_,cz_,cf_,ch_,ci_,an_,cl_,dr_,cd_,a9_,a8_,a7_,ce_,fy_,fv_,cq_,Int.toNat_natCast,eh_,b9_,f3_,e1_,e4_,ex_,e5_,gd_,e8_,dg_,dc_,et_,di_,dm_,dn_,Nat.reduceAdd,Nat.reduceMul,Int.reduceNeg,Nat.reduceLeDiff,List.length_cons,List.length_nil,true_and,and_true,Nat.zero_add,eq_self,Nat.reduceEqDiff,Int.reduceAdd,Int.reduceSub,Int.reduceMul,not_true_eq_false,not_false_eq_true,Nat.reduceLT,Int.reduceToNat,Int.reduceEq,Int.reduceNe,Int.reduceLT,Int.reduceLE,or_true,or_false,and_self,and_false,false_and,false_implies,true_implies]))
      all_goals first | omega | exact step _ C hC
  exact loop 6 0 rfl 0 A hA
theorem con_CfiguresThatFit {m : Int} (hm : g7_ (rs 0) m) (hA : GR A) (hG : GR (rs 0)) (hT : GT tn tsz) (hQ : ∀ v B, GR B → Q (some (.int (zI v))) (HX (upR rs 11 B) pi psz lt lsz tn tsz g1 g2 sd rf im hM)) : Con M_Co_figuresThatFit [.ref 85, .ref 0, .ref 83, .int (zI m)] (HX (upR rs 11 A) pi psz lt lsz tn tsz g1 g2 sd rf im hM) Q := by
  have gm := hG.men
  refine g8_ (L := [some (.ref 85), some (.ref 0), some (.ref 83), some (.int (zI m)), none, none]) ok_Co_figuresThatFit (Nat.le_of_ble_eq_true rfl) rfl ?_
  refine w_Co_figuresThatFit_0 ?_
  simp (disch := omega) only [cm_,aq_,ay_,ag_,b8_,af_,ba_,bc_,bx_,bb_,cp_,bf_,b3_,bv_,bh_,b4_,am_,ae_,ac_,bq_,ed_,bs_,ao_,as_,a2_,az_,ar_,dw_,d6_,ea_,d3_,b5_,b1_,fh_,fu_,fp_,fz_,fq_,fk_,ft_,fs_,f0_,c5_,bt_,bd_,ct_,cx_,cr_,cz_,cf_,ch_,ci_,an_,cl_,dr_,cd_,a9_,a8_,a7_,ce_,fy_,fv_,cq_,Int.toNat_natCast,eh_,b9_,f3_,e1_,e4_,ex_,e5_,gd_,e8_,dg_,dc_,et_,di_,dm_,dn_,Nat.reduceAdd,Nat.reduceMul,Int.reduceNeg,Nat.reduceLeDiff,List.length_cons,List.length_nil,true_and,and_true,Nat.zero_add,eq_self,Nat.reduceEqDiff,Int.reduceAdd,Int.reduceSub,Int.reduceMul,not_true_eq_false,not_false_eq_true,Nat.reduceLT,Int.reduceToNat,Int.reduceEq,Int.reduceNe,Int.reduceLT,Int.reduceLE,or_true,or_false,and_self,and_false,false_and,false_implies,true_implies]
  have loop : ∀ k i : Nat, i + k = 10 → ∀ (v : Nat) (B : RR), GR B → J M_Co_figuresThatFit 6 [some (.ref 85), some (.ref 0), some (.ref 83), some (.int (zI m)), some (.int (zI v)), some (.int (zI i))] [] (HX (upR rs 11 B) pi psz lt lsz tn tsz g1 g2 sd rf im hM) Q := by
    intro k
    induction k with
    | zero =>
      intro i hi v B hB
      have e : i = 10 := by omega
      subst e
      have e10 : ((10 : Nat) : Int) = 10 := rfl
      refine w_Co_figuresThatFit_6 ?_
      simp (disch := omega) only [cm_,aq_,ay_,ag_,b8_,af_,ba_,bc_,bx_,bb_,cp_,bf_,b3_,bv_,bh_,b4_,am_,ae_,ac_,bq_,ed_,bs_,ao_,as_,a2_,az_,ar_,dw_,d6_,ea_,d3_,b5_,b1_,fh_,fu_,fp_,fz_,fq_,fk_,ft_,fs_,f0_,c5_,bt_,bd_,ct_,cx_,cr_,cz_,cf_,ch_,ci_,an_,cl_,dr_,cd_,a9_,a8_,a7_,ce_,fy_,fv_,cq_,Int.toNat_natCast,eh_,b9_,f3_,e1_,e4_,ex_,e5_,gd_,e8_,dg_,dc_,et_,di_,dm_,dn_,Nat.reduceAdd,Nat.reduceMul,Int.reduceNeg,Nat.reduceLeDiff,List.length_cons,List.length_nil,true_and,and_true,Nat.zero_add,eq_self,Nat.reduceEqDiff,Int.reduceAdd,Int.reduceSub,Int.reduceMul,not_true_eq_false,not_false_eq_true,Nat.reduceLT,Int.reduceToNat,Int.reduceEq,Int.reduceNe,Int.reduceLT,Int.reduceLE,or_true,or_false,and_self,and_false,false_and,false_implies,true_implies,e10]
      repeat' (first | with_reducible refine And.intro ?_ ?_ | with_reducible intro _ | ((first | with_reducible refine w_Co_figuresThatFit_49 ?_ | with_reducible refine w_Co_figuresThatFit_55 ?_); simp (disch := omega) only [cm_,aq_,ay_,ag_,b8_,af_,ba_,bc_,bx_,bb_,cp_,bf_,b3_,bv_,bh_,b4_,am_,ae_,ac_,bq_,ed_,bs_,ao_,as_,a2_,az_,ar_,dw_,d6_,ea_,d3_,b5_,b1_,fh_,fu_,fp_,fz_,fq_,fk_,ft_,fs_,f0_,c5_,bt_,bd_,ct_,cx_,cr_,cz_,cf_,ch_,ci_,an_,cl_,dr_,cd_,a9_,a8_,a7_,ce_,fy_,fv_,cq_,Int.toNat_natCast,eh_,b9_,f3_,e1_,e4_,ex_,e5_,gd_,e8_,dg_,dc_,et_,di_,dm_,dn_,Nat.reduceAdd,Nat.reduceMul,Int.reduceNeg,Nat.reduceLeDiff,List.length_cons,List.length_nil,true_and,and_true,Nat.zero_add,eq_self,Nat.reduceEqDiff,Int.reduceAdd,Int.reduceSub,Int.reduceMul,not_true_eq_false,not_false_eq_true,Nat.reduceLT,Int.reduceToNat,Int.reduceEq,Int.reduceNe,Int.reduceLT,Int.reduceLE,or_true,or_false,and_self,and_false,false_and,false_implies,true_implies]))
      all_goals first | omega | exact hQ _ B hB
    | succ k ih =>
      intro i hi v B hB
      have step := ih (i + 1) (by omega)
      have hG2 := hG.setFi m.toNat (x := (i : Int)) (by omega)
      refine w_Co_figuresThatFit_6 ?_
      simp (disch := omega) only [cm_,aq_,ay_,ag_,b8_,af_,ba_,bc_,bx_,bb_,cp_,bf_,b3_,bv_,bh_,b4_,am_,ae_,ac_,bq_,ed_,bs_,ao_,as_,a2_,az_,ar_,dw_,d6_,ea_,d3_,b5_,b1_,fh_,fu_,fp_,fz_,fq_,fk_,ft_,fs_,f0_,c5_,bt_,bd_,ct_,cx_,cr_,cz_,cf_,ch_,ci_,an_,cl_,dr_,cd_,a9_,a8_,a7_,ce_,fy_,fv_,cq_,Int.toNat_natCast,eh_,b9_,f3_,e1_,e4_,ex_,e5_,gd_,e8_,dg_,dc_,et_,di_,dm_,dn_,Nat.reduceAdd,Nat.reduceMul,Int.reduceNeg,Nat.reduceLeDiff,List.length_cons,List.length_nil,true_and,and_true,Nat.zero_add,eq_self,Nat.reduceEqDiff,Int.reduceAdd,Int.reduceSub,Int.reduceMul,not_true_eq_false,not_false_eq_true,Nat.reduceLT,Int.reduceToNat,Int.reduceEq,Int.reduceNe,Int.reduceLT,Int.reduceLE,or_true,or_false,and_self,and_false,false_and,false_implies,true_implies]
      refine ⟨fun _ => by omega, fun _ => ?_⟩
      refine conM_become (q := 11) (by omega) ?_
      simp (disch := omega) only [cm_,aq_,ay_,ag_,b8_,af_,ba_,bc_,bx_,bb_,cp_,bf_,b3_,bv_,bh_,b4_,am_,ae_,ac_,bq_,ed_,bs_,ao_,as_,a2_,az_,ar_,dw_,d6_,ea_,d3_,b5_,b1_,fh_,fu_,fp_,fz_,fq_,fk_,ft_,fs_,f0_,c5_,bt_,bd_,ct_,cx_,cr_,cz_,cf_,ch_,ci_,an_,cl_,dr_,cd_,a9_,a8_,a7_,ce_,fy_,fv_,cq_,Int.toNat_natCast,eh_,b9_,f3_,e1_,e4_,ex_,e5_,gd_,e8_,dg_,dc_,et_,di_,dm_,dn_,Nat.reduceAdd,Nat.reduceMul,Int.reduceNeg,Nat.reduceLeDiff,List.length_cons,List.length_nil,true_and,and_true,Nat.zero_add,eq_self,Nat.reduceEqDiff,Int.reduceAdd,Int.reduceSub,Int.reduceMul,not_true_eq_false,not_false_eq_true,Nat.reduceLT,Int.reduceToNat,Int.reduceEq,Int.reduceNe,Int.reduceLT,Int.reduceLE,or_true,or_false,and_self,and_false,false_and,false_implies,true_implies]
      refine conM_makeFigure (q := 11) (by omega) (by unfold inI; omega) hG (fun _ => ?_) (fun q => absurd hm q)
      simp (disch := omega) only [cm_,aq_,ay_,ag_,b8_,af_,ba_,bc_,bx_,bb_,cp_,bf_,b3_,bv_,bh_,b4_,am_,ae_,ac_,bq_,ed_,bs_,ao_,as_,a2_,az_,ar_,dw_,d6_,ea_,d3_,b5_,b1_,fh_,fu_,fp_,fz_,fq_,fk_,ft_,fs_,f0_,c5_,bt_,bd_,ct_,cx_,cr_,cz_,cf_,ch_,ci_,an_,cl_,dr_,cd_,a9_,a8_,a7_,ce_,fy_,fv_,cq_,Int.toNat_natCast,eh_,b9_,f3_,e1_,e4_,ex_,e5_,gd_,e8_,dg_,dc_,et_,di_,dm_,dn_,Nat.reduceAdd,Nat.reduceMul,Int.reduceNeg,Nat.reduceLeDiff,List.length_cons,List.length_nil,true_and,and_true,Nat.zero_add,eq_self,Nat.reduceEqDiff,Int.reduceAdd,Int.reduceSub,Int.reduceMul,not_true_eq_false,not_false_eq_true,Nat.reduceLT,Int.reduceToNat,Int.reduceEq,Int.reduceNe,Int.reduceLT,Int.reduceLE,or_true,or_false,and_self,and_false,false_and,false_implies,true_implies]
      refine con_CisWornAs hm hG2 hT (fun z hz C hC => ?_)
      simp (disch := omega) only [cm_,aq_,ay_,ag_,b8_,af_,ba_,bc_,bx_,bb_,cp_,bf_,b3_,bv_,bh_,b4_,am_,ae_,ac_,bq_,ed_,bs_,ao_,as_,a2_,az_,ar_,dw_,d6_,ea_,d3_,b5_,b1_,fh_,fu_,fp_,fz_,fq_,fk_,ft_,fs_,f0_,c5_,bt_,bd_,ct_,cx_,cr_,cz_,cf_,ch_,ci_,an_,cl_,dr_,cd_,a9_,a8_,a7_,ce_,fy_,fv_,cq_,Int.toNat_natCast,eh_,b9_,f3_,e1_,e4_,ex_,e5_,gd_,e8_,dg_,dc_,et_,di_,dm_,dn_,Nat.reduceAdd,Nat.reduceMul,Int.reduceNeg,Nat.reduceLeDiff,List.length_cons,List.length_nil,true_and,and_true,Nat.zero_add,eq_self,Nat.reduceEqDiff,Int.reduceAdd,Int.reduceSub,Int.reduceMul,not_true_eq_false,not_false_eq_true,Nat.reduceLT,Int.reduceToNat,Int.reduceEq,Int.reduceNe,Int.reduceLT,Int.reduceLE,or_true,or_false,and_self,and_false,false_and,false_implies,true_implies]
      repeat' (first | with_reducible refine And.intro ?_ ?_ | with_reducible intro _ | ((first | with_reducible refine w_Co_figuresThatFit_49 ?_ | with_reducible refine w_Co_figuresThatFit_55 ?_); simp (disch := omega) only [cm_,aq_,ay_,ag_,b8_,af_,ba_,bc_,bx_,bb_,cp_,bf_,b3_,bv_,bh_,b4_,am_,ae_,ac_,bq_,ed_,bs_,ao_,as_,a2_,az_,ar_,dw_,d6_,ea_,d3_,b5_,b1_,fh_,fu_,fp_,fz_,fq_,fk_,ft_,fs_,f0_,c5_,bt_,bd_,ct_,cx_,cr_,cz_,cf_,ch_,ci_,an_,cl_,dr_,cd_,a9_,a8_,a7_,ce_,fy_,fv_,cq_,Int.toNat_natCast,eh_,b9_,f3_,e1_,e4_,ex_,e5_,gd_,e8_,dg_,dc_,et_,di_,dm_,dn_,Nat.reduceAdd,Nat.reduceMul,Int.reduceNeg,Nat.reduceLeDiff,List.length_cons,List.length_nil,true_and,and_true,Nat.zero_add,eq_self,Nat.reduceEqDiff,Int.reduceAdd,Int.reduceSub,Int.reduceMul,not_true_eq_false,not_false_eq_true,Nat.reduceLT,Int.reduceToNat,Int.reduceEq,Int.reduceNe,Int.reduceLT,Int.reduceLE,or_true,or_false,and_self,and_false,false_and,false_implies,true_implies]))
      all_goals first | omega | exact step _ C hC
  exact loop 10 0 rfl 0 A hA
theorem GR.tw {R : RR} (h : GR R) (o t p : Nat) (hp : p < 4) : GR (twR R o t p) := GR.setFa (R := sFa R (upI (rFa R) o ((p / 2 : Nat) : Int))) (h.setFa o (by omega)) t (by omega)
theorem sh1_4 {i : Nat} (h : i < 4) : zI (i : Int) >>> (zI 1 &&& 31) = zI ((i / 2 : Nat) : Int) := by
  have : ∀ i : Fin 4, zI (i.val : Int) >>> (zI 1 &&& 31) = zI ((i.val / 2 : Nat) : Int) := by decide +kernel
  exact this ⟨i, h⟩
theorem an1_4 {i : Nat} (h : i < 4) : zI (i : Int) &&& zI 1 = zI ((i % 2 : Nat) : Int) := by
  have : ∀ i : Fin 4, zI (i.val : Int) &&& zI 1 = zI ((i.val % 2 : Nat) : Int) := by decide +kernel
  exact this ⟨i, h⟩
theorem xo2_4 {i : Nat} : zI (i : Int) ^^^ zI 2 = zI ((i ^^^ 2 : Nat) : Int) := zI_xor i 2
theorem xo1_4 {i : Nat} : zI (i : Int) ^^^ zI 1 = zI ((i ^^^ 1 : Nat) : Int) := zI_xor i 1
theorem xo_lt {i : Nat} (h : i < 4) : i ^^^ 2 < 4 ∧ i ^^^ 1 < 4 := by
  have : ∀ i : Fin 4, i.val ^^^ 2 < 4 ∧ i.val ^^^ 1 < 4 := by decide +kernel
  exact this ⟨i, h⟩
theorem con_CchoiceOfTwo {o t : Int} {n : Nat} (ho : g7_ (rs 0) o) (ht : g7_ (rs 0) t) (hot : o ≠ t) (hn : n ≤ 60) (hA : GR A) (hG : GR (rs 0)) (hQ : ∀ B x y, GR B → Q (some (.int (zI (twF g6_ (rs 0) o.toNat t.toNat n)))) (HX (upR rs 11 B) pi psz lt lsz tn tsz (x) (y) sd rf im hM)) : Con M_Co_choiceOfTwo [.ref 85, .ref 0, .int (zI o), .int (zI t), .int (zI n)] (HX (upR rs 11 A) pi psz lt lsz tn tsz g1 g2 sd rf im hM) Q := by
  have gm := hG.men
  have gg : ∀ p w, p < 4 → -30 ≤ twG g6_ (rs 0) o.toNat t.toNat n p w ∧ twG g6_ (rs 0) o.toNat t.toNat n p w ≤ 3 := by
    intro p w hp
    have := ((hG.tw o.toNat t.toNat p hp).dsX n).wo w
    simp only [twG]
    split <;> omega
  refine g8_ (L := [some (.ref 85), some (.ref 0), some (.int (zI o)), some (.int (zI t)), some (.int (zI n)), none, none]) ok_Co_choiceOfTwo (Nat.le_of_ble_eq_true rfl) rfl ?_
  refine w_Co_choiceOfTwo_0 ?_
  simp (disch := omega) only [cm_,aq_,ay_,ag_,b8_,af_,ba_,bc_,bx_,bb_,cp_,bf_,b3_,bv_,bh_,b4_,am_,ae_,ac_,bq_,ed_,bs_,ao_,as_,a2_,az_,ar_,dw_,d6_,ea_,d3_,b5_,b1_,fh_,fu_,fp_,fz_,fq_,fk_,ft_,fs_,f0_,c5_,bt_,bd_,ct_,cx_,cr_,cz_,cf_,ch_,ci_,an_,cl_,dr_,cd_,a9_,a8_,a7_,ce_,fy_,fv_,cq_,Int.toNat_natCast,eh_,b9_,f3_,e1_,e4_,ex_,e5_,gd_,e8_,dg_,dc_,et_,di_,dm_,dn_,Nat.reduceAdd,Nat.reduceMul,Int.reduceNeg,Nat.reduceLeDiff,List.length_cons,List.length_nil,true_and,and_true,Nat.zero_add,eq_self,Nat.reduceEqDiff,Int.reduceAdd,Int.reduceSub,Int.reduceMul,not_true_eq_false,not_false_eq_true,Nat.reduceLT,Int.reduceToNat,Int.reduceEq,Int.reduceNe,Int.reduceLT,Int.reduceLE,or_true,or_false,and_self,and_false,false_and,false_implies,true_implies]
  have second : ∀ k i : Nat, i + k = 4 → (let p := firstN (twP g6_ (rs 0) o.toNat t.toNat n) i k; if p = -9 then (-9 : Int) else 10 * (p / 2) + p % 2) = twF g6_ (rs 0) o.toNat t.toNat n → ∀ B, GR B → ∀ x6, J M_Co_choiceOfTwo 135 [some (.ref 85), some (.ref 0), some (.int (zI o)), some (.int (zI t)), some (.int (zI n)), some (.int (zI i)), x6] [] (HX (upR rs 11 B) pi psz lt lsz tn tsz (fun j => if j < 4 then twG g6_ (rs 0) o.toNat t.toNat n j o.toNat else g1 j) (fun j => if j < 4 then twG g6_ (rs 0) o.toNat t.toNat n j t.toNat else g2 j) sd rf im hM) Q := by
    intro k
    induction k with
    | zero =>
      intro i hi he B hB x6
      have e : i = 4 := by omega
      subst e
      have hQ := hQ B (fun j => if j < 4 then twG g6_ (rs 0) o.toNat t.toNat n j o.toNat else g1 j) (fun j => if j < 4 then twG g6_ (rs 0) o.toNat t.toNat n j t.toNat else g2 j) hB
      rw [← he] at hQ
      refine w_Co_choiceOfTwo_135 ?_
      simp (disch := omega) only [cm_,aq_,ay_,ag_,b8_,af_,ba_,bc_,bx_,bb_,cp_,bf_,b3_,bv_,bh_,b4_,am_,ae_,ac_,bq_,ed_,bs_,ao_,as_,a2_,az_,ar_,dw_,d6_,ea_,d3_,b5_,b1_,fh_,fu_,fp_,fz_,fq_,fk_,ft_,fs_,f0_,c5_,bt_,bd_,ct_,cx_,cr_,cz_,cf_,ch_,ci_,an_,cl_,dr_,cd_,a9_,a8_,a7_,ce_,fy_,fv_,cq_,Int.toNat_natCast,eh_,b9_,f3_,e1_,e4_,ex_,e5_,gd_,e8_,dg_,dc_,et_,di_,dm_,dn_,Nat.reduceAdd,Nat.reduceMul,Int.reduceNeg,Nat.reduceLeDiff,List.length_cons,List.length_nil,true_and,and_true,Nat.zero_add,eq_self,Nat.reduceEqDiff,Int.reduceAdd,Int.reduceSub,Int.reduceMul,not_true_eq_false,not_false_eq_true,Nat.reduceLT,Int.reduceToNat,Int.reduceEq,Int.reduceNe,Int.reduceLT,Int.reduceLE,or_true,or_false,and_self,and_false,false_and,false_implies,true_implies]
      repeat' (first | with_reducible refine And.intro ?_ ?_ | with_reducible intro _ | ((first | with_reducible refine w_Co_choiceOfTwo_34 ?_ | with_reducible refine w_Co_choiceOfTwo_35 ?_ | with_reducible refine w_Co_choiceOfTwo_55 ?_ | with_reducible refine w_Co_choiceOfTwo_56 ?_ | with_reducible refine w_Co_choiceOfTwo_83 ?_ | with_reducible refine w_Co_choiceOfTwo_84 ?_ | with_reducible refine w_Co_choiceOfTwo_132 ?_ | with_reducible refine w_Co_choiceOfTwo_192 ?_ | with_reducible refine w_Co_choiceOfTwo_198 ?_); simp (disch := omega) only [cm_,aq_,ay_,ag_,b8_,af_,ba_,bc_,bx_,bb_,cp_,bf_,b3_,bv_,bh_,b4_,am_,ae_,ac_,bq_,ed_,bs_,ao_,as_,a2_,az_,ar_,dw_,d6_,ea_,d3_,b5_,b1_,fh_,fu_,fp_,fz_,fq_,fk_,ft_,fs_,f0_,c5_,bt_,bd_,ct_,cx_,cr_,cz_,cf_,ch_,ci_,an_,cl_,dr_,cd_,a9_,a8_,a7_,ce_,fy_,fv_,cq_,Int.toNat_natCast,eh_,b9_,f3_,e1_,e4_,ex_,e5_,gd_,e8_,dg_,dc_,et_,di_,dm_,dn_,Nat.reduceAdd,Nat.reduceMul,Int.reduceNeg,Nat.reduceLeDiff,List.length_cons,List.length_nil,true_and,and_true,Nat.zero_add,eq_self,Nat.reduceEqDiff,Int.reduceAdd,Int.reduceSub,Int.reduceMul,not_true_eq_false,not_false_eq_true,Nat.reduceLT,Int.reduceToNat,Int.reduceEq,Int.reduceNe,Int.reduceLT,Int.reduceLE,or_true,or_false,and_self,and_false,false_and,false_implies,true_implies]))
      all_goals first | omega | exact hQ
    | succ k ih =>
      intro i hi he B hB x6
      have hx := xo_lt (i := i) (by omega)
      have h1 := gg i o.toNat (by omega)
      have h2 := gg i t.toNat (by omega)
      have h3 := gg (i ^^^ 2) o.toNat hx.1
      have h4 := gg (i ^^^ 1) t.toNat hx.2
      have hs : firstN (twP g6_ (rs 0) o.toNat t.toNat n) i (k + 1) = if twP g6_ (rs 0) o.toNat t.toNat n i = true then (i : Int) else firstN (twP g6_ (rs 0) o.toNat t.toNat n) (i + 1) k := rfl
      have e1 : (if i < 4 then twG g6_ (rs 0) o.toNat t.toNat n i o.toNat else g1 i) = twG g6_ (rs 0) o.toNat t.toNat n i o.toNat := if_pos (by omega)
      have e2 : (if i < 4 then twG g6_ (rs 0) o.toNat t.toNat n i t.toNat else g2 i) = twG g6_ (rs 0) o.toNat t.toNat n i t.toNat := if_pos (by omega)
      have e3 : (if i ^^^ 2 < 4 then twG g6_ (rs 0) o.toNat t.toNat n (i ^^^ 2) o.toNat else g1 (i ^^^ 2)) = twG g6_ (rs 0) o.toNat t.toNat n (i ^^^ 2) o.toNat := if_pos hx.1
      have e4 : (if i ^^^ 1 < 4 then twG g6_ (rs 0) o.toNat t.toNat n (i ^^^ 1) t.toNat else g2 (i ^^^ 1)) = twG g6_ (rs 0) o.toNat t.toNat n (i ^^^ 1) t.toNat := if_pos hx.2
      by_cases c : twP g6_ (rs 0) o.toNat t.toNat n i = true
      · rw [hs, if_pos c] at he
        have hQ := hQ B (fun j => if j < 4 then twG g6_ (rs 0) o.toNat t.toNat n j o.toNat else g1 j) (fun j => if j < 4 then twG g6_ (rs 0) o.toNat t.toNat n j t.toNat else g2 j) hB
        rw [← he] at hQ
        simp only at hQ
        rw [if_neg (by omega)] at hQ
        simp only [twP, decide_eq_true_eq] at c
        refine w_Co_choiceOfTwo_135 ?_
        simp (disch := omega) only [cm_,aq_,ay_,ag_,b8_,af_,ba_,bc_,bx_,bb_,cp_,bf_,b3_,bv_,bh_,b4_,am_,ae_,ac_,bq_,ed_,bs_,ao_,as_,a2_,az_,ar_,dw_,d6_,ea_,d3_,b5_,b1_,fh_,fu_,fp_,fz_,fq_,fk_,ft_,fs_,f0_,c5_,bt_,bd_,ct_,cx_,cr_,cz_,cf_,ch_,ci_,an_,cl_,dr_,cd_,a9_,a8_,a7_,ce_,fy_,fv_,cq_,Int.toNat_natCast,eh_,b9_,f3_,e1_,e4_,ex_,e5_,gd_,e8_,dg_,dc_,et_,di_,dm_,dn_,Nat.reduceAdd,Nat.reduceMul,Int.reduceNeg,Nat.reduceLeDiff,List.length_cons,List.length_nil,true_and,and_true,Nat.zero_add,eq_self,Nat.reduceEqDiff,Int.reduceAdd,Int.reduceSub,Int.reduceMul,not_true_eq_false,not_false_eq_true,Nat.reduceLT,Int.reduceToNat,Int.reduceEq,Int.reduceNe,Int.reduceLT,Int.reduceLE,or_true,or_false,and_self,and_false,false_and,false_implies,true_implies,xo2_4,xo1_4,sh1_4,an1_4,e1,e2,e3,e4]
        refine ⟨fun _ => by omega, fun _ => ⟨by omega, by omega, fun q => absurd c.1 (by omega), fun _ => ⟨by omega, by omega, fun q => absurd c.2 (by omega), fun _ => ?_⟩⟩⟩
        rw [show ((i / 2 : Nat) : Int) = (i : Int) / 2 by omega, show ((i % 2 : Nat) : Int) = (i : Int) % 2 by omega]
        exact hQ
      · rw [hs, if_neg c] at he
        have step := ih (i + 1) (by omega) he B hB
        simp only [twP, decide_eq_true_eq] at c
        refine w_Co_choiceOfTwo_135 ?_
        simp (disch := omega) only [cm_,aq_,ay_,ag_,b8_,af_,ba_,bc_,bx_,bb_,cp_,bf_,b3_,bv_,bh_,b4_,am_,ae_,ac_,bq_,ed_,bs_,ao_,as_,a2_,az_,ar_,dw_,d6_,ea_,d3_,b5_,b1_,fh_,fu_,fp_,fz_,fq_,fk_,ft_,fs_,f0_,c5_,bt_,bd_,ct_,cx_,cr_,cz_,cf_,ch_,ci_,an_,cl_,dr_,cd_,a9_,a8_,a7_,ce_,fy_,fv_,cq_,Int.toNat_natCast,eh_,b9_,f3_,e1_,e4_,ex_,e5_,gd_,e8_,dg_,dc_,et_,di_,dm_,dn_,Nat.reduceAdd,Nat.reduceMul,Int.reduceNeg,Nat.reduceLeDiff,List.length_cons,List.length_nil,true_and,and_true,Nat.zero_add,eq_self,Nat.reduceEqDiff,Int.reduceAdd,Int.reduceSub,Int.reduceMul,not_true_eq_false,not_false_eq_true,Nat.reduceLT,Int.reduceToNat,Int.reduceEq,Int.reduceNe,Int.reduceLT,Int.reduceLE,or_true,or_false,and_self,and_false,false_and,false_implies,true_implies,xo2_4,xo1_4,sh1_4,an1_4,e1,e2,e3,e4]
        repeat' (first | with_reducible refine And.intro ?_ ?_ | with_reducible intro _ | ((first | with_reducible refine w_Co_choiceOfTwo_34 ?_ | with_reducible refine w_Co_choiceOfTwo_35 ?_ | with_reducible refine w_Co_choiceOfTwo_55 ?_ | with_reducible refine w_Co_choiceOfTwo_56 ?_ | with_reducible refine w_Co_choiceOfTwo_83 ?_ | with_reducible refine w_Co_choiceOfTwo_84 ?_ | with_reducible refine w_Co_choiceOfTwo_132 ?_ | with_reducible refine w_Co_choiceOfTwo_192 ?_ | with_reducible refine w_Co_choiceOfTwo_198 ?_); simp (disch := omega) only [cm_,aq_,ay_,ag_,b8_,af_,ba_,bc_,bx_,bb_,cp_,bf_,b3_,bv_,bh_,b4_,am_,ae_,ac_,bq_,ed_,bs_,ao_,as_,a2_,az_,ar_,dw_,d6_,ea_,d3_,b5_,b1_,fh_,fu_,fp_,fz_,fq_,fk_,ft_,fs_,f0_,c5_,bt_,bd_,ct_,cx_,cr_,cz_,cf_,ch_,ci_,an_,cl_,dr_,cd_,a9_,a8_,a7_,ce_,fy_,fv_,cq_,Int.toNat_natCast,eh_,b9_,f3_,e1_,e4_,ex_,e5_,gd_,e8_,dg_,dc_,et_,di_,dm_,dn_,Nat.reduceAdd,Nat.reduceMul,Int.reduceNeg,Nat.reduceLeDiff,List.length_cons,List.length_nil,true_and,and_true,Nat.zero_add,eq_self,Nat.reduceEqDiff,Int.reduceAdd,Int.reduceSub,Int.reduceMul,not_true_eq_false,not_false_eq_true,Nat.reduceLT,Int.reduceToNat,Int.reduceEq,Int.reduceNe,Int.reduceLT,Int.reduceLE,or_true,or_false,and_self,and_false,false_and,false_implies,true_implies]))
        all_goals first | omega | exact step _
  have first : ∀ k i : Nat, i + k = 4 → ∀ B, GR B → ∀ x6, J M_Co_choiceOfTwo 3 [some (.ref 85), some (.ref 0), some (.int (zI o)), some (.int (zI t)), some (.int (zI n)), some (.int (zI i)), x6] [] (HX (upR rs 11 B) pi psz lt lsz tn tsz (fun j => if j < i then twG g6_ (rs 0) o.toNat t.toNat n j o.toNat else g1 j) (fun j => if j < i then twG g6_ (rs 0) o.toNat t.toNat n j t.toNat else g2 j) sd rf im hM) Q := by
    intro k
    induction k with
    | zero =>
      intro i hi B hB x6
      have e : i = 4 := by omega
      subst e
      refine w_Co_choiceOfTwo_3 ?_
      simp (disch := omega) only [cm_,aq_,ay_,ag_,b8_,af_,ba_,bc_,bx_,bb_,cp_,bf_,b3_,bv_,bh_,b4_,am_,ae_,ac_,bq_,ed_,bs_,ao_,as_,a2_,az_,ar_,dw_,d6_,ea_,d3_,b5_,b1_,fh_,fu_,fp_,fz_,fq_,fk_,ft_,fs_,f0_,c5_,bt_,bd_,ct_,cx_,cr_,cz_,cf_,ch_,ci_,an_,cl_,dr_,cd_,a9_,a8_,a7_,ce_,fy_,fv_,cq_,Int.toNat_natCast,eh_,b9_,f3_,e1_,e4_,ex_,e5_,gd_,e8_,dg_,dc_,et_,di_,dm_,dn_,Nat.reduceAdd,Nat.reduceMul,Int.reduceNeg,Nat.reduceLeDiff,List.length_cons,List.length_nil,true_and,and_true,Nat.zero_add,eq_self,Nat.reduceEqDiff,Int.reduceAdd,Int.reduceSub,Int.reduceMul,not_true_eq_false,not_false_eq_true,Nat.reduceLT,Int.reduceToNat,Int.reduceEq,Int.reduceNe,Int.reduceLT,Int.reduceLE,or_true,or_false,and_self,and_false,false_and,false_implies,true_implies]
      refine w_Co_choiceOfTwo_132 ?_
      simp (disch := omega) only [cm_,aq_,ay_,ag_,b8_,af_,ba_,bc_,bx_,bb_,cp_,bf_,b3_,bv_,bh_,b4_,am_,ae_,ac_,bq_,ed_,bs_,ao_,as_,a2_,az_,ar_,dw_,d6_,ea_,d3_,b5_,b1_,fh_,fu_,fp_,fz_,fq_,fk_,ft_,fs_,f0_,c5_,bt_,bd_,ct_,cx_,cr_,cz_,cf_,ch_,ci_,an_,cl_,dr_,cd_,a9_,a8_,a7_,ce_,fy_,fv_,cq_,Int.toNat_natCast,eh_,b9_,f3_,e1_,e4_,ex_,e5_,gd_,e8_,dg_,dc_,et_,di_,dm_,dn_,Nat.reduceAdd,Nat.reduceMul,Int.reduceNeg,Nat.reduceLeDiff,List.length_cons,List.length_nil,true_and,and_true,Nat.zero_add,eq_self,Nat.reduceEqDiff,Int.reduceAdd,Int.reduceSub,Int.reduceMul,not_true_eq_false,not_false_eq_true,Nat.reduceLT,Int.reduceToNat,Int.reduceEq,Int.reduceNe,Int.reduceLT,Int.reduceLE,or_true,or_false,and_self,and_false,false_and,false_implies,true_implies]
      exact second 4 0 rfl rfl B hB _
    | succ k ih =>
      intro i hi B hB x6
      have hGT := hG.tw o.toNat t.toNat i (by omega)
      have hGT2 := hGT.dsX n
      have hw1 := hGT2.wo o.toNat
      have hw2 := hGT2.wo t.toNat
      have hmen : rMen (g6_ (twR (rs 0) o.toNat t.toNat i) n) = rMen (rs 0) := daysX_men (twR (rs 0) o.toNat t.toNat i) n
      have hpo : g7_ (g6_ (twR (rs 0) o.toNat t.toNat i) n) o := ⟨ho.1, by rw [hmen]; exact ho.2⟩
      have hpt : g7_ (g6_ (twR (rs 0) o.toNat t.toNat i) n) t := ⟨ht.1, by rw [hmen]; exact ht.2⟩
      have up : ∀ (f g : Nat → Int) (x : Int), x = f i → upI (fun j => if j < i then f j else g j) i x = fun j => if j < i + 1 then f j else g j := by
        intro f g x hx
        funext j
        simp only [upI]
        by_cases hj : j = i
        · subst hj
          rw [if_pos rfl, if_pos (by omega), hx]
        · rw [if_neg hj]
          simp only [show (j < i + 1) = (j < i) by simp; omega]
      have step := ih (i + 1) (by omega) _ hGT2
      have at84 : ∀ z : Int, z = (if hd_ (g6_ (twR (rs 0) o.toNat t.toNat i) n) = 12 then 3 else 0) → J M_Co_choiceOfTwo 84 [some (.ref 85), some (.ref 0), some (.int (zI o)), some (.int (zI t)), some (.int (zI n)), some (.int (zI i)), x6] [.int (zI z)] (HX (upR rs 11 (g6_ (twR (rs 0) o.toNat t.toNat i) n)) pi psz lt lsz tn tsz (fun j => if j < i then twG g6_ (rs 0) o.toNat t.toNat n j o.toNat else g1 j) (fun j => if j < i then twG g6_ (rs 0) o.toNat t.toNat n j t.toNat else g2 j) sd rf im hM) Q := by
        intro z hz
        have u1 := up (fun j => twG g6_ (rs 0) o.toNat t.toNat n j o.toNat) g1 (z - rWo (g6_ (twR (rs 0) o.toNat t.toNat i) n) o.toNat / 4) (by rw [hz]; rfl)
        have u2 := up (fun j => twG g6_ (rs 0) o.toNat t.toNat n j t.toNat) g2 (z - rWo (g6_ (twR (rs 0) o.toNat t.toNat i) n) t.toNat / 4) (by rw [hz]; rfl)
        refine w_Co_choiceOfTwo_84 ?_
        simp (disch := omega) only [cm_,aq_,ay_,ag_,b8_,af_,ba_,bc_,bx_,bb_,cp_,bf_,b3_,bv_,bh_,b4_,am_,ae_,ac_,bq_,ed_,bs_,ao_,as_,a2_,az_,ar_,dw_,d6_,ea_,d3_,b5_,b1_,fh_,fu_,fp_,fz_,fq_,fk_,ft_,fs_,f0_,c5_,bt_,bd_,ct_,cx_,cr_,cz_,cf_,ch_,ci_,an_,cl_,dr_,cd_,a9_,a8_,a7_,ce_,fy_,fv_,cq_,Int.toNat_natCast,eh_,b9_,f3_,e1_,e4_,ex_,e5_,gd_,e8_,dg_,dc_,et_,di_,dm_,dn_,Nat.reduceAdd,Nat.reduceMul,Int.reduceNeg,Nat.reduceLeDiff,List.length_cons,List.length_nil,true_and,and_true,Nat.zero_add,eq_self,Nat.reduceEqDiff,Int.reduceAdd,Int.reduceSub,Int.reduceMul,not_true_eq_false,not_false_eq_true,Nat.reduceLT,Int.reduceToNat,Int.reduceEq,Int.reduceNe,Int.reduceLT,Int.reduceLE,or_true,or_false,and_self,and_false,false_and,false_implies,true_implies]
        refine conM_wornOf (q := 11) (by omega) (by unfold inI; omega) hGT2 (fun _ => ?_) (fun q => absurd hpo q)
        simp (disch := omega) only [cm_,aq_,ay_,ag_,b8_,af_,ba_,bc_,bx_,bb_,cp_,bf_,b3_,bv_,bh_,b4_,am_,ae_,ac_,bq_,ed_,bs_,ao_,as_,a2_,az_,ar_,dw_,d6_,ea_,d3_,b5_,b1_,fh_,fu_,fp_,fz_,fq_,fk_,ft_,fs_,f0_,c5_,bt_,bd_,ct_,cx_,cr_,cz_,cf_,ch_,ci_,an_,cl_,dr_,cd_,a9_,a8_,a7_,ce_,fy_,fv_,cq_,Int.toNat_natCast,eh_,b9_,f3_,e1_,e4_,ex_,e5_,gd_,e8_,dg_,dc_,et_,di_,dm_,dn_,Nat.reduceAdd,Nat.reduceMul,Int.reduceNeg,Nat.reduceLeDiff,List.length_cons,List.length_nil,true_and,and_true,Nat.zero_add,eq_self,Nat.reduceEqDiff,Int.reduceAdd,Int.reduceSub,Int.reduceMul,not_true_eq_false,not_false_eq_true,Nat.reduceLT,Int.reduceToNat,Int.reduceEq,Int.reduceNe,Int.reduceLT,Int.reduceLE,or_true,or_false,and_self,and_false,false_and,false_implies,true_implies,u1]
        refine ⟨by omega, ?_⟩
        refine conM_wornOf (q := 11) (by omega) (by unfold inI; omega) hGT2 (fun _ => ?_) (fun q => absurd hpt q)
        simp (disch := omega) only [cm_,aq_,ay_,ag_,b8_,af_,ba_,bc_,bx_,bb_,cp_,bf_,b3_,bv_,bh_,b4_,am_,ae_,ac_,bq_,ed_,bs_,ao_,as_,a2_,az_,ar_,dw_,d6_,ea_,d3_,b5_,b1_,fh_,fu_,fp_,fz_,fq_,fk_,ft_,fs_,f0_,c5_,bt_,bd_,ct_,cx_,cr_,cz_,cf_,ch_,ci_,an_,cl_,dr_,cd_,a9_,a8_,a7_,ce_,fy_,fv_,cq_,Int.toNat_natCast,eh_,b9_,f3_,e1_,e4_,ex_,e5_,gd_,e8_,dg_,dc_,et_,di_,dm_,dn_,Nat.reduceAdd,Nat.reduceMul,Int.reduceNeg,Nat.reduceLeDiff,List.length_cons,List.length_nil,true_and,and_true,Nat.zero_add,eq_self,Nat.reduceEqDiff,Int.reduceAdd,Int.reduceSub,Int.reduceMul,not_true_eq_false,not_false_eq_true,Nat.reduceLT,Int.reduceToNat,Int.reduceEq,Int.reduceNe,Int.reduceLT,Int.reduceLE,or_true,or_false,and_self,and_false,false_and,false_implies,true_implies,u2]
        exact ⟨by omega, step _⟩
      have at56 : ∀ y : Int, y = ((i % 2 : Nat) : Int) → J M_Co_choiceOfTwo 56 [some (.ref 85), some (.ref 0), some (.int (zI o)), some (.int (zI t)), some (.int (zI n)), some (.int (zI i)), x6] [.int (zI y), .int (zI t), .ref 66] (HX (upR rs 11 (sFa (rs 0) (upI (rFa (rs 0)) o.toNat ((i / 2 : Nat) : Int)))) pi psz lt lsz tn tsz (fun j => if j < i then twG g6_ (rs 0) o.toNat t.toNat n j o.toNat else g1 j) (fun j => if j < i then twG g6_ (rs 0) o.toNat t.toNat n j t.toNat else g2 j) sd rf im hM) Q := by
        intro y hy
        subst hy
        refine w_Co_choiceOfTwo_56 ?_
        simp (disch := omega) only [cm_,aq_,ay_,ag_,b8_,af_,ba_,bc_,bx_,bb_,cp_,bf_,b3_,bv_,bh_,b4_,am_,ae_,ac_,bq_,ed_,bs_,ao_,as_,a2_,az_,ar_,dw_,d6_,ea_,d3_,b5_,b1_,fh_,fu_,fp_,fz_,fq_,fk_,ft_,fs_,f0_,c5_,bt_,bd_,ct_,cx_,cr_,cz_,cf_,ch_,ci_,an_,cl_,dr_,cd_,a9_,a8_,a7_,ce_,fy_,fv_,cq_,Int.toNat_natCast,eh_,b9_,f3_,e1_,e4_,ex_,e5_,gd_,e8_,dg_,dc_,et_,di_,dm_,dn_,Nat.reduceAdd,Nat.reduceMul,Int.reduceNeg,Nat.reduceLeDiff,List.length_cons,List.length_nil,true_and,and_true,Nat.zero_add,eq_self,Nat.reduceEqDiff,Int.reduceAdd,Int.reduceSub,Int.reduceMul,not_true_eq_false,not_false_eq_true,Nat.reduceLT,Int.reduceToNat,Int.reduceEq,Int.reduceNe,Int.reduceLT,Int.reduceLE,or_true,or_false,and_self,and_false,false_and,false_implies,true_implies]
        refine conM_makeFate (q := 11) (by omega) (by unfold inI; omega) (hG.setFa o.toNat (by omega)) (fun _ => ?_) (fun q => absurd ht q)
        simp (disch := omega) only [cm_,aq_,ay_,ag_,b8_,af_,ba_,bc_,bx_,bb_,cp_,bf_,b3_,bv_,bh_,b4_,am_,ae_,ac_,bq_,ed_,bs_,ao_,as_,a2_,az_,ar_,dw_,d6_,ea_,d3_,b5_,b1_,fh_,fu_,fp_,fz_,fq_,fk_,ft_,fs_,f0_,c5_,bt_,bd_,ct_,cx_,cr_,cz_,cf_,ch_,ci_,an_,cl_,dr_,cd_,a9_,a8_,a7_,ce_,fy_,fv_,cq_,Int.toNat_natCast,eh_,b9_,f3_,e1_,e4_,ex_,e5_,gd_,e8_,dg_,dc_,et_,di_,dm_,dn_,Nat.reduceAdd,Nat.reduceMul,Int.reduceNeg,Nat.reduceLeDiff,List.length_cons,List.length_nil,true_and,and_true,Nat.zero_add,eq_self,Nat.reduceEqDiff,Int.reduceAdd,Int.reduceSub,Int.reduceMul,not_true_eq_false,not_false_eq_true,Nat.reduceLT,Int.reduceToNat,Int.reduceEq,Int.reduceNe,Int.reduceLT,Int.reduceLE,or_true,or_false,and_self,and_false,false_and,false_implies,true_implies]
        refine conM_passDays (q := 11) (A := twR (rs 0) o.toNat t.toNat i) (by omega) (by omega) hGT ?_
        simp (disch := omega) only [cm_,aq_,ay_,ag_,b8_,af_,ba_,bc_,bx_,bb_,cp_,bf_,b3_,bv_,bh_,b4_,am_,ae_,ac_,bq_,ed_,bs_,ao_,as_,a2_,az_,ar_,dw_,d6_,ea_,d3_,b5_,b1_,fh_,fu_,fp_,fz_,fq_,fk_,ft_,fs_,f0_,c5_,bt_,bd_,ct_,cx_,cr_,cz_,cf_,ch_,ci_,an_,cl_,dr_,cd_,a9_,a8_,a7_,ce_,fy_,fv_,cq_,Int.toNat_natCast,eh_,b9_,f3_,e1_,e4_,ex_,e5_,gd_,e8_,dg_,dc_,et_,di_,dm_,dn_,Nat.reduceAdd,Nat.reduceMul,Int.reduceNeg,Nat.reduceLeDiff,List.length_cons,List.length_nil,true_and,and_true,Nat.zero_add,eq_self,Nat.reduceEqDiff,Int.reduceAdd,Int.reduceSub,Int.reduceMul,not_true_eq_false,not_false_eq_true,Nat.reduceLT,Int.reduceToNat,Int.reduceEq,Int.reduceNe,Int.reduceLT,Int.reduceLE,or_true,or_false,and_self,and_false,false_and,false_implies,true_implies]
        refine conM_isHome (q := 11) (by omega) hGT2 (fun c => ?_) (fun c => ?_)
        · simp (disch := omega) only [cm_,aq_,ay_,ag_,b8_,af_,ba_,bc_,bx_,bb_,cp_,bf_,b3_,bv_,bh_,b4_,am_,ae_,ac_,bq_,ed_,bs_,ao_,as_,a2_,az_,ar_,dw_,d6_,ea_,d3_,b5_,b1_,fh_,fu_,fp_,fz_,fq_,fk_,ft_,fs_,f0_,c5_,bt_,bd_,ct_,cx_,cr_,cz_,cf_,ch_,ci_,an_,cl_,dr_,cd_,a9_,a8_,a7_,ce_,fy_,fv_,cq_,Int.toNat_natCast,eh_,b9_,f3_,e1_,e4_,ex_,e5_,gd_,e8_,dg_,dc_,et_,di_,dm_,dn_,Nat.reduceAdd,Nat.reduceMul,Int.reduceNeg,Nat.reduceLeDiff,List.length_cons,List.length_nil,true_and,and_true,Nat.zero_add,eq_self,Nat.reduceEqDiff,Int.reduceAdd,Int.reduceSub,Int.reduceMul,not_true_eq_false,not_false_eq_true,Nat.reduceLT,Int.reduceToNat,Int.reduceEq,Int.reduceNe,Int.reduceLT,Int.reduceLE,or_true,or_false,and_self,and_false,false_and,false_implies,true_implies]
          exact at84 3 (by rw [if_pos c])
        · simp (disch := omega) only [cm_,aq_,ay_,ag_,b8_,af_,ba_,bc_,bx_,bb_,cp_,bf_,b3_,bv_,bh_,b4_,am_,ae_,ac_,bq_,ed_,bs_,ao_,as_,a2_,az_,ar_,dw_,d6_,ea_,d3_,b5_,b1_,fh_,fu_,fp_,fz_,fq_,fk_,ft_,fs_,f0_,c5_,bt_,bd_,ct_,cx_,cr_,cz_,cf_,ch_,ci_,an_,cl_,dr_,cd_,a9_,a8_,a7_,ce_,fy_,fv_,cq_,Int.toNat_natCast,eh_,b9_,f3_,e1_,e4_,ex_,e5_,gd_,e8_,dg_,dc_,et_,di_,dm_,dn_,Nat.reduceAdd,Nat.reduceMul,Int.reduceNeg,Nat.reduceLeDiff,List.length_cons,List.length_nil,true_and,and_true,Nat.zero_add,eq_self,Nat.reduceEqDiff,Int.reduceAdd,Int.reduceSub,Int.reduceMul,not_true_eq_false,not_false_eq_true,Nat.reduceLT,Int.reduceToNat,Int.reduceEq,Int.reduceNe,Int.reduceLT,Int.reduceLE,or_true,or_false,and_self,and_false,false_and,false_implies,true_implies]
          refine w_Co_choiceOfTwo_83 ?_
          simp (disch := omega) only [cm_,aq_,ay_,ag_,b8_,af_,ba_,bc_,bx_,bb_,cp_,bf_,b3_,bv_,bh_,b4_,am_,ae_,ac_,bq_,ed_,bs_,ao_,as_,a2_,az_,ar_,dw_,d6_,ea_,d3_,b5_,b1_,fh_,fu_,fp_,fz_,fq_,fk_,ft_,fs_,f0_,c5_,bt_,bd_,ct_,cx_,cr_,cz_,cf_,ch_,ci_,an_,cl_,dr_,cd_,a9_,a8_,a7_,ce_,fy_,fv_,cq_,Int.toNat_natCast,eh_,b9_,f3_,e1_,e4_,ex_,e5_,gd_,e8_,dg_,dc_,et_,di_,dm_,dn_,Nat.reduceAdd,Nat.reduceMul,Int.reduceNeg,Nat.reduceLeDiff,List.length_cons,List.length_nil,true_and,and_true,Nat.zero_add,eq_self,Nat.reduceEqDiff,Int.reduceAdd,Int.reduceSub,Int.reduceMul,not_true_eq_false,not_false_eq_true,Nat.reduceLT,Int.reduceToNat,Int.reduceEq,Int.reduceNe,Int.reduceLT,Int.reduceLE,or_true,or_false,and_self,and_false,false_and,false_implies,true_implies]
          exact at84 0 (by rw [if_neg c])
      have at35 : ∀ x : Int, x = ((i / 2 : Nat) : Int) → J M_Co_choiceOfTwo 35 [some (.ref 85), some (.ref 0), some (.int (zI o)), some (.int (zI t)), some (.int (zI n)), some (.int (zI i)), x6] [.int (zI x), .int (zI o), .ref 66] (HX (upR rs 11 (rs 0)) pi psz lt lsz tn tsz (fun j => if j < i then twG g6_ (rs 0) o.toNat t.toNat n j o.toNat else g1 j) (fun j => if j < i then twG g6_ (rs 0) o.toNat t.toNat n j t.toNat else g2 j) sd rf im hM) Q := by
        intro x hx
        subst hx
        refine w_Co_choiceOfTwo_35 ?_
        simp (disch := omega) only [cm_,aq_,ay_,ag_,b8_,af_,ba_,bc_,bx_,bb_,cp_,bf_,b3_,bv_,bh_,b4_,am_,ae_,ac_,bq_,ed_,bs_,ao_,as_,a2_,az_,ar_,dw_,d6_,ea_,d3_,b5_,b1_,fh_,fu_,fp_,fz_,fq_,fk_,ft_,fs_,f0_,c5_,bt_,bd_,ct_,cx_,cr_,cz_,cf_,ch_,ci_,an_,cl_,dr_,cd_,a9_,a8_,a7_,ce_,fy_,fv_,cq_,Int.toNat_natCast,eh_,b9_,f3_,e1_,e4_,ex_,e5_,gd_,e8_,dg_,dc_,et_,di_,dm_,dn_,Nat.reduceAdd,Nat.reduceMul,Int.reduceNeg,Nat.reduceLeDiff,List.length_cons,List.length_nil,true_and,and_true,Nat.zero_add,eq_self,Nat.reduceEqDiff,Int.reduceAdd,Int.reduceSub,Int.reduceMul,not_true_eq_false,not_false_eq_true,Nat.reduceLT,Int.reduceToNat,Int.reduceEq,Int.reduceNe,Int.reduceLT,Int.reduceLE,or_true,or_false,and_self,and_false,false_and,false_implies,true_implies]
        refine conM_makeFate (q := 11) (by omega) (by unfold inI; omega) hG (fun _ => ?_) (fun q => absurd ho q)
        simp (disch := omega) only [cm_,aq_,ay_,ag_,b8_,af_,ba_,bc_,bx_,bb_,cp_,bf_,b3_,bv_,bh_,b4_,am_,ae_,ac_,bq_,ed_,bs_,ao_,as_,a2_,az_,ar_,dw_,d6_,ea_,d3_,b5_,b1_,fh_,fu_,fp_,fz_,fq_,fk_,ft_,fs_,f0_,c5_,bt_,bd_,ct_,cx_,cr_,cz_,cf_,ch_,ci_,an_,cl_,dr_,cd_,a9_,a8_,a7_,ce_,fy_,fv_,cq_,Int.toNat_natCast,eh_,b9_,f3_,e1_,e4_,ex_,e5_,gd_,e8_,dg_,dc_,et_,di_,dm_,dn_,Nat.reduceAdd,Nat.reduceMul,Int.reduceNeg,Nat.reduceLeDiff,List.length_cons,List.length_nil,true_and,and_true,Nat.zero_add,eq_self,Nat.reduceEqDiff,Int.reduceAdd,Int.reduceSub,Int.reduceMul,not_true_eq_false,not_false_eq_true,Nat.reduceLT,Int.reduceToNat,Int.reduceEq,Int.reduceNe,Int.reduceLT,Int.reduceLE,or_true,or_false,and_self,and_false,false_and,false_implies,true_implies,an1_4]
        refine ⟨fun c => ?_, fun c => ?_⟩
        · refine w_Co_choiceOfTwo_55 ?_
          simp (disch := omega) only [cm_,aq_,ay_,ag_,b8_,af_,ba_,bc_,bx_,bb_,cp_,bf_,b3_,bv_,bh_,b4_,am_,ae_,ac_,bq_,ed_,bs_,ao_,as_,a2_,az_,ar_,dw_,d6_,ea_,d3_,b5_,b1_,fh_,fu_,fp_,fz_,fq_,fk_,ft_,fs_,f0_,c5_,bt_,bd_,ct_,cx_,cr_,cz_,cf_,ch_,ci_,an_,cl_,dr_,cd_,a9_,a8_,a7_,ce_,fy_,fv_,cq_,Int.toNat_natCast,eh_,b9_,f3_,e1_,e4_,ex_,e5_,gd_,e8_,dg_,dc_,et_,di_,dm_,dn_,Nat.reduceAdd,Nat.reduceMul,Int.reduceNeg,Nat.reduceLeDiff,List.length_cons,List.length_nil,true_and,and_true,Nat.zero_add,eq_self,Nat.reduceEqDiff,Int.reduceAdd,Int.reduceSub,Int.reduceMul,not_true_eq_false,not_false_eq_true,Nat.reduceLT,Int.reduceToNat,Int.reduceEq,Int.reduceNe,Int.reduceLT,Int.reduceLE,or_true,or_false,and_self,and_false,false_and,false_implies,true_implies]
          exact at56 0 (by omega)
        · exact at56 1 (by omega)
      refine w_Co_choiceOfTwo_3 ?_
      simp (disch := omega) only [cm_,aq_,ay_,ag_,b8_,af_,ba_,bc_,bx_,bb_,cp_,bf_,b3_,bv_,bh_,b4_,am_,ae_,ac_,bq_,ed_,bs_,ao_,as_,a2_,az_,ar_,dw_,d6_,ea_,d3_,b5_,b1_,fh_,fu_,fp_,fz_,fq_,fk_,ft_,fs_,f0_,c5_,bt_,bd_,ct_,cx_,cr_,cz_,cf_,ch_,ci_,an_,cl_,dr_,cd_,a9_,a8_,a7_,ce_,fy_,fv_,cq_,Int.toNat_natCast,eh_,b9_,f3_,e1_,e4_,ex_,e5_,gd_,e8_,dg_,dc_,et_,di_,dm_,dn_,Nat.reduceAdd,Nat.reduceMul,Int.reduceNeg,Nat.reduceLeDiff,List.length_cons,List.length_nil,true_and,and_true,Nat.zero_add,eq_self,Nat.reduceEqDiff,Int.reduceAdd,Int.reduceSub,Int.reduceMul,not_true_eq_false,not_false_eq_true,Nat.reduceLT,Int.reduceToNat,Int.reduceEq,Int.reduceNe,Int.reduceLT,Int.reduceLE,or_true,or_false,and_self,and_false,false_and,false_implies,true_implies]
      refine ⟨fun _ => by omega, fun _ => ?_⟩
      refine conM_become (q := 11) (by omega) ?_
      simp (disch := omega) only [cm_,aq_,ay_,ag_,b8_,af_,ba_,bc_,bx_,bb_,cp_,bf_,b3_,bv_,bh_,b4_,am_,ae_,ac_,bq_,ed_,bs_,ao_,as_,a2_,az_,ar_,dw_,d6_,ea_,d3_,b5_,b1_,fh_,fu_,fp_,fz_,fq_,fk_,ft_,fs_,f0_,c5_,bt_,bd_,ct_,cx_,cr_,cz_,cf_,ch_,ci_,an_,cl_,dr_,cd_,a9_,a8_,a7_,ce_,fy_,fv_,cq_,Int.toNat_natCast,eh_,b9_,f3_,e1_,e4_,ex_,e5_,gd_,e8_,dg_,dc_,et_,di_,dm_,dn_,Nat.reduceAdd,Nat.reduceMul,Int.reduceNeg,Nat.reduceLeDiff,List.length_cons,List.length_nil,true_and,and_true,Nat.zero_add,eq_self,Nat.reduceEqDiff,Int.reduceAdd,Int.reduceSub,Int.reduceMul,not_true_eq_false,not_false_eq_true,Nat.reduceLT,Int.reduceToNat,Int.reduceEq,Int.reduceNe,Int.reduceLT,Int.reduceLE,or_true,or_false,and_self,and_false,false_and,false_implies,true_implies,sh1_4]
      refine ⟨fun c => ?_, fun c => ?_⟩
      · refine w_Co_choiceOfTwo_34 ?_
        simp (disch := omega) only [cm_,aq_,ay_,ag_,b8_,af_,ba_,bc_,bx_,bb_,cp_,bf_,b3_,bv_,bh_,b4_,am_,ae_,ac_,bq_,ed_,bs_,ao_,as_,a2_,az_,ar_,dw_,d6_,ea_,d3_,b5_,b1_,fh_,fu_,fp_,fz_,fq_,fk_,ft_,fs_,f0_,c5_,bt_,bd_,ct_,cx_,cr_,cz_,cf_,ch_,ci_,an_,cl_,dr_,cd_,a9_,a8_,a7_,ce_,fy_,fv_,cq_,Int.toNat_natCast,eh_,b9_,f3_,e1_,e4_,ex_,e5_,gd_,e8_,dg_,dc_,et_,di_,dm_,dn_,Nat.reduceAdd,Nat.reduceMul,Int.reduceNeg,Nat.reduceLeDiff,List.length_cons,List.length_nil,true_and,and_true,Nat.zero_add,eq_self,Nat.reduceEqDiff,Int.reduceAdd,Int.reduceSub,Int.reduceMul,not_true_eq_false,not_false_eq_true,Nat.reduceLT,Int.reduceToNat,Int.reduceEq,Int.reduceNe,Int.reduceLT,Int.reduceLE,or_true,or_false,and_self,and_false,false_and,false_implies,true_implies]
        exact at35 0 (by omega)
      · exact at35 1 (by omega)
  have e0 : ∀ g : Nat → Int, ∀ f : Nat → Int, (fun j => if j < 0 then f j else g j) = g := fun g f => by funext j; rw [if_neg (by omega)]
  have := first 4 0 rfl A hA none
  rw [e0, e0] at this
  exact this
end C9
end
/-! longs -/
section
/-! ===== longs, chances ===== -/
theorem en_ (a b : Int) : zJ a + zJ b = zJ (a + b) := (Int64.ofInt_add a b).symm
theorem es_ (a b : Int) : zJ a - zJ b = zJ (a - b) := (Int64.ofInt_sub a b).symm
theorem eo_ (a b : Int) : zJ a * zJ b = zJ (a * b) := (Int64.ofInt_mul a b).symm
theorem zJ_toInt {a : Int} (h1 : -9223372036854775808 ≤ a) (h2 : a < 9223372036854775808) : (zJ a).toInt = a := Int64.toInt_ofInt_of_le h1 h2
theorem er_ {a : Int} (h1 : -2147483648 ≤ a) (h2 : a < 2147483648) : (zI a).toInt64 = zJ a := by
  apply Int64.toInt_inj.mp
  rw [Int32.toInt_toInt64, an_ h1 h2, zJ_toInt (by omega) (by omega)]
theorem ep_ {a b : Int} (h1 : 0 ≤ a) (h2 : a < 9223372036854775808) (h3 : 0 < b) (h4 : b < 9223372036854775808) : zJ a / zJ b = zJ (a / b) := by
  apply Int64.toInt_inj.mp
  have e1 := zJ_toInt (a := a) (by omega) h2
  have e2 := zJ_toInt (a := b) (by omega) h4
  have e3 : a / b ≤ a := Int.ediv_le_self b h1
  have e4 : 0 ≤ a / b := Int.ediv_nonneg h1 (by omega)
  rw [zJ_toInt (by omega) (by omega), Int64.toInt_div, e1, e2, Int.tdiv_eq_ediv_of_nonneg h1]
  exact Int.bmod_eq_of_le (by omega) (by omega)
theorem f2_ {b : Int} (h1 : 0 < b) (h2 : b < 9223372036854775808) : (zJ b ≠ 0) = True := by
  simp only [ne_eq, eq_iff_iff, iff_true]
  intro h
  have := zJ_toInt (a := b) (by omega) h2
  rw [h] at this
  have e : (0 : Int64).toInt = 0 := rfl
  omega
def cmI (a b : Int) : Int := if b < a then 1 else if a = b then 0 else -1
theorem cc_ {a b : Int} (h1 : -9223372036854775808 ≤ a) (h2 : a < 9223372036854775808) (h3 : -9223372036854775808 ≤ b) (h4 : b < 9223372036854775808) : (lg_cmp (zJ a) (zJ b)).toInt = cmI a b := by
  have e1 := zJ_toInt h1 h2
  have e2 := zJ_toInt h3 h4
  have g : (zJ a > zJ b) = (b < a) := by
    show (zJ b < zJ a) = _
    rw [Int64.lt_iff_toInt_lt, e1, e2]
  have q : (zJ a = zJ b) = (a = b) := by
    rw [← Int64.toInt_inj, e1, e2]
  simp only [lg_cmp, cmI, g, q]
  split
  · rfl
  · split <;> rfl
theorem f1_ (a b : Int) : (cmI a b = 0) = (a = b) := by
  simp only [cmI, eq_iff_iff]
  split
  · omega
  · split <;> omega
theorem ek_ (a b : Int) : (cmI a b < 0) = (a < b) := by
  simp only [cmI, eq_iff_iff]
  split
  · omega
  · split <;> omega
theorem em_ (a b : Int) : (0 < cmI a b) = (b < a) := by
  simp only [cmI, eq_iff_iff]
  split
  · omega
  · split <;> omega
theorem el_ (a b : Int) : (0 ≤ cmI a b) = (b ≤ a) := by
  simp only [cmI, eq_iff_iff]
  split
  · omega
  · split <;> omega
theorem eq_ (a b : Int) : (cmI a b ≤ 0) = (a ≤ b) := by
  simp only [cmI, eq_iff_iff]
  split
  · omega
  · split <;> omega
theorem zI_and31 (z : Int) : zI z &&& zI 2147483647 = zI (z % 2147483648) := by
  obtain ⟨n, hn⟩ : ∃ n : Nat, z % 4294967296 = n := ⟨(z % 4294967296).toNat, by omega⟩
  have e1 : zI z = zI (n : Int) := by
    rw [← hn]
    apply Int32.toBitVec_inj.mp
    show BitVec.ofInt 32 z = BitVec.ofInt 32 (z % 4294967296)
    apply BitVec.eq_of_toInt_eq
    rw [BitVec.toInt_ofInt, BitVec.toInt_ofInt]
    show z.bmod 4294967296 = (z % ((4294967296 : Nat) : Int)).bmod 4294967296
    rw [Int.emod_bmod]
  have e2 : z % 2147483648 = ((n % 2147483648 : Nat) : Int) := by omega
  rw [e1, e2, show (2147483647 : Int) = ((2147483647 : Nat) : Int) from rfl, zI_and]
  congr 2
  exact Nat.and_two_pow_sub_one_eq_mod n 31
def nxS (z : Int) : Int := z * 1103515245 + 12345
def drF (z : Int) : Int := z % 2147483648 / 65536 % 10
theorem drF_rng (z : Int) : 0 ≤ drF z ∧ drF z ≤ 9 := by
  simp only [drF]
  omega
def sdN (z : Int) : Nat → Int
  | 0 => z
  | k + 1 => nxS (sdN z k)
def ltF (a b : Nat) (p : Int) : Int := if a = 0 ∨ b = 0 then p else if p = 0 then ((a / Nat.gcd a b : Nat) : Int) else ((b / Nat.gcd a b : Nat) : Int)
section C10
variable {h : AH} {Q : Option Value → AH → Prop}
theorem con_power {a : Int} {n : Nat} (hn : n ≤ 10) (hQ : Q (some (.long (zJ (a ^ n)))) h) : Con M_X_power [.long (zJ a), .int (zI n)] h Q := by
  refine g8_ (L := [some (.long (zJ a)), none, some (.int (zI n)), none, none, none]) ok_X_power (Nat.le_of_ble_eq_true rfl) rfl ?_
  refine w_X_power_0 ?_
  simp (disch := omega) only [cm_,aq_,a1_,ag_,aj_,b8_,af_,ah_,c0_,b0_,bi_,br_,bz_,bq_,ed_,bs_,b6_,a4_,dw_,d6_,ea_,d3_,bn_,b5_,d9_,d7_,fh_,fw_,fp_,c5_,bd_,ct_,cx_,cr_,cf_,an_,Int.toNat_natCast,f3_,di_,dm_,dn_,en_,es_,eo_,er_,ep_,f2_,cc_,f1_,ek_,em_,el_,eq_,Nat.reduceAdd,Nat.reduceMul,Int.reduceNeg,Nat.reduceLeDiff,List.length_cons,List.length_nil,true_and,and_true,Nat.zero_add,eq_self,Nat.reduceEqDiff,Int.reduceAdd,Int.reduceSub,Int.reduceMul,not_true_eq_false,Nat.reduceLT,Int.reduceToNat,Int.reduceEq,Int.reduceNe,Int.reduceLT,Int.reduceLE,false_implies,true_implies]
  have loop : ∀ k i : Nat, i + k = n → J M_X_power 5 [some (.long (zJ a)), none, some (.int (zI n)), some (.long (zJ (a ^ i))), none, some (.int (zI i))] [] h Q := by
    intro k
    induction k with
    | zero =>
      intro i hi
      have e : i = n := by omega
      subst e
      refine w_X_power_5 ?_
      simp (disch := omega) only [cm_,aq_,a1_,ag_,aj_,b8_,af_,ah_,c0_,b0_,bi_,br_,bz_,bq_,ed_,bs_,b6_,a4_,dw_,d6_,ea_,d3_,bn_,b5_,d9_,d7_,fh_,fw_,fp_,c5_,bd_,ct_,cx_,cr_,cf_,an_,Int.toNat_natCast,f3_,di_,dm_,dn_,en_,es_,eo_,er_,ep_,f2_,cc_,f1_,ek_,em_,el_,eq_,Nat.reduceAdd,Nat.reduceMul,Int.reduceNeg,Nat.reduceLeDiff,List.length_cons,List.length_nil,true_and,and_true,Nat.zero_add,eq_self,Nat.reduceEqDiff,Int.reduceAdd,Int.reduceSub,Int.reduceMul,not_true_eq_false,Nat.reduceLT,Int.reduceToNat,Int.reduceEq,Int.reduceNe,Int.reduceLT,Int.reduceLE,false_implies,true_implies]
      repeat' (first | with_reducible refine And.intro ?_ ?_ | with_reducible intro _ | ((first | with_reducible refine w_X_power_21 ?_); simp (disch := omega) only [cm_,aq_,a1_,ag_,aj_,b8_,af_,ah_,c0_,b0_,bi_,br_,bz_,bq_,ed_,bs_,b6_,a4_,dw_,d6_,ea_,d3_,bn_,b5_,d9_,d7_,fh_,fw_,fp_,c5_,bd_,ct_,cx_,cr_,cf_,an_,Int.toNat_natCast,f3_,di_,dm_,dn_,en_,es_,eo_,er_,ep_,f2_,cc_,f1_,ek_,em_,el_,eq_,Nat.reduceAdd,Nat.reduceMul,Int.reduceNeg,Nat.reduceLeDiff,List.length_cons,List.length_nil,true_and,and_true,Nat.zero_add,eq_self,Nat.reduceEqDiff,Int.reduceAdd,Int.reduceSub,Int.reduceMul,not_true_eq_false,Nat.reduceLT,Int.reduceToNat,Int.reduceEq,Int.reduceNe,Int.reduceLT,Int.reduceLE,false_implies,true_implies]))
      all_goals first | omega | exact hQ
    | succ k ih =>
      intro i hi
      have step := ih (i + 1) (by omega)
      rw [Int.pow_succ] at step
      refine w_X_power_5 ?_
      simp (disch := omega) only [cm_,aq_,a1_,ag_,aj_,b8_,af_,ah_,c0_,b0_,bi_,br_,bz_,bq_,ed_,bs_,b6_,a4_,dw_,d6_,ea_,d3_,bn_,b5_,d9_,d7_,fh_,fw_,fp_,c5_,bd_,ct_,cx_,cr_,cf_,an_,Int.toNat_natCast,f3_,di_,dm_,dn_,en_,es_,eo_,er_,ep_,f2_,cc_,f1_,ek_,em_,el_,eq_,Nat.reduceAdd,Nat.reduceMul,Int.reduceNeg,Nat.reduceLeDiff,List.length_cons,List.length_nil,true_and,and_true,Nat.zero_add,eq_self,Nat.reduceEqDiff,Int.reduceAdd,Int.reduceSub,Int.reduceMul,not_true_eq_false,Nat.reduceLT,Int.reduceToNat,Int.reduceEq,Int.reduceNe,Int.reduceLT,Int.reduceLE,false_implies,true_implies]
      repeat' (first | with_reducible refine And.intro ?_ ?_ | with_reducible intro _ | ((first | with_reducible refine w_X_power_21 ?_); simp (disch := omega) only [cm_,aq_,a1_,ag_,aj_,b8_,af_,ah_,c0_,b0_,bi_,br_,bz_,bq_,ed_,bs_,b6_,a4_,dw_,d6_,ea_,d3_,bn_,b5_,d9_,d7_,fh_,fw_,fp_,c5_,bd_,ct_,cx_,cr_,cf_,an_,Int.toNat_natCast,f3_,di_,dm_,dn_,en_,es_,eo_,er_,ep_,f2_,cc_,f1_,ek_,em_,el_,eq_,Nat.reduceAdd,Nat.reduceMul,Int.reduceNeg,Nat.reduceLeDiff,List.length_cons,List.length_nil,true_and,and_true,Nat.zero_add,eq_self,Nat.reduceEqDiff,Int.reduceAdd,Int.reduceSub,Int.reduceMul,not_true_eq_false,Nat.reduceLT,Int.reduceToNat,Int.reduceEq,Int.reduceNe,Int.reduceLT,Int.reduceLE,false_implies,true_implies]))
      all_goals first | omega | exact step
  have := loop n 0 (Nat.zero_add _)
  rw [Int.pow_zero] at this
  exact this
theorem con_gcd {a b : Nat} (ha : a < 1099511627776) (hb : b < 1099511627776) (hQ : Q (some (.long (zJ (Nat.gcd a b : Nat)))) h) : Con M_X_commonDivisor [.long (zJ a), .long (zJ b)] h Q := by
  refine g8_ (L := [some (.long (zJ a)), none, some (.long (zJ b)), none, none, none, none, none, none, none, none]) ok_X_commonDivisor (Nat.le_of_ble_eq_true rfl) rfl ?_
  refine w_X_commonDivisor_0 ?_
  simp (disch := omega) only [cm_,aq_,a1_,ag_,aj_,b8_,af_,ah_,c0_,b0_,bi_,br_,bz_,bq_,ed_,bs_,b6_,a4_,dw_,d6_,ea_,d3_,bn_,b5_,d9_,d7_,fh_,fw_,fp_,c5_,bd_,ct_,cx_,cr_,cf_,an_,Int.toNat_natCast,f3_,di_,dm_,dn_,en_,es_,eo_,er_,ep_,f2_,cc_,f1_,ek_,em_,el_,eq_,Nat.reduceAdd,Nat.reduceMul,Int.reduceNeg,Nat.reduceLeDiff,List.length_cons,List.length_nil,true_and,and_true,Nat.zero_add,eq_self,Nat.reduceEqDiff,Int.reduceAdd,Int.reduceSub,Int.reduceMul,not_true_eq_false,Nat.reduceLT,Int.reduceToNat,Int.reduceEq,Int.reduceNe,Int.reduceLT,Int.reduceLE,false_implies,true_implies]
  have stop : ∀ (g i : Nat) (x9 x10 : Option Value), g < 1099511627776 → i ≤ 200 → g = Nat.gcd a b → J M_X_commonDivisor 9 [some (.long (zJ a)), none, some (.long (zJ b)), none, some (.long (zJ g)), none, some (.long (zJ (0 : Nat))), none, some (.int (zI i)), x9, x10] [] h Q := by
    intro g i x9 x10 hg hi he
    have e0 : ((0 : Nat) : Int) = 0 := rfl
    rw [← he] at hQ
    refine w_X_commonDivisor_9 ?_
    simp (disch := omega) only [cm_,aq_,a1_,ag_,aj_,b8_,af_,ah_,c0_,b0_,bi_,br_,bz_,bq_,ed_,bs_,b6_,a4_,dw_,d6_,ea_,d3_,bn_,b5_,d9_,d7_,fh_,fw_,fp_,c5_,bd_,ct_,cx_,cr_,cf_,an_,Int.toNat_natCast,f3_,di_,dm_,dn_,en_,es_,eo_,er_,ep_,f2_,cc_,f1_,ek_,em_,el_,eq_,Nat.reduceAdd,Nat.reduceMul,Int.reduceNeg,Nat.reduceLeDiff,List.length_cons,List.length_nil,true_and,and_true,Nat.zero_add,eq_self,Nat.reduceEqDiff,Int.reduceAdd,Int.reduceSub,Int.reduceMul,not_true_eq_false,Nat.reduceLT,Int.reduceToNat,Int.reduceEq,Int.reduceNe,Int.reduceLT,Int.reduceLE,false_implies,true_implies,e0]
    repeat' (first | with_reducible refine And.intro ?_ ?_ | with_reducible intro _ | ((first | with_reducible refine w_X_commonDivisor_45 ?_); simp (disch := omega) only [cm_,aq_,a1_,ag_,aj_,b8_,af_,ah_,c0_,b0_,bi_,br_,bz_,bq_,ed_,bs_,b6_,a4_,dw_,d6_,ea_,d3_,bn_,b5_,d9_,d7_,fh_,fw_,fp_,c5_,bd_,ct_,cx_,cr_,cf_,an_,Int.toNat_natCast,f3_,di_,dm_,dn_,en_,es_,eo_,er_,ep_,f2_,cc_,f1_,ek_,em_,el_,eq_,Nat.reduceAdd,Nat.reduceMul,Int.reduceNeg,Nat.reduceLeDiff,List.length_cons,List.length_nil,true_and,and_true,Nat.zero_add,eq_self,Nat.reduceEqDiff,Int.reduceAdd,Int.reduceSub,Int.reduceMul,not_true_eq_false,Nat.reduceLT,Int.reduceToNat,Int.reduceEq,Int.reduceNe,Int.reduceLT,Int.reduceLE,false_implies,true_implies]))
    all_goals first | omega | exact hQ
  have one : ∀ (g s i : Nat), g < 1099511627776 → 0 < s → s < 1099511627776 → i < 200 → (∀ x9 x10, J M_X_commonDivisor 9 [some (.long (zJ a)), none, some (.long (zJ b)), none, some (.long (zJ s)), none, some (.long (zJ (g % s : Nat))), none, some (.int (zI (i + 1 : Nat))), x9, x10] [] h Q) → ∀ x9 x10, J M_X_commonDivisor 9 [some (.long (zJ a)), none, some (.long (zJ b)), none, some (.long (zJ g)), none, some (.long (zJ s)), none, some (.int (zI i)), x9, x10] [] h Q := by
    intro g s i hg hs hs2 hi H x9 x10
    have em : zJ ((g : Int) - (g : Int) / (s : Int) * (s : Int)) = zJ ((g % s : Nat) : Int) := by
      congr 1
      rw [Int.natCast_emod, Int.emod_def, Int.mul_comm]
    refine w_X_commonDivisor_9 ?_
    simp (disch := omega) only [cm_,aq_,a1_,ag_,aj_,b8_,af_,ah_,c0_,b0_,bi_,br_,bz_,bq_,ed_,bs_,b6_,a4_,dw_,d6_,ea_,d3_,bn_,b5_,d9_,d7_,fh_,fw_,fp_,c5_,bd_,ct_,cx_,cr_,cf_,an_,Int.toNat_natCast,f3_,di_,dm_,dn_,en_,es_,eo_,er_,ep_,f2_,cc_,f1_,ek_,em_,el_,eq_,Nat.reduceAdd,Nat.reduceMul,Int.reduceNeg,Nat.reduceLeDiff,List.length_cons,List.length_nil,true_and,and_true,Nat.zero_add,eq_self,Nat.reduceEqDiff,Int.reduceAdd,Int.reduceSub,Int.reduceMul,not_true_eq_false,Nat.reduceLT,Int.reduceToNat,Int.reduceEq,Int.reduceNe,Int.reduceLT,Int.reduceLE,false_implies,true_implies,em]
    repeat' (first | with_reducible refine And.intro ?_ ?_ | with_reducible intro _ | ((first | with_reducible refine w_X_commonDivisor_45 ?_); simp (disch := omega) only [cm_,aq_,a1_,ag_,aj_,b8_,af_,ah_,c0_,b0_,bi_,br_,bz_,bq_,ed_,bs_,b6_,a4_,dw_,d6_,ea_,d3_,bn_,b5_,d9_,d7_,fh_,fw_,fp_,c5_,bd_,ct_,cx_,cr_,cf_,an_,Int.toNat_natCast,f3_,di_,dm_,dn_,en_,es_,eo_,er_,ep_,f2_,cc_,f1_,ek_,em_,el_,eq_,Nat.reduceAdd,Nat.reduceMul,Int.reduceNeg,Nat.reduceLeDiff,List.length_cons,List.length_nil,true_and,and_true,Nat.zero_add,eq_self,Nat.reduceEqDiff,Int.reduceAdd,Int.reduceSub,Int.reduceMul,not_true_eq_false,Nat.reduceLT,Int.reduceToNat,Int.reduceEq,Int.reduceNe,Int.reduceLT,Int.reduceLE,false_implies,true_implies]))
    all_goals first | omega | exact H _ _
  have loop : ∀ (k g s i : Nat), s < 2 ^ k → g < 1099511627776 → s < 1099511627776 → i + 2 * k ≤ 190 → Nat.gcd g s = Nat.gcd a b → ∀ x9 x10, J M_X_commonDivisor 9 [some (.long (zJ a)), none, some (.long (zJ b)), none, some (.long (zJ g)), none, some (.long (zJ s)), none, some (.int (zI i)), x9, x10] [] h Q := by
    intro k
    induction k with
    | zero =>
      intro g s i hk hg hs hi he x9 x10
      have e : s = 0 := by omega
      subst e
      exact stop g i x9 x10 hg (by omega) (by rw [← he, Nat.gcd_zero_right])
    | succ k ih =>
      intro g s i hk hg hs hi he
      rcases Nat.eq_zero_or_pos s with e | hp
      · subst e
        intro x9 x10
        exact stop g i x9 x10 hg (by omega) (by rw [← he, Nat.gcd_zero_right])
      · have hr : g % s < s := Nat.mod_lt _ hp
        have he2 : Nat.gcd s (g % s) = Nat.gcd a b := by rw [← he, Nat.gcd_comm g s, Nat.gcd_rec s g, Nat.gcd_comm]
        refine one g s i hg hp hs (by omega) (fun y9 y10 => ?_)
        rcases Nat.eq_zero_or_pos (g % s) with e | hp2
        · rw [e]
          exact stop s (i + 1) y9 y10 hs (by omega) (by rw [← he2, e, Nat.gcd_zero_right])
        · have hr2 : s % (g % s) < g % s := Nat.mod_lt _ hp2
          have hr3 : 2 * (s % (g % s)) < s := by
            have h1 := Nat.div_add_mod s (g % s)
            have h2 : 1 ≤ s / (g % s) := Nat.div_pos (by omega) hp2
            have h3 : g % s * 1 ≤ g % s * (s / (g % s)) := Nat.mul_le_mul_left _ h2
            omega
          have he3 : Nat.gcd (g % s) (s % (g % s)) = Nat.gcd a b := by rw [← he2, Nat.gcd_comm s (g % s), Nat.gcd_rec (g % s) s, Nat.gcd_comm]
          have hk2 : s % (g % s) < 2 ^ k := by
            have : 2 ^ (k + 1) = 2 * 2 ^ k := by rw [Nat.pow_succ, Nat.mul_comm]
            omega
          exact one s (g % s) (i + 1) hs hp2 (by omega) (by omega) (fun z9 z10 => ih _ _ (i + 1 + 1) hk2 (by omega) (by omega) (by omega) he3 z9 z10) y9 y10
  exact loop 40 a b 0 (by omega) ha hb (by omega) rfl _ _
theorem con_inLowestTerms {a b : Nat} {p : Int} (ha : a < 1099511627776) (hb : b < 1099511627776) (hp : p = 0 ∨ p = 1) (hQ : Q (some (.long (zJ (ltF a b p)))) h) : Con M_X_inLowestTerms [.long (zJ a), .long (zJ b), .int (zI p)] h Q := by
  simp only [ltF] at hQ
  refine g8_ (L := [some (.long (zJ a)), none, some (.long (zJ b)), none, some (.int (zI p)), none, none]) ok_X_inLowestTerms (Nat.le_of_ble_eq_true rfl) rfl ?_
  refine w_X_inLowestTerms_0 ?_
  simp (disch := omega) only [cm_,aq_,a1_,ag_,aj_,b8_,af_,ah_,c0_,b0_,bi_,br_,bz_,bq_,ed_,bs_,b6_,a4_,dw_,d6_,ea_,d3_,bn_,b5_,d9_,d7_,fh_,fw_,fp_,c5_,bd_,ct_,cx_,cr_,cf_,an_,Int.toNat_natCast,f3_,di_,dm_,dn_,en_,es_,eo_,er_,ep_,f2_,cc_,f1_,ek_,em_,el_,eq_,Nat.reduceAdd,Nat.reduceMul,Int.reduceNeg,Nat.reduceLeDiff,List.length_cons,List.length_nil,true_and,and_true,Nat.zero_add,eq_self,Nat.reduceEqDiff,Int.reduceAdd,Int.reduceSub,Int.reduceMul,not_true_eq_false,Nat.reduceLT,Int.reduceToNat,Int.reduceEq,Int.reduceNe,Int.reduceLT,Int.reduceLE,false_implies,true_implies]
  by_cases c : a = 0 ∨ b = 0
  · rw [if_pos c] at hQ
    repeat' (first | with_reducible refine And.intro ?_ ?_ | with_reducible intro _ | ((first | with_reducible refine w_X_inLowestTerms_12 ?_ | with_reducible refine w_X_inLowestTerms_16 ?_ | with_reducible refine w_X_inLowestTerms_34 ?_ | with_reducible refine w_X_inLowestTerms_46 ?_ | with_reducible refine w_X_inLowestTerms_50 ?_); simp (disch := omega) only [cm_,aq_,a1_,ag_,aj_,b8_,af_,ah_,c0_,b0_,bi_,br_,bz_,bq_,ed_,bs_,b6_,a4_,dw_,d6_,ea_,d3_,bn_,b5_,d9_,d7_,fh_,fw_,fp_,c5_,bd_,ct_,cx_,cr_,cf_,an_,Int.toNat_natCast,f3_,di_,dm_,dn_,en_,es_,eo_,er_,ep_,f2_,cc_,f1_,ek_,em_,el_,eq_,Nat.reduceAdd,Nat.reduceMul,Int.reduceNeg,Nat.reduceLeDiff,List.length_cons,List.length_nil,true_and,and_true,Nat.zero_add,eq_self,Nat.reduceEqDiff,Int.reduceAdd,Int.reduceSub,Int.reduceMul,not_true_eq_false,Nat.reduceLT,Int.reduceToNat,Int.reduceEq,Int.reduceNe,Int.reduceLT,Int.reduceLE,false_implies,true_implies]))
    all_goals first | omega | exact hQ | skip
    all_goals (exfalso; omega)
  · rw [if_neg c] at hQ
    have hg : 0 < Nat.gcd a b := Nat.gcd_pos_of_pos_left _ (by omega)
    have hg2 : Nat.gcd a b ≤ a := Nat.le_of_dvd (by omega) (Nat.gcd_dvd_left a b)
    rw [Int.natCast_ediv, Int.natCast_ediv] at hQ
    repeat' (first | with_reducible refine And.intro ?_ ?_ | with_reducible intro _ | ((first | with_reducible refine w_X_inLowestTerms_12 ?_ | with_reducible refine w_X_inLowestTerms_16 ?_ | with_reducible refine w_X_inLowestTerms_34 ?_ | with_reducible refine w_X_inLowestTerms_46 ?_ | with_reducible refine w_X_inLowestTerms_50 ?_ | (refine con_gcd ha hb ?_)); simp (disch := omega) only [cm_,aq_,a1_,ag_,aj_,b8_,af_,ah_,c0_,b0_,bi_,br_,bz_,bq_,ed_,bs_,b6_,a4_,dw_,d6_,ea_,d3_,bn_,b5_,d9_,d7_,fh_,fw_,fp_,c5_,bd_,ct_,cx_,cr_,cf_,an_,Int.toNat_natCast,f3_,di_,dm_,dn_,en_,es_,eo_,er_,ep_,f2_,cc_,f1_,ek_,em_,el_,eq_,Nat.reduceAdd,Nat.reduceMul,Int.reduceNeg,Nat.reduceLeDiff,List.length_cons,List.length_nil,true_and,and_true,Nat.zero_add,eq_self,Nat.reduceEqDiff,Int.reduceAdd,Int.reduceSub,Int.reduceMul,not_true_eq_false,Nat.reduceLT,Int.reduceToNat,Int.reduceEq,Int.reduceNe,Int.reduceLT,Int.reduceLE,false_implies,true_implies]))
    all_goals first | omega | (rw [if_pos (by omega)] at hQ; exact hQ) | (rw [if_neg (by omega)] at hQ; exact hQ)
end C10
end
/-! chances -/
section
/-! ===== the chances ===== -/
def lotR (R : RR) (z : Int) (i k : Nat) : RR := sSl R (fun s => if s < k then drF (sdN z (12 * i + s + 1)) else rSl R s)
def lgN (s : SQ) (R : RR) (z : Int) : Nat → Int
  | 0 => 0
  | i + 1 => lgN s R z i + (hd_ (s (lotR R z i 12) 15) - hd_ R)
def ldN (s : SQ) (R : RR) (z : Int) : Nat → Int
  | 0 => 0
  | i + 1 => ldN s R z i + ((pop8 (mask (isF (s (lotR R z i 12) 15) 2) (hb_ (s (lotR R z i 12) 15))) : Nat) : Int)
def flR (D : RR → RR) (R : RR) (f : Nat) : Nat → RR
  | 0 => R
  | d + 1 => D (if f.testBit d = true then sSnow (flR D R f d) (min 9 (rSnow (flR D R f d) + 4)) else flR D R f d)
def wyN (D : RR → RR) (R : RR) (n : Nat) (t v : Int) : Nat → Int
  | 0 => 0
  | f + 1 => if v ≤ hd_ (flR D R f n) then wyN D R n t v f + (t - 1) ^ (n - pop8 f) else wyN D R n t v f
theorem GR.lot {R : RR} (h : GR R) (z : Int) (i k : Nat) : GR (lotR R z i k) := by
  obtain ⟨h1, h2, h3, h4, h5, h6, h7, h8, h9⟩ := id h
  refine ⟨h1, h2, h3, h4, fun k => ?_, h6, h7, h8, h9⟩
  simp only [lotR, dt_]
  split
  · exact drF_rng _
  · exact h5 k
theorem GR.fl {R : RR} (h : GR R) (f d : Nat) : GR (flR dayX R f d) := by
  induction d with
  | zero => exact h
  | succ d ih =>
    have := ih.snow
    simp only [flR]
    split
    · exact (ih.setSnow (by omega)).dX
    · exact ih.dX
theorem pop8_low {f n : Nat} (hn : n ≤ 7) (hf : f < 2 ^ n) : pop8 f ≤ n := by
  have h : ∀ n : Fin 8, ∀ f : Fin 128, f.val < 2 ^ n.val → pop8 f.val ≤ n.val := by decide +kernel
  have h2 : 2 ^ n ≤ 2 ^ 7 := Nat.pow_le_pow_right (by omega) hn
  exact h ⟨n, by omega⟩ ⟨f, by omega⟩ hf
section C11
variable {rs : Nat → RR} {pi : Nat → Nat} {psz : Int} {lt : Nat → Int} {lsz : Int} {tn : Nat → Int} {tsz : Int} {g1 g2 : Nat → Int} {sd : Int} {rf : Nat → Int} {im : Int} {hM : AH} {Q : Option Value → AH → Prop} {A : RR}
theorem con_HdrawDigit (hQ : Q (some (.int (zI (drF (nxS sd))))) (HX rs pi psz lt lsz tn tsz g1 g2 (nxS sd) rf im hM)) : Con M_Ch_drawDigit [.ref 88] (HX rs pi psz lt lsz tn tsz g1 g2 sd rf im hM) Q := by
  have e : nxS sd = sd * 1103515245 + 12345 := rfl
  have e2 : drF (nxS sd) = (sd * 1103515245 + 12345) % 2147483648 / 65536 - (sd * 1103515245 + 12345) % 2147483648 / 65536 / 10 * 10 := by
    simp only [drF, nxS]
    omega
  rw [e2, e] at hQ
  refine g8_ (L := [some (.ref 88)]) ok_Ch_drawDigit (Nat.le_of_ble_eq_true rfl) rfl ?_
  refine w_Ch_drawDigit_0 ?_
  simp (disch := omega) only [cm_,aq_,a1_,ay_,ag_,aj_,b8_,af_,cg_,ah_,ba_,bc_,bx_,bb_,b3_,bv_,bh_,bl_,c0_,bp_,b4_,ac_,b2_,bq_,ed_,bs_,ao_,b6_,a2_,az_,ar_,av_,a4_,dw_,d6_,ea_,d3_,bn_,b5_,d9_,d7_,fl_,fn_,fh_,fw_,fu_,fp_,fz_,fq_,fk_,fr_,f0_,c5_,bt_,bd_,c3_,ct_,cx_,co_,cr_,cf_,ch_,ci_,an_,dt_,cd_,a9_,a8_,a7_,ce_,cv_,d1_,cq_,Int.toNat_natCast,b9_,c7_,ej_,f3_,e9_,gd_,fa_,dq_,et_,di_,dm_,dn_,en_,er_,Nat.reduceAdd,Nat.reduceMul,Int.reduceNeg,Nat.reduceLeDiff,List.length_cons,List.length_nil,true_and,and_true,Nat.zero_add,eq_self,Nat.reduceEqDiff,Int.reduceAdd,Int.reduceSub,Int.reduceMul,not_true_eq_false,Nat.reduceLT,Int.reduceToNat,Int.reduceEq,Int.reduceNe,Int.reduceLT,Int.reduceLE,false_implies,true_implies,zI_and31]
  exact hQ
theorem con_HreignsByLot {n : Nat} {z w : Int} (hn : n ≤ 20) (hw : w = 0 ∨ w = 1) (hA : GR A) (hG : GR (rs 0)) (hQ : ∀ B x, GR B → Q (some (.int (zI (if w = 0 then lgN g6_ (rs 0) z n else ldN g6_ (rs 0) z n)))) (HX (upR rs 12 B) pi psz lt lsz tn tsz g1 g2 (x) rf im hM)) : Con M_Ch_reignsByLot [.ref 88, .ref 0, .int (zI n), .int (zI z), .int (zI w)] (HX (upR rs 12 A) pi psz lt lsz tn tsz g1 g2 sd rf im hM) Q := by
  refine g8_ (L := [some (.ref 88), some (.ref 0), some (.int (zI n)), some (.int (zI z)), some (.int (zI w)), none, none, none, none]) ok_Ch_reignsByLot (Nat.le_of_ble_eq_true rfl) rfl ?_
  refine w_Ch_reignsByLot_0 ?_
  simp (disch := omega) only [cm_,aq_,a1_,ay_,ag_,aj_,b8_,af_,cg_,ah_,ba_,bc_,bx_,bb_,b3_,bv_,bh_,bl_,c0_,bp_,b4_,ac_,b2_,bq_,ed_,bs_,ao_,b6_,a2_,az_,ar_,av_,a4_,dw_,d6_,ea_,d3_,bn_,b5_,d9_,d7_,fl_,fn_,fh_,fw_,fu_,fp_,fz_,fq_,fk_,fr_,f0_,c5_,bt_,bd_,c3_,ct_,cx_,co_,cr_,cf_,ch_,ci_,an_,dt_,cd_,a9_,a8_,a7_,ce_,cv_,d1_,cq_,Int.toNat_natCast,b9_,c7_,ej_,f3_,e9_,gd_,fa_,dq_,et_,di_,dm_,dn_,en_,er_,Nat.reduceAdd,Nat.reduceMul,Int.reduceNeg,Nat.reduceLeDiff,List.length_cons,List.length_nil,true_and,and_true,Nat.zero_add,eq_self,Nat.reduceEqDiff,Int.reduceAdd,Int.reduceSub,Int.reduceMul,not_true_eq_false,Nat.reduceLT,Int.reduceToNat,Int.reduceEq,Int.reduceNe,Int.reduceLT,Int.reduceLE,false_implies,true_implies]
  have outer : ∀ k i : Nat, i + k = n → ∀ B, GR B → ∀ x8, J M_Ch_reignsByLot 14 [some (.ref 88), some (.ref 0), some (.int (zI n)), some (.int (zI z)), some (.int (zI w)), some (.int (zI (lgN g6_ (rs 0) z i))), some (.int (zI (ldN g6_ (rs 0) z i))), some (.int (zI i)), x8] [] (HX (upR rs 12 B) pi psz lt lsz tn tsz g1 g2 (sdN z (12 * i)) rf im hM) Q := by
    intro k
    induction k with
    | zero =>
      intro i hi B hB x8
      have e : i = n := by omega
      subst e
      have hQ := hQ B (sdN z (12 * i)) hB
      refine w_Ch_reignsByLot_14 ?_
      simp (disch := omega) only [cm_,aq_,a1_,ay_,ag_,aj_,b8_,af_,cg_,ah_,ba_,bc_,bx_,bb_,b3_,bv_,bh_,bl_,c0_,bp_,b4_,ac_,b2_,bq_,ed_,bs_,ao_,b6_,a2_,az_,ar_,av_,a4_,dw_,d6_,ea_,d3_,bn_,b5_,d9_,d7_,fl_,fn_,fh_,fw_,fu_,fp_,fz_,fq_,fk_,fr_,f0_,c5_,bt_,bd_,c3_,ct_,cx_,co_,cr_,cf_,ch_,ci_,an_,dt_,cd_,a9_,a8_,a7_,ce_,cv_,d1_,cq_,Int.toNat_natCast,b9_,c7_,ej_,f3_,e9_,gd_,fa_,dq_,et_,di_,dm_,dn_,en_,er_,Nat.reduceAdd,Nat.reduceMul,Int.reduceNeg,Nat.reduceLeDiff,List.length_cons,List.length_nil,true_and,and_true,Nat.zero_add,eq_self,Nat.reduceEqDiff,Int.reduceAdd,Int.reduceSub,Int.reduceMul,not_true_eq_false,Nat.reduceLT,Int.reduceToNat,Int.reduceEq,Int.reduceNe,Int.reduceLT,Int.reduceLE,false_implies,true_implies]
      repeat' (first | with_reducible refine And.intro ?_ ?_ | with_reducible intro _ | ((first | with_reducible refine w_Ch_reignsByLot_58 ?_ | with_reducible refine w_Ch_reignsByLot_107 ?_ | with_reducible refine w_Ch_reignsByLot_117 ?_ | with_reducible refine w_Ch_reignsByLot_119 ?_); simp (disch := omega) only [cm_,aq_,a1_,ay_,ag_,aj_,b8_,af_,cg_,ah_,ba_,bc_,bx_,bb_,b3_,bv_,bh_,bl_,c0_,bp_,b4_,ac_,b2_,bq_,ed_,bs_,ao_,b6_,a2_,az_,ar_,av_,a4_,dw_,d6_,ea_,d3_,bn_,b5_,d9_,d7_,fl_,fn_,fh_,fw_,fu_,fp_,fz_,fq_,fk_,fr_,f0_,c5_,bt_,bd_,c3_,ct_,cx_,co_,cr_,cf_,ch_,ci_,an_,dt_,cd_,a9_,a8_,a7_,ce_,cv_,d1_,cq_,Int.toNat_natCast,b9_,c7_,ej_,f3_,e9_,gd_,fa_,dq_,et_,di_,dm_,dn_,en_,er_,Nat.reduceAdd,Nat.reduceMul,Int.reduceNeg,Nat.reduceLeDiff,List.length_cons,List.length_nil,true_and,and_true,Nat.zero_add,eq_self,Nat.reduceEqDiff,Int.reduceAdd,Int.reduceSub,Int.reduceMul,not_true_eq_false,Nat.reduceLT,Int.reduceToNat,Int.reduceEq,Int.reduceNe,Int.reduceLT,Int.reduceLE,false_implies,true_implies]))
      all_goals first | omega | (rw [if_neg (by omega)] at hQ; exact hQ) | (rw [if_pos (by omega)] at hQ; exact hQ)
    | succ k ih =>
      intro i hi B hB x8
      have inner : ∀ m s : Nat, s + m = 12 → J M_Ch_reignsByLot 31 [some (.ref 88), some (.ref 0), some (.int (zI n)), some (.int (zI z)), some (.int (zI w)), some (.int (zI (lgN g6_ (rs 0) z i))), some (.int (zI (ldN g6_ (rs 0) z i))), some (.int (zI i)), some (.int (zI s))] [] (HX (upR rs 12 (lotR (rs 0) z i s)) pi psz lt lsz tn tsz g1 g2 (sdN z (12 * i + s)) rf im hM) Q := by
        intro m
        induction m with
        | zero =>
          intro s hs
          have e : s = 12 := by omega
          subst e
          have hL := hG.lot z i 12
          have hM := (hL.dsX 15).nM
          have hm := mask_256 (isF (g6_ (lotR (rs 0) z i 12) 15) 2) hM.2
          have step := ih (i + 1) (by omega) _ (hL.dsX 15) (some (.int (zI 12)))
          simp only [lgN, ldN] at step
          rw [show 12 * (i + 1) = 12 * i + 12 by omega] at step
          refine w_Ch_reignsByLot_31 ?_
          simp (disch := omega) only [cm_,aq_,a1_,ay_,ag_,aj_,b8_,af_,cg_,ah_,ba_,bc_,bx_,bb_,b3_,bv_,bh_,bl_,c0_,bp_,b4_,ac_,b2_,bq_,ed_,bs_,ao_,b6_,a2_,az_,ar_,av_,a4_,dw_,d6_,ea_,d3_,bn_,b5_,d9_,d7_,fl_,fn_,fh_,fw_,fu_,fp_,fz_,fq_,fk_,fr_,f0_,c5_,bt_,bd_,c3_,ct_,cx_,co_,cr_,cf_,ch_,ci_,an_,dt_,cd_,a9_,a8_,a7_,ce_,cv_,d1_,cq_,Int.toNat_natCast,b9_,c7_,ej_,f3_,e9_,gd_,fa_,dq_,et_,di_,dm_,dn_,en_,er_,Nat.reduceAdd,Nat.reduceMul,Int.reduceNeg,Nat.reduceLeDiff,List.length_cons,List.length_nil,true_and,and_true,Nat.zero_add,eq_self,Nat.reduceEqDiff,Int.reduceAdd,Int.reduceSub,Int.reduceMul,not_true_eq_false,Nat.reduceLT,Int.reduceToNat,Int.reduceEq,Int.reduceNe,Int.reduceLT,Int.reduceLE,false_implies,true_implies]
          refine w_Ch_reignsByLot_58 ?_
          simp (disch := omega) only [cm_,aq_,a1_,ay_,ag_,aj_,b8_,af_,cg_,ah_,ba_,bc_,bx_,bb_,b3_,bv_,bh_,bl_,c0_,bp_,b4_,ac_,b2_,bq_,ed_,bs_,ao_,b6_,a2_,az_,ar_,av_,a4_,dw_,d6_,ea_,d3_,bn_,b5_,d9_,d7_,fl_,fn_,fh_,fw_,fu_,fp_,fz_,fq_,fk_,fr_,f0_,c5_,bt_,bd_,c3_,ct_,cx_,co_,cr_,cf_,ch_,ci_,an_,dt_,cd_,a9_,a8_,a7_,ce_,cv_,d1_,cq_,Int.toNat_natCast,b9_,c7_,ej_,f3_,e9_,gd_,fa_,dq_,et_,di_,dm_,dn_,en_,er_,Nat.reduceAdd,Nat.reduceMul,Int.reduceNeg,Nat.reduceLeDiff,List.length_cons,List.length_nil,true_and,and_true,Nat.zero_add,eq_self,Nat.reduceEqDiff,Int.reduceAdd,Int.reduceSub,Int.reduceMul,not_true_eq_false,Nat.reduceLT,Int.reduceToNat,Int.reduceEq,Int.reduceNe,Int.reduceLT,Int.reduceLE,false_implies,true_implies]
          refine conM_passDays (q := 12) (n := 15) (by omega) (by omega) hL ?_
          simp (disch := omega) only [cm_,aq_,a1_,ay_,ag_,aj_,b8_,af_,cg_,ah_,ba_,bc_,bx_,bb_,b3_,bv_,bh_,bl_,c0_,bp_,b4_,ac_,b2_,bq_,ed_,bs_,ao_,b6_,a2_,az_,ar_,av_,a4_,dw_,d6_,ea_,d3_,bn_,b5_,d9_,d7_,fl_,fn_,fh_,fw_,fu_,fp_,fz_,fq_,fk_,fr_,f0_,c5_,bt_,bd_,c3_,ct_,cx_,co_,cr_,cf_,ch_,ci_,an_,dt_,cd_,a9_,a8_,a7_,ce_,cv_,d1_,cq_,Int.toNat_natCast,b9_,c7_,ej_,f3_,e9_,gd_,fa_,dq_,et_,di_,dm_,dn_,en_,er_,Nat.reduceAdd,Nat.reduceMul,Int.reduceNeg,Nat.reduceLeDiff,List.length_cons,List.length_nil,true_and,and_true,Nat.zero_add,eq_self,Nat.reduceEqDiff,Int.reduceAdd,Int.reduceSub,Int.reduceMul,not_true_eq_false,Nat.reduceLT,Int.reduceToNat,Int.reduceEq,Int.reduceNe,Int.reduceLT,Int.reduceLE,false_implies,true_implies]
          refine conM_menWhoAre (q := 12) (by omega) (by unfold inI; omega) (hL.dsX 15) ?_
          simp (disch := omega) only [cm_,aq_,a1_,ay_,ag_,aj_,b8_,af_,cg_,ah_,ba_,bc_,bx_,bb_,b3_,bv_,bh_,bl_,c0_,bp_,b4_,ac_,b2_,bq_,ed_,bs_,ao_,b6_,a2_,az_,ar_,av_,a4_,dw_,d6_,ea_,d3_,bn_,b5_,d9_,d7_,fl_,fn_,fh_,fw_,fu_,fp_,fz_,fq_,fk_,fr_,f0_,c5_,bt_,bd_,c3_,ct_,cx_,co_,cr_,cf_,ch_,ci_,an_,dt_,cd_,a9_,a8_,a7_,ce_,cv_,d1_,cq_,Int.toNat_natCast,b9_,c7_,ej_,f3_,e9_,gd_,fa_,dq_,et_,di_,dm_,dn_,en_,er_,Nat.reduceAdd,Nat.reduceMul,Int.reduceNeg,Nat.reduceLeDiff,List.length_cons,List.length_nil,true_and,and_true,Nat.zero_add,eq_self,Nat.reduceEqDiff,Int.reduceAdd,Int.reduceSub,Int.reduceMul,not_true_eq_false,Nat.reduceLT,Int.reduceToNat,Int.reduceEq,Int.reduceNe,Int.reduceLT,Int.reduceLE,false_implies,true_implies]
          refine con_bitCount hm ?_
          simp (disch := omega) only [cm_,aq_,a1_,ay_,ag_,aj_,b8_,af_,cg_,ah_,ba_,bc_,bx_,bb_,b3_,bv_,bh_,bl_,c0_,bp_,b4_,ac_,b2_,bq_,ed_,bs_,ao_,b6_,a2_,az_,ar_,av_,a4_,dw_,d6_,ea_,d3_,bn_,b5_,d9_,d7_,fl_,fn_,fh_,fw_,fu_,fp_,fz_,fq_,fk_,fr_,f0_,c5_,bt_,bd_,c3_,ct_,cx_,co_,cr_,cf_,ch_,ci_,an_,dt_,cd_,a9_,a8_,a7_,ce_,cv_,d1_,cq_,Int.toNat_natCast,b9_,c7_,ej_,f3_,e9_,gd_,fa_,dq_,et_,di_,dm_,dn_,en_,er_,Nat.reduceAdd,Nat.reduceMul,Int.reduceNeg,Nat.reduceLeDiff,List.length_cons,List.length_nil,true_and,and_true,Nat.zero_add,eq_self,Nat.reduceEqDiff,Int.reduceAdd,Int.reduceSub,Int.reduceMul,not_true_eq_false,Nat.reduceLT,Int.reduceToNat,Int.reduceEq,Int.reduceNe,Int.reduceLT,Int.reduceLE,false_implies,true_implies]
          exact step
        | succ m ihm =>
          intro s hs
          have step := ihm (s + 1) (by omega)
          have hd := drF_rng (nxS (sdN z (12 * i + s)))
          have e1 : sdN z (12 * i + (s + 1)) = nxS (sdN z (12 * i + s)) := rfl
          have e2 : lotR (rs 0) z i (s + 1) = sSl (lotR (rs 0) z i s) (upI (rSl (lotR (rs 0) z i s)) s (drF (nxS (sdN z (12 * i + s))))) := by
            refine congrArg (fun f => sSl (rs 0) f) ?_
            funext j
            simp only [upI]
            by_cases hj : j = s
            · subst hj
              rw [if_pos (by omega), if_pos rfl]
              rfl
            · simp only [hj, if_false, show (j < s + 1) = (j < s) by simp; omega]
              rfl
          rw [e1, e2] at step
          refine w_Ch_reignsByLot_31 ?_
          simp (disch := omega) only [cm_,aq_,a1_,ay_,ag_,aj_,b8_,af_,cg_,ah_,ba_,bc_,bx_,bb_,b3_,bv_,bh_,bl_,c0_,bp_,b4_,ac_,b2_,bq_,ed_,bs_,ao_,b6_,a2_,az_,ar_,av_,a4_,dw_,d6_,ea_,d3_,bn_,b5_,d9_,d7_,fl_,fn_,fh_,fw_,fu_,fp_,fz_,fq_,fk_,fr_,f0_,c5_,bt_,bd_,c3_,ct_,cx_,co_,cr_,cf_,ch_,ci_,an_,dt_,cd_,a9_,a8_,a7_,ce_,cv_,d1_,cq_,Int.toNat_natCast,b9_,c7_,ej_,f3_,e9_,gd_,fa_,dq_,et_,di_,dm_,dn_,en_,er_,Nat.reduceAdd,Nat.reduceMul,Int.reduceNeg,Nat.reduceLeDiff,List.length_cons,List.length_nil,true_and,and_true,Nat.zero_add,eq_self,Nat.reduceEqDiff,Int.reduceAdd,Int.reduceSub,Int.reduceMul,not_true_eq_false,Nat.reduceLT,Int.reduceToNat,Int.reduceEq,Int.reduceNe,Int.reduceLT,Int.reduceLE,false_implies,true_implies]
          refine ⟨fun _ => by omega, fun _ => ?_⟩
          refine con_HdrawDigit ?_
          simp (disch := omega) only [cm_,aq_,a1_,ay_,ag_,aj_,b8_,af_,cg_,ah_,ba_,bc_,bx_,bb_,b3_,bv_,bh_,bl_,c0_,bp_,b4_,ac_,b2_,bq_,ed_,bs_,ao_,b6_,a2_,az_,ar_,av_,a4_,dw_,d6_,ea_,d3_,bn_,b5_,d9_,d7_,fl_,fn_,fh_,fw_,fu_,fp_,fz_,fq_,fk_,fr_,f0_,c5_,bt_,bd_,c3_,ct_,cx_,co_,cr_,cf_,ch_,ci_,an_,dt_,cd_,a9_,a8_,a7_,ce_,cv_,d1_,cq_,Int.toNat_natCast,b9_,c7_,ej_,f3_,e9_,gd_,fa_,dq_,et_,di_,dm_,dn_,en_,er_,Nat.reduceAdd,Nat.reduceMul,Int.reduceNeg,Nat.reduceLeDiff,List.length_cons,List.length_nil,true_and,and_true,Nat.zero_add,eq_self,Nat.reduceEqDiff,Int.reduceAdd,Int.reduceSub,Int.reduceMul,not_true_eq_false,Nat.reduceLT,Int.reduceToNat,Int.reduceEq,Int.reduceNe,Int.reduceLT,Int.reduceLE,false_implies,true_implies]
          refine conM_levels (q := 12) (by omega) (by unfold inI; omega) (fun _ => ?_) (fun q => absurd (by omega) q)
          simp (disch := omega) only [cm_,aq_,a1_,ay_,ag_,aj_,b8_,af_,cg_,ah_,ba_,bc_,bx_,bb_,b3_,bv_,bh_,bl_,c0_,bp_,b4_,ac_,b2_,bq_,ed_,bs_,ao_,b6_,a2_,az_,ar_,av_,a4_,dw_,d6_,ea_,d3_,bn_,b5_,d9_,d7_,fl_,fn_,fh_,fw_,fu_,fp_,fz_,fq_,fk_,fr_,f0_,c5_,bt_,bd_,c3_,ct_,cx_,co_,cr_,cf_,ch_,ci_,an_,dt_,cd_,a9_,a8_,a7_,ce_,cv_,d1_,cq_,Int.toNat_natCast,b9_,c7_,ej_,f3_,e9_,gd_,fa_,dq_,et_,di_,dm_,dn_,en_,er_,Nat.reduceAdd,Nat.reduceMul,Int.reduceNeg,Nat.reduceLeDiff,List.length_cons,List.length_nil,true_and,and_true,Nat.zero_add,eq_self,Nat.reduceEqDiff,Int.reduceAdd,Int.reduceSub,Int.reduceMul,not_true_eq_false,Nat.reduceLT,Int.reduceToNat,Int.reduceEq,Int.reduceNe,Int.reduceLT,Int.reduceLE,false_implies,true_implies]
          exact step
      have e0 : lotR (rs 0) z i 0 = rs 0 := by
        have : (fun s => if s < 0 then drF (sdN z (12 * i + s + 1)) else rSl (rs 0) s) = rSl (rs 0) := by
          funext s
          rw [if_neg (by omega)]
        simp only [lotR, this]
        rfl
      have i0 := inner 12 0 rfl
      rw [e0] at i0
      refine w_Ch_reignsByLot_14 ?_
      simp (disch := omega) only [cm_,aq_,a1_,ay_,ag_,aj_,b8_,af_,cg_,ah_,ba_,bc_,bx_,bb_,b3_,bv_,bh_,bl_,c0_,bp_,b4_,ac_,b2_,bq_,ed_,bs_,ao_,b6_,a2_,az_,ar_,av_,a4_,dw_,d6_,ea_,d3_,bn_,b5_,d9_,d7_,fl_,fn_,fh_,fw_,fu_,fp_,fz_,fq_,fk_,fr_,f0_,c5_,bt_,bd_,c3_,ct_,cx_,co_,cr_,cf_,ch_,ci_,an_,dt_,cd_,a9_,a8_,a7_,ce_,cv_,d1_,cq_,Int.toNat_natCast,b9_,c7_,ej_,f3_,e9_,gd_,fa_,dq_,et_,di_,dm_,dn_,en_,er_,Nat.reduceAdd,Nat.reduceMul,Int.reduceNeg,Nat.reduceLeDiff,List.length_cons,List.length_nil,true_and,and_true,Nat.zero_add,eq_self,Nat.reduceEqDiff,Int.reduceAdd,Int.reduceSub,Int.reduceMul,not_true_eq_false,Nat.reduceLT,Int.reduceToNat,Int.reduceEq,Int.reduceNe,Int.reduceLT,Int.reduceLE,false_implies,true_implies]
      refine ⟨fun _ => by omega, fun _ => ?_⟩
      refine conM_become (q := 12) (by omega) ?_
      simp (disch := omega) only [cm_,aq_,a1_,ay_,ag_,aj_,b8_,af_,cg_,ah_,ba_,bc_,bx_,bb_,b3_,bv_,bh_,bl_,c0_,bp_,b4_,ac_,b2_,bq_,ed_,bs_,ao_,b6_,a2_,az_,ar_,av_,a4_,dw_,d6_,ea_,d3_,bn_,b5_,d9_,d7_,fl_,fn_,fh_,fw_,fu_,fp_,fz_,fq_,fk_,fr_,f0_,c5_,bt_,bd_,c3_,ct_,cx_,co_,cr_,cf_,ch_,ci_,an_,dt_,cd_,a9_,a8_,a7_,ce_,cv_,d1_,cq_,Int.toNat_natCast,b9_,c7_,ej_,f3_,e9_,gd_,fa_,dq_,et_,di_,dm_,dn_,en_,er_,Nat.reduceAdd,Nat.reduceMul,Int.reduceNeg,Nat.reduceLeDiff,List.length_cons,List.length_nil,true_and,and_true,Nat.zero_add,eq_self,Nat.reduceEqDiff,Int.reduceAdd,Int.reduceSub,Int.reduceMul,not_true_eq_false,Nat.reduceLT,Int.reduceToNat,Int.reduceEq,Int.reduceNe,Int.reduceLT,Int.reduceLE,false_implies,true_implies]
      exact i0
  exact outer n 0 (Nat.zero_add _) A hA none
theorem con_HwaysToBeAt {n : Nat} {t v : Int} (hn : n ≤ 7) (ht : 2 ≤ t ∧ t ≤ 20) (hv : 0 ≤ v ∧ v ≤ 12) (hA : GR A) (hG : GR (rs 0)) (hQ : ∀ B, GR B → Q (some (.long (zJ (wyN dayX (rs 0) n t v (2 ^ n))))) (HX (upR rs 12 B) pi psz lt lsz tn tsz g1 g2 sd rf im hM)) : Con M_Ch_waysToBeAt [.ref 88, .ref 0, .int (zI n), .int (zI t), .int (zI v)] (HX (upR rs 12 A) pi psz lt lsz tn tsz g1 g2 sd rf im hM) Q := by
  have h2 : 2 ^ n ≤ 2 ^ 7 := Nat.pow_le_pow_right (by omega) hn
  refine g8_ (L := [some (.ref 88), some (.ref 0), some (.int (zI n)), some (.int (zI t)), some (.int (zI v)), none, none, none, none]) ok_Ch_waysToBeAt (Nat.le_of_ble_eq_true rfl) rfl ?_
  refine w_Ch_waysToBeAt_0 ?_
  simp (disch := omega) only [cm_,aq_,a1_,ay_,ag_,aj_,b8_,af_,cg_,ah_,ba_,bc_,bx_,bb_,b3_,bv_,bh_,bl_,c0_,bp_,b4_,ac_,b2_,bq_,ed_,bs_,ao_,b6_,a2_,az_,ar_,av_,a4_,dw_,d6_,ea_,d3_,bn_,b5_,d9_,d7_,fl_,fn_,fh_,fw_,fu_,fp_,fz_,fq_,fk_,fr_,f0_,c5_,bt_,bd_,c3_,ct_,cx_,co_,cr_,cf_,ch_,ci_,an_,dt_,cd_,a9_,a8_,a7_,ce_,cv_,d1_,cq_,Int.toNat_natCast,b9_,c7_,ej_,f3_,e9_,gd_,fa_,dq_,et_,di_,dm_,dn_,en_,er_,Nat.reduceAdd,Nat.reduceMul,Int.reduceNeg,Nat.reduceLeDiff,List.length_cons,List.length_nil,true_and,and_true,Nat.zero_add,eq_self,Nat.reduceEqDiff,Int.reduceAdd,Int.reduceSub,Int.reduceMul,not_true_eq_false,Nat.reduceLT,Int.reduceToNat,Int.reduceEq,Int.reduceNe,Int.reduceLT,Int.reduceLE,false_implies,true_implies]
  have outer : ∀ k f : Nat, f + k = 2 ^ n → ∀ B, GR B → ∀ x8, J M_Ch_waysToBeAt 6 [some (.ref 88), some (.ref 0), some (.int (zI n)), some (.int (zI t)), some (.int (zI v)), some (.long (zJ (wyN dayX (rs 0) n t v f))), none, some (.int (zI f)), x8] [] (HX (upR rs 12 B) pi psz lt lsz tn tsz g1 g2 sd rf im hM) Q := by
    intro k
    induction k with
    | zero =>
      intro f hf B hB x8
      have e : f = 2 ^ n := by omega
      subst e
      have hQ := hQ B hB
      refine w_Ch_waysToBeAt_6 ?_
      simp (disch := omega) only [cm_,aq_,a1_,ay_,ag_,aj_,b8_,af_,cg_,ah_,ba_,bc_,bx_,bb_,b3_,bv_,bh_,bl_,c0_,bp_,b4_,ac_,b2_,bq_,ed_,bs_,ao_,b6_,a2_,az_,ar_,av_,a4_,dw_,d6_,ea_,d3_,bn_,b5_,d9_,d7_,fl_,fn_,fh_,fw_,fu_,fp_,fz_,fq_,fk_,fr_,f0_,c5_,bt_,bd_,c3_,ct_,cx_,co_,cr_,cf_,ch_,ci_,an_,dt_,cd_,a9_,a8_,a7_,ce_,cv_,d1_,cq_,Int.toNat_natCast,b9_,c7_,ej_,f3_,e9_,gd_,fa_,dq_,et_,di_,dm_,dn_,en_,er_,Nat.reduceAdd,Nat.reduceMul,Int.reduceNeg,Nat.reduceLeDiff,List.length_cons,List.length_nil,true_and,and_true,Nat.zero_add,eq_self,Nat.reduceEqDiff,Int.reduceAdd,Int.reduceSub,Int.reduceMul,not_true_eq_false,Nat.reduceLT,Int.reduceToNat,Int.reduceEq,Int.reduceNe,Int.reduceLT,Int.reduceLE,false_implies,true_implies]
      repeat' (first | with_reducible refine And.intro ?_ ?_ | with_reducible intro _ | ((first | with_reducible refine w_Ch_waysToBeAt_50 ?_ | with_reducible refine w_Ch_waysToBeAt_64 ?_ | with_reducible refine w_Ch_waysToBeAt_95 ?_ | with_reducible refine w_Ch_waysToBeAt_101 ?_); simp (disch := omega) only [cm_,aq_,a1_,ay_,ag_,aj_,b8_,af_,cg_,ah_,ba_,bc_,bx_,bb_,b3_,bv_,bh_,bl_,c0_,bp_,b4_,ac_,b2_,bq_,ed_,bs_,ao_,b6_,a2_,az_,ar_,av_,a4_,dw_,d6_,ea_,d3_,bn_,b5_,d9_,d7_,fl_,fn_,fh_,fw_,fu_,fp_,fz_,fq_,fk_,fr_,f0_,c5_,bt_,bd_,c3_,ct_,cx_,co_,cr_,cf_,ch_,ci_,an_,dt_,cd_,a9_,a8_,a7_,ce_,cv_,d1_,cq_,Int.toNat_natCast,b9_,c7_,ej_,f3_,e9_,gd_,fa_,dq_,et_,di_,dm_,dn_,en_,er_,Nat.reduceAdd,Nat.reduceMul,Int.reduceNeg,Nat.reduceLeDiff,List.length_cons,List.length_nil,true_and,and_true,Nat.zero_add,eq_self,Nat.reduceEqDiff,Int.reduceAdd,Int.reduceSub,Int.reduceMul,not_true_eq_false,Nat.reduceLT,Int.reduceToNat,Int.reduceEq,Int.reduceNe,Int.reduceLT,Int.reduceLE,false_implies,true_implies]))
      all_goals first | omega | exact hQ
    | succ k ih =>
      intro f hf B hB x8
      have inner : ∀ m d : Nat, d + m = n → J M_Ch_waysToBeAt 25 [some (.ref 88), some (.ref 0), some (.int (zI n)), some (.int (zI t)), some (.int (zI v)), some (.long (zJ (wyN dayX (rs 0) n t v f))), none, some (.int (zI f)), some (.int (zI d))] [] (HX (upR rs 12 (flR dayX (rs 0) f d)) pi psz lt lsz tn tsz g1 g2 sd rf im hM) Q := by
        intro m
        induction m with
        | zero =>
          intro d hd
          have e : d = n := by omega
          subst e
          have hF := hG.fl f d
          have hk := hF.king
          have hp := pop8_low hn (show f < 2 ^ d by omega)
          have step := ih (f + 1) (by omega) _ hF (some (.int (zI d)))
          simp only [wyN] at step
          refine w_Ch_waysToBeAt_25 ?_
          simp (disch := omega) only [cm_,aq_,a1_,ay_,ag_,aj_,b8_,af_,cg_,ah_,ba_,bc_,bx_,bb_,b3_,bv_,bh_,bl_,c0_,bp_,b4_,ac_,b2_,bq_,ed_,bs_,ao_,b6_,a2_,az_,ar_,av_,a4_,dw_,d6_,ea_,d3_,bn_,b5_,d9_,d7_,fl_,fn_,fh_,fw_,fu_,fp_,fz_,fq_,fk_,fr_,f0_,c5_,bt_,bd_,c3_,ct_,cx_,co_,cr_,cf_,ch_,ci_,an_,dt_,cd_,a9_,a8_,a7_,ce_,cv_,d1_,cq_,Int.toNat_natCast,b9_,c7_,ej_,f3_,e9_,gd_,fa_,dq_,et_,di_,dm_,dn_,en_,er_,Nat.reduceAdd,Nat.reduceMul,Int.reduceNeg,Nat.reduceLeDiff,List.length_cons,List.length_nil,true_and,and_true,Nat.zero_add,eq_self,Nat.reduceEqDiff,Int.reduceAdd,Int.reduceSub,Int.reduceMul,not_true_eq_false,Nat.reduceLT,Int.reduceToNat,Int.reduceEq,Int.reduceNe,Int.reduceLT,Int.reduceLE,false_implies,true_implies]
          refine ⟨fun _ => ?_, fun q => absurd (by omega) q⟩
          refine w_Ch_waysToBeAt_64 ?_
          simp (disch := omega) only [cm_,aq_,a1_,ay_,ag_,aj_,b8_,af_,cg_,ah_,ba_,bc_,bx_,bb_,b3_,bv_,bh_,bl_,c0_,bp_,b4_,ac_,b2_,bq_,ed_,bs_,ao_,b6_,a2_,az_,ar_,av_,a4_,dw_,d6_,ea_,d3_,bn_,b5_,d9_,d7_,fl_,fn_,fh_,fw_,fu_,fp_,fz_,fq_,fk_,fr_,f0_,c5_,bt_,bd_,c3_,ct_,cx_,co_,cr_,cf_,ch_,ci_,an_,dt_,cd_,a9_,a8_,a7_,ce_,cv_,d1_,cq_,Int.toNat_natCast,b9_,c7_,ej_,f3_,e9_,gd_,fa_,dq_,et_,di_,dm_,dn_,en_,er_,Nat.reduceAdd,Nat.reduceMul,Int.reduceNeg,Nat.reduceLeDiff,List.length_cons,List.length_nil,true_and,and_true,Nat.zero_add,eq_self,Nat.reduceEqDiff,Int.reduceAdd,Int.reduceSub,Int.reduceMul,not_true_eq_false,Nat.reduceLT,Int.reduceToNat,Int.reduceEq,Int.reduceNe,Int.reduceLT,Int.reduceLE,false_implies,true_implies]
          refine ⟨fun c => ?_, fun c => ?_⟩
          · rw [if_neg (by omega)] at step
            refine w_Ch_waysToBeAt_95 ?_
            simp (disch := omega) only [cm_,aq_,a1_,ay_,ag_,aj_,b8_,af_,cg_,ah_,ba_,bc_,bx_,bb_,b3_,bv_,bh_,bl_,c0_,bp_,b4_,ac_,b2_,bq_,ed_,bs_,ao_,b6_,a2_,az_,ar_,av_,a4_,dw_,d6_,ea_,d3_,bn_,b5_,d9_,d7_,fl_,fn_,fh_,fw_,fu_,fp_,fz_,fq_,fk_,fr_,f0_,c5_,bt_,bd_,c3_,ct_,cx_,co_,cr_,cf_,ch_,ci_,an_,dt_,cd_,a9_,a8_,a7_,ce_,cv_,d1_,cq_,Int.toNat_natCast,b9_,c7_,ej_,f3_,e9_,gd_,fa_,dq_,et_,di_,dm_,dn_,en_,er_,Nat.reduceAdd,Nat.reduceMul,Int.reduceNeg,Nat.reduceLeDiff,List.length_cons,List.length_nil,true_and,and_true,Nat.zero_add,eq_self,Nat.reduceEqDiff,Int.reduceAdd,Int.reduceSub,Int.reduceMul,not_true_eq_false,Nat.reduceLT,Int.reduceToNat,Int.reduceEq,Int.reduceNe,Int.reduceLT,Int.reduceLE,false_implies,true_implies]
            exact step
          · rw [if_pos (by omega)] at step
            have e1 : (d : Int) - (pop8 f : Int) = ((d - pop8 f : Nat) : Int) := by omega
            refine con_bitCount (by omega) ?_
            simp (disch := omega) only [cm_,aq_,a1_,ay_,ag_,aj_,b8_,af_,cg_,ah_,ba_,bc_,bx_,bb_,b3_,bv_,bh_,bl_,c0_,bp_,b4_,ac_,b2_,bq_,ed_,bs_,ao_,b6_,a2_,az_,ar_,av_,a4_,dw_,d6_,ea_,d3_,bn_,b5_,d9_,d7_,fl_,fn_,fh_,fw_,fu_,fp_,fz_,fq_,fk_,fr_,f0_,c5_,bt_,bd_,c3_,ct_,cx_,co_,cr_,cf_,ch_,ci_,an_,dt_,cd_,a9_,a8_,a7_,ce_,cv_,d1_,cq_,Int.toNat_natCast,b9_,c7_,ej_,f3_,e9_,gd_,fa_,dq_,et_,di_,dm_,dn_,en_,er_,Nat.reduceAdd,Nat.reduceMul,Int.reduceNeg,Nat.reduceLeDiff,List.length_cons,List.length_nil,true_and,and_true,Nat.zero_add,eq_self,Nat.reduceEqDiff,Int.reduceAdd,Int.reduceSub,Int.reduceMul,not_true_eq_false,Nat.reduceLT,Int.reduceToNat,Int.reduceEq,Int.reduceNe,Int.reduceLT,Int.reduceLE,false_implies,true_implies,e1]
            refine con_power (by omega) ?_
            simp (disch := omega) only [cm_,aq_,a1_,ay_,ag_,aj_,b8_,af_,cg_,ah_,ba_,bc_,bx_,bb_,b3_,bv_,bh_,bl_,c0_,bp_,b4_,ac_,b2_,bq_,ed_,bs_,ao_,b6_,a2_,az_,ar_,av_,a4_,dw_,d6_,ea_,d3_,bn_,b5_,d9_,d7_,fl_,fn_,fh_,fw_,fu_,fp_,fz_,fq_,fk_,fr_,f0_,c5_,bt_,bd_,c3_,ct_,cx_,co_,cr_,cf_,ch_,ci_,an_,dt_,cd_,a9_,a8_,a7_,ce_,cv_,d1_,cq_,Int.toNat_natCast,b9_,c7_,ej_,f3_,e9_,gd_,fa_,dq_,et_,di_,dm_,dn_,en_,er_,Nat.reduceAdd,Nat.reduceMul,Int.reduceNeg,Nat.reduceLeDiff,List.length_cons,List.length_nil,true_and,and_true,Nat.zero_add,eq_self,Nat.reduceEqDiff,Int.reduceAdd,Int.reduceSub,Int.reduceMul,not_true_eq_false,Nat.reduceLT,Int.reduceToNat,Int.reduceEq,Int.reduceNe,Int.reduceLT,Int.reduceLE,false_implies,true_implies]
            refine w_Ch_waysToBeAt_95 ?_
            simp (disch := omega) only [cm_,aq_,a1_,ay_,ag_,aj_,b8_,af_,cg_,ah_,ba_,bc_,bx_,bb_,b3_,bv_,bh_,bl_,c0_,bp_,b4_,ac_,b2_,bq_,ed_,bs_,ao_,b6_,a2_,az_,ar_,av_,a4_,dw_,d6_,ea_,d3_,bn_,b5_,d9_,d7_,fl_,fn_,fh_,fw_,fu_,fp_,fz_,fq_,fk_,fr_,f0_,c5_,bt_,bd_,c3_,ct_,cx_,co_,cr_,cf_,ch_,ci_,an_,dt_,cd_,a9_,a8_,a7_,ce_,cv_,d1_,cq_,Int.toNat_natCast,b9_,c7_,ej_,f3_,e9_,gd_,fa_,dq_,et_,di_,dm_,dn_,en_,er_,Nat.reduceAdd,Nat.reduceMul,Int.reduceNeg,Nat.reduceLeDiff,List.length_cons,List.length_nil,true_and,and_true,Nat.zero_add,eq_self,Nat.reduceEqDiff,Int.reduceAdd,Int.reduceSub,Int.reduceMul,not_true_eq_false,Nat.reduceLT,Int.reduceToNat,Int.reduceEq,Int.reduceNe,Int.reduceLT,Int.reduceLE,false_implies,true_implies]
            exact step
        | succ m ihm =>
          intro d hd
          have hF := hG.fl f d
          have hsn := hF.snow
          have step := ihm (d + 1) (by omega)
          simp only [flR] at step
          refine w_Ch_waysToBeAt_25 ?_
          simp (disch := omega) only [cm_,aq_,a1_,ay_,ag_,aj_,b8_,af_,cg_,ah_,ba_,bc_,bx_,bb_,b3_,bv_,bh_,bl_,c0_,bp_,b4_,ac_,b2_,bq_,ed_,bs_,ao_,b6_,a2_,az_,ar_,av_,a4_,dw_,d6_,ea_,d3_,bn_,b5_,d9_,d7_,fl_,fn_,fh_,fw_,fu_,fp_,fz_,fq_,fk_,fr_,f0_,c5_,bt_,bd_,c3_,ct_,cx_,co_,cr_,cf_,ch_,ci_,an_,dt_,cd_,a9_,a8_,a7_,ce_,cv_,d1_,cq_,Int.toNat_natCast,b9_,c7_,ej_,f3_,e9_,gd_,fa_,dq_,et_,di_,dm_,dn_,en_,er_,Nat.reduceAdd,Nat.reduceMul,Int.reduceNeg,Nat.reduceLeDiff,List.length_cons,List.length_nil,true_and,and_true,Nat.zero_add,eq_self,Nat.reduceEqDiff,Int.reduceAdd,Int.reduceSub,Int.reduceMul,not_true_eq_false,Nat.reduceLT,Int.reduceToNat,Int.reduceEq,Int.reduceNe,Int.reduceLT,Int.reduceLE,false_implies,true_implies]
          refine ⟨fun _ => by omega, fun _ => ⟨fun c => ?_, fun c => ?_⟩⟩
          · rw [if_neg c] at step
            refine w_Ch_waysToBeAt_50 ?_
            simp (disch := omega) only [cm_,aq_,a1_,ay_,ag_,aj_,b8_,af_,cg_,ah_,ba_,bc_,bx_,bb_,b3_,bv_,bh_,bl_,c0_,bp_,b4_,ac_,b2_,bq_,ed_,bs_,ao_,b6_,a2_,az_,ar_,av_,a4_,dw_,d6_,ea_,d3_,bn_,b5_,d9_,d7_,fl_,fn_,fh_,fw_,fu_,fp_,fz_,fq_,fk_,fr_,f0_,c5_,bt_,bd_,c3_,ct_,cx_,co_,cr_,cf_,ch_,ci_,an_,dt_,cd_,a9_,a8_,a7_,ce_,cv_,d1_,cq_,Int.toNat_natCast,b9_,c7_,ej_,f3_,e9_,gd_,fa_,dq_,et_,di_,dm_,dn_,en_,er_,Nat.reduceAdd,Nat.reduceMul,Int.reduceNeg,Nat.reduceLeDiff,List.length_cons,List.length_nil,true_and,and_true,Nat.zero_add,eq_self,Nat.reduceEqDiff,Int.reduceAdd,Int.reduceSub,Int.reduceMul,not_true_eq_false,Nat.reduceLT,Int.reduceToNat,Int.reduceEq,Int.reduceNe,Int.reduceLT,Int.reduceLE,false_implies,true_implies]
            refine conM_waits (q := 12) (by omega) hF ?_
            simp (disch := omega) only [cm_,aq_,a1_,ay_,ag_,aj_,b8_,af_,cg_,ah_,ba_,bc_,bx_,bb_,b3_,bv_,bh_,bl_,c0_,bp_,b4_,ac_,b2_,bq_,ed_,bs_,ao_,b6_,a2_,az_,ar_,av_,a4_,dw_,d6_,ea_,d3_,bn_,b5_,d9_,d7_,fl_,fn_,fh_,fw_,fu_,fp_,fz_,fq_,fk_,fr_,f0_,c5_,bt_,bd_,c3_,ct_,cx_,co_,cr_,cf_,ch_,ci_,an_,dt_,cd_,a9_,a8_,a7_,ce_,cv_,d1_,cq_,Int.toNat_natCast,b9_,c7_,ej_,f3_,e9_,gd_,fa_,dq_,et_,di_,dm_,dn_,en_,er_,Nat.reduceAdd,Nat.reduceMul,Int.reduceNeg,Nat.reduceLeDiff,List.length_cons,List.length_nil,true_and,and_true,Nat.zero_add,eq_self,Nat.reduceEqDiff,Int.reduceAdd,Int.reduceSub,Int.reduceMul,not_true_eq_false,Nat.reduceLT,Int.reduceToNat,Int.reduceEq,Int.reduceNe,Int.reduceLT,Int.reduceLE,false_implies,true_implies]
            exact step
          · rw [if_pos (by simp_all)] at step
            refine conM_snowMore (q := 12) (by omega) (by omega) hF ?_
            simp (disch := omega) only [cm_,aq_,a1_,ay_,ag_,aj_,b8_,af_,cg_,ah_,ba_,bc_,bx_,bb_,b3_,bv_,bh_,bl_,c0_,bp_,b4_,ac_,b2_,bq_,ed_,bs_,ao_,b6_,a2_,az_,ar_,av_,a4_,dw_,d6_,ea_,d3_,bn_,b5_,d9_,d7_,fl_,fn_,fh_,fw_,fu_,fp_,fz_,fq_,fk_,fr_,f0_,c5_,bt_,bd_,c3_,ct_,cx_,co_,cr_,cf_,ch_,ci_,an_,dt_,cd_,a9_,a8_,a7_,ce_,cv_,d1_,cq_,Int.toNat_natCast,b9_,c7_,ej_,f3_,e9_,gd_,fa_,dq_,et_,di_,dm_,dn_,en_,er_,Nat.reduceAdd,Nat.reduceMul,Int.reduceNeg,Nat.reduceLeDiff,List.length_cons,List.length_nil,true_and,and_true,Nat.zero_add,eq_self,Nat.reduceEqDiff,Int.reduceAdd,Int.reduceSub,Int.reduceMul,not_true_eq_false,Nat.reduceLT,Int.reduceToNat,Int.reduceEq,Int.reduceNe,Int.reduceLT,Int.reduceLE,false_implies,true_implies]
            refine w_Ch_waysToBeAt_50 ?_
            simp (disch := omega) only [cm_,aq_,a1_,ay_,ag_,aj_,b8_,af_,cg_,ah_,ba_,bc_,bx_,bb_,b3_,bv_,bh_,bl_,c0_,bp_,b4_,ac_,b2_,bq_,ed_,bs_,ao_,b6_,a2_,az_,ar_,av_,a4_,dw_,d6_,ea_,d3_,bn_,b5_,d9_,d7_,fl_,fn_,fh_,fw_,fu_,fp_,fz_,fq_,fk_,fr_,f0_,c5_,bt_,bd_,c3_,ct_,cx_,co_,cr_,cf_,ch_,ci_,an_,dt_,cd_,a9_,a8_,a7_,ce_,cv_,d1_,cq_,Int.toNat_natCast,b9_,c7_,ej_,f3_,e9_,gd_,fa_,dq_,et_,di_,dm_,dn_,en_,er_,Nat.reduceAdd,Nat.reduceMul,Int.reduceNeg,Nat.reduceLeDiff,List.length_cons,List.length_nil,true_and,and_true,Nat.zero_add,eq_self,Nat.reduceEqDiff,Int.reduceAdd,Int.reduceSub,Int.reduceMul,not_true_eq_false,Nat.reduceLT,Int.reduceToNat,Int.reduceEq,Int.reduceNe,Int.reduceLT,Int.reduceLE,false_implies,true_implies]
            refine conM_waits (q := 12) (by omega) (hF.setSnow (by omega)) ?_
            simp (disch := omega) only [cm_,aq_,a1_,ay_,ag_,aj_,b8_,af_,cg_,ah_,ba_,bc_,bx_,bb_,b3_,bv_,bh_,bl_,c0_,bp_,b4_,ac_,b2_,bq_,ed_,bs_,ao_,b6_,a2_,az_,ar_,av_,a4_,dw_,d6_,ea_,d3_,bn_,b5_,d9_,d7_,fl_,fn_,fh_,fw_,fu_,fp_,fz_,fq_,fk_,fr_,f0_,c5_,bt_,bd_,c3_,ct_,cx_,co_,cr_,cf_,ch_,ci_,an_,dt_,cd_,a9_,a8_,a7_,ce_,cv_,d1_,cq_,Int.toNat_natCast,b9_,c7_,ej_,f3_,e9_,gd_,fa_,dq_,et_,di_,dm_,dn_,en_,er_,Nat.reduceAdd,Nat.reduceMul,Int.reduceNeg,Nat.reduceLeDiff,List.length_cons,List.length_nil,true_and,and_true,Nat.zero_add,eq_self,Nat.reduceEqDiff,Int.reduceAdd,Int.reduceSub,Int.reduceMul,not_true_eq_false,Nat.reduceLT,Int.reduceToNat,Int.reduceEq,Int.reduceNe,Int.reduceLT,Int.reduceLE,false_implies,true_implies]
            exact step
      refine w_Ch_waysToBeAt_6 ?_
      simp (disch := omega) only [cm_,aq_,a1_,ay_,ag_,aj_,b8_,af_,cg_,ah_,ba_,bc_,bx_,bb_,b3_,bv_,bh_,bl_,c0_,bp_,b4_,ac_,b2_,bq_,ed_,bs_,ao_,b6_,a2_,az_,ar_,av_,a4_,dw_,d6_,ea_,d3_,bn_,b5_,d9_,d7_,fl_,fn_,fh_,fw_,fu_,fp_,fz_,fq_,fk_,fr_,f0_,c5_,bt_,bd_,c3_,ct_,cx_,co_,cr_,cf_,ch_,ci_,an_,dt_,cd_,a9_,a8_,a7_,ce_,cv_,d1_,cq_,Int.toNat_natCast,b9_,c7_,ej_,f3_,e9_,gd_,fa_,dq_,et_,di_,dm_,dn_,en_,er_,Nat.reduceAdd,Nat.reduceMul,Int.reduceNeg,Nat.reduceLeDiff,List.length_cons,List.length_nil,true_and,and_true,Nat.zero_add,eq_self,Nat.reduceEqDiff,Int.reduceAdd,Int.reduceSub,Int.reduceMul,not_true_eq_false,Nat.reduceLT,Int.reduceToNat,Int.reduceEq,Int.reduceNe,Int.reduceLT,Int.reduceLE,false_implies,true_implies]
      refine ⟨fun _ => by omega, fun _ => ?_⟩
      refine conM_become (q := 12) (by omega) ?_
      simp (disch := omega) only [cm_,aq_,a1_,ay_,ag_,aj_,b8_,af_,cg_,ah_,ba_,bc_,bx_,bb_,b3_,bv_,bh_,bl_,c0_,bp_,b4_,ac_,b2_,bq_,ed_,bs_,ao_,b6_,a2_,az_,ar_,av_,a4_,dw_,d6_,ea_,d3_,bn_,b5_,d9_,d7_,fl_,fn_,fh_,fw_,fu_,fp_,fz_,fq_,fk_,fr_,f0_,c5_,bt_,bd_,c3_,ct_,cx_,co_,cr_,cf_,ch_,ci_,an_,dt_,cd_,a9_,a8_,a7_,ce_,cv_,d1_,cq_,Int.toNat_natCast,b9_,c7_,ej_,f3_,e9_,gd_,fa_,dq_,et_,di_,dm_,dn_,en_,er_,Nat.reduceAdd,Nat.reduceMul,Int.reduceNeg,Nat.reduceLeDiff,List.length_cons,List.length_nil,true_and,and_true,Nat.zero_add,eq_self,Nat.reduceEqDiff,Int.reduceAdd,Int.reduceSub,Int.reduceMul,not_true_eq_false,Nat.reduceLT,Int.reduceToNat,Int.reduceEq,Int.reduceNe,Int.reduceLT,Int.reduceLE,false_implies,true_implies]
      exact inner n 0 (Nat.zero_add _)
  exact outer (2 ^ n) 0 (Nat.zero_add _) A hA none
end C11
end
/-! form -/
section
/-! ===== a reign told in letters ===== -/
theorem dayX_day (R : RR) : hh_ (dayX R) = hh_ R + 1 := by
  simp only [dayX]
  split
  · rfl
  · simp only [coldX, movedX]
    split <;> rfl
theorem daysX_day (R : RR) (d : Nat) : hh_ (g6_ R d) = hh_ R + d := by
  induction d with
  | zero => simp [g6_]
  | succ d ih => simp only [g6_]; rw [dayX_day, ih]; omega
def isDg (lt : Nat → Int) (lsz : Int) (p : Nat) : Bool := decide (48 ≤ atL lt lsz p ∧ atL lt lsz p ≤ 57)
def lenL (lt : Nat → Int) (lsz : Int) (a : Nat) : Nat := (dbL (atL lt lsz a)).toNat
def ffN (lt : Nat → Int) (lsz : Int) : Nat → Nat → Int
  | 0, _ => -9
  | m + 1, a => if lsz ≤ a then -9 else if dbL (atL lt lsz a) < 0 then (a : Int) else
    if firstN (fun p => !isDg lt lsz p) (a + 1) (lenL lt lsz a) ≠ -9 then firstN (fun p => !isDg lt lsz p) (a + 1) (lenL lt lsz a) else
    if atL lt lsz ((a + 1 + lenL lt lsz a : Nat) : Int) ≠ 59 then ((a + 1 + lenL lt lsz a : Nat) : Int) else ffN lt lsz m (a + 1 + lenL lt lsz a + 1)
def ffF (lt : Nat → Int) (lsz : Int) : Int := if lsz = 0 then 0 else ffN lt lsz 100 0
/-- what a statement at this place makes of a realm -/
def obF (s : SQ) (R : RR) (lt : Nat → Int) (lsz : Int) (a : Nat) : Option RR :=
  let f := dgL lt lsz (a + 1)
  let p := dgL lt lsz (a + 1) * 10 + dgL lt lsz (a + 2)
  if atL lt lsz a = 109 then (if f < 6 ∧ rMen R < 8 then some (addR R f (dgL lt lsz (a + 2))) else none)
  else if atL lt lsz a = 112 then (if f < rMen R ∧ rFa R f.toNat ≠ 2 then some (sFa R (upI (rFa R) f.toNat (1 - rFa R f.toNat))) else none)
  else if atL lt lsz a = 115 then (if p < 12 then some (sSl R (upI (rSl R) p.toNat (dgL lt lsz (a + 3)))) else none)
  else if atL lt lsz a = 108 then (if 1 ≤ p ∧ p ≤ 60 then some (sLoad R p) else none)
  else if atL lt lsz a = 107 then (if p ≤ 12 then some (sKing R p) else none)
  else if atL lt lsz a = 119 then some (sSnow R f)
  else (if (1 ≤ p ∧ p ≤ 60) ∧ hh_ R + p ≤ 999 then some (s R p.toNat) else none)
def rgN (s : SQ) (lt : Nat → Int) (lsz : Int) : Nat → Nat → RR → Int → Int × RR
  | 0, _, R, c => (c, R)
  | m + 1, a, R, c => if lsz ≤ a then (c, R) else match obF s R lt lsz a with
    | none => (-2000 - (a : Int), R)
    | some R' => rgN s lt lsz m (a + 1 + lenL lt lsz a + 1) R' (c + 1)
/-- a statement of good form at this place -/
def wfS (lt : Nat → Int) (lsz : Int) (a : Nat) : Prop := (a : Int) < lsz ∧ 1 ≤ dbL (atL lt lsz a) ∧ ∀ k, 1 ≤ k → k ≤ lenL lt lsz a → 0 ≤ dgL lt lsz ((a + k : Nat) : Int) ∧ dgL lt lsz ((a + k : Nat) : Int) ≤ 9
theorem firstN_none {p : Nat → Bool} {k n : Nat} (h : firstN p k n = -9) : ∀ j, k ≤ j → j < k + n → p j = false := by
  induction n generalizing k with
  | zero => intro j h1 h2; omega
  | succ n ih =>
    intro j h1 h2
    simp only [firstN] at h
    by_cases c : p k = true
    · rw [if_pos c] at h
      omega
    · rw [if_neg c] at h
      by_cases e : j = k
      · subst e; simpa using c
      · exact ih h j (by omega) (by omega)
section C12
variable {rs : Nat → RR} {pi : Nat → Nat} {psz : Int} {lt : Nat → Int} {lsz : Int} {tn : Nat → Int} {tsz : Int} {g1 g2 : Nat → Int} {sd : Int} {rf : Nat → Int} {im : Int} {hM : AH} {Q : Option Value → AH → Prop} {A : RR}
theorem con_LfaultOfForm (hG : GL lt lsz) (hQ : Q (some (.int (zI (ffF lt lsz)))) (HX rs pi psz lt lsz tn tsz g1 g2 sd rf im hM)) : Con M_Le_faultOfForm [.ref 81] (HX rs pi psz lt lsz tn tsz g1 g2 sd rf im hM) Q := by
  have gl := hG.1
  simp only [ffF] at hQ
  refine g8_ (L := [some (.ref 81), none, none, none]) ok_Le_faultOfForm (Nat.le_of_ble_eq_true rfl) rfl ?_
  refine w_Le_faultOfForm_0 ?_
  simp (disch := omega) only [cm_,aq_,ay_,ag_,b8_,af_,ba_,bc_,b4_,ac_,b2_,bq_,ed_,bs_,a0_,ao_,as_,az_,ar_,av_,aw_,dw_,d6_,ea_,d3_,b5_,b1_,fl_,fn_,fh_,fu_,fp_,fz_,fq_,fk_,fr_,f0_,c5_,bd_,c3_,ct_,cx_,cr_,cj_,eb_,d5_,cf_,ch_,an_,Int.toNat_natCast,f3_,eu_,e0_,gc_,ca_,et_,c8_,di_,dm_,dn_,Nat.reduceAdd,Nat.reduceMul,Int.reduceNeg,Nat.reduceLeDiff,List.length_cons,List.length_nil,true_and,and_true,Nat.zero_add,eq_self,Nat.reduceEqDiff,Int.reduceAdd,Int.reduceSub,Int.reduceMul,not_true_eq_false,not_false_eq_true,Nat.reduceLT,Int.reduceToNat,Int.reduceEq,Int.reduceNe,Int.reduceLT,Int.reduceLE,or_true,or_false,false_or,and_self,false_implies,true_implies]
  refine ⟨fun c => ?_, fun c => ?_⟩
  · rw [if_neg c] at hQ
    obtain ⟨F, hF⟩ : ∃ F, F = ffN lt lsz 100 0 := ⟨_, rfl⟩
    rw [← hF] at hQ
    have loop : ∀ m a : Nat, lsz < a + 3 * m → (a : Int) ≤ lsz → ffN lt lsz m a = F → ∀ x2 x3, J M_Le_faultOfForm 11 [some (.ref 81), some (.int (zI a)), x2, x3] [] (HX rs pi psz lt lsz tn tsz g1 g2 sd rf im hM) Q := by
      intro m
      induction m with
      | zero => intro a h1 h2; omega
      | succ m ih =>
        intro a h1 h2 he x2 x3
        simp only [ffN] at he
        have ga := atL_rng hG a
        have gd := dbL_rng (atL lt lsz a)
        by_cases c1 : lsz ≤ a
        · rw [if_pos c1] at he
          rw [← he] at hQ
          refine w_Le_faultOfForm_11 ?_
          simp (disch := omega) only [cm_,aq_,ay_,ag_,b8_,af_,ba_,bc_,b4_,ac_,b2_,bq_,ed_,bs_,a0_,ao_,as_,az_,ar_,av_,aw_,dw_,d6_,ea_,d3_,b5_,b1_,fl_,fn_,fh_,fu_,fp_,fz_,fq_,fk_,fr_,f0_,c5_,bd_,c3_,ct_,cx_,cr_,cj_,eb_,d5_,cf_,ch_,an_,Int.toNat_natCast,f3_,eu_,e0_,gc_,ca_,et_,c8_,di_,dm_,dn_,Nat.reduceAdd,Nat.reduceMul,Int.reduceNeg,Nat.reduceLeDiff,List.length_cons,List.length_nil,true_and,and_true,Nat.zero_add,eq_self,Nat.reduceEqDiff,Int.reduceAdd,Int.reduceSub,Int.reduceMul,not_true_eq_false,not_false_eq_true,Nat.reduceLT,Int.reduceToNat,Int.reduceEq,Int.reduceNe,Int.reduceLT,Int.reduceLE,or_true,or_false,false_or,and_self,false_implies,true_implies]
          repeat' (first | with_reducible refine And.intro ?_ ?_ | with_reducible intro _ | ((first | with_reducible refine w_Le_faultOfForm_9 ?_ | with_reducible refine w_Le_faultOfForm_32 ?_ | with_reducible refine w_Le_faultOfForm_64 ?_ | with_reducible refine w_Le_faultOfForm_70 ?_ | with_reducible refine w_Le_faultOfForm_82 ?_ | with_reducible refine w_Le_faultOfForm_89 ?_); simp (disch := omega) only [cm_,aq_,ay_,ag_,b8_,af_,ba_,bc_,b4_,ac_,b2_,bq_,ed_,bs_,a0_,ao_,as_,az_,ar_,av_,aw_,dw_,d6_,ea_,d3_,b5_,b1_,fl_,fn_,fh_,fu_,fp_,fz_,fq_,fk_,fr_,f0_,c5_,bd_,c3_,ct_,cx_,cr_,cj_,eb_,d5_,cf_,ch_,an_,Int.toNat_natCast,f3_,eu_,e0_,gc_,ca_,et_,c8_,di_,dm_,dn_,Nat.reduceAdd,Nat.reduceMul,Int.reduceNeg,Nat.reduceLeDiff,List.length_cons,List.length_nil,true_and,and_true,Nat.zero_add,eq_self,Nat.reduceEqDiff,Int.reduceAdd,Int.reduceSub,Int.reduceMul,not_true_eq_false,not_false_eq_true,Nat.reduceLT,Int.reduceToNat,Int.reduceEq,Int.reduceNe,Int.reduceLT,Int.reduceLE,or_true,or_false,false_or,and_self,false_implies,true_implies]))
          all_goals first | omega | exact hQ
        · rw [if_neg c1] at he
          refine w_Le_faultOfForm_11 ?_
          simp (disch := omega) only [cm_,aq_,ay_,ag_,b8_,af_,ba_,bc_,b4_,ac_,b2_,bq_,ed_,bs_,a0_,ao_,as_,az_,ar_,av_,aw_,dw_,d6_,ea_,d3_,b5_,b1_,fl_,fn_,fh_,fu_,fp_,fz_,fq_,fk_,fr_,f0_,c5_,bd_,c3_,ct_,cx_,cr_,cj_,eb_,d5_,cf_,ch_,an_,Int.toNat_natCast,f3_,eu_,e0_,gc_,ca_,et_,c8_,di_,dm_,dn_,Nat.reduceAdd,Nat.reduceMul,Int.reduceNeg,Nat.reduceLeDiff,List.length_cons,List.length_nil,true_and,and_true,Nat.zero_add,eq_self,Nat.reduceEqDiff,Int.reduceAdd,Int.reduceSub,Int.reduceMul,not_true_eq_false,not_false_eq_true,Nat.reduceLT,Int.reduceToNat,Int.reduceEq,Int.reduceNe,Int.reduceLT,Int.reduceLE,or_true,or_false,false_or,and_self,false_implies,true_implies]
          refine ⟨fun q => absurd q c1, fun _ => ?_⟩
          refine con_Lat (by unfold inI; omega) hG ?_
          simp (disch := omega) only [cm_,aq_,ay_,ag_,b8_,af_,ba_,bc_,b4_,ac_,b2_,bq_,ed_,bs_,a0_,ao_,as_,az_,ar_,av_,aw_,dw_,d6_,ea_,d3_,b5_,b1_,fl_,fn_,fh_,fu_,fp_,fz_,fq_,fk_,fr_,f0_,c5_,bd_,c3_,ct_,cx_,cr_,cj_,eb_,d5_,cf_,ch_,an_,Int.toNat_natCast,f3_,eu_,e0_,gc_,ca_,et_,c8_,di_,dm_,dn_,Nat.reduceAdd,Nat.reduceMul,Int.reduceNeg,Nat.reduceLeDiff,List.length_cons,List.length_nil,true_and,and_true,Nat.zero_add,eq_self,Nat.reduceEqDiff,Int.reduceAdd,Int.reduceSub,Int.reduceMul,not_true_eq_false,not_false_eq_true,Nat.reduceLT,Int.reduceToNat,Int.reduceEq,Int.reduceNe,Int.reduceLT,Int.reduceLE,or_true,or_false,false_or,and_self,false_implies,true_implies]
          refine con_LdigitsBehind (by unfold inI; omega) ?_
          simp (disch := omega) only [cm_,aq_,ay_,ag_,b8_,af_,ba_,bc_,b4_,ac_,b2_,bq_,ed_,bs_,a0_,ao_,as_,az_,ar_,av_,aw_,dw_,d6_,ea_,d3_,b5_,b1_,fl_,fn_,fh_,fu_,fp_,fz_,fq_,fk_,fr_,f0_,c5_,bd_,c3_,ct_,cx_,cr_,cj_,eb_,d5_,cf_,ch_,an_,Int.toNat_natCast,f3_,eu_,e0_,gc_,ca_,et_,c8_,di_,dm_,dn_,Nat.reduceAdd,Nat.reduceMul,Int.reduceNeg,Nat.reduceLeDiff,List.length_cons,List.length_nil,true_and,and_true,Nat.zero_add,eq_self,Nat.reduceEqDiff,Int.reduceAdd,Int.reduceSub,Int.reduceMul,not_true_eq_false,not_false_eq_true,Nat.reduceLT,Int.reduceToNat,Int.reduceEq,Int.reduceNe,Int.reduceLT,Int.reduceLE,or_true,or_false,false_or,and_self,false_implies,true_implies]
          by_cases c2 : dbL (atL lt lsz a) < 0
          · rw [if_pos c2] at he
            rw [← he] at hQ
            repeat' (first | with_reducible refine And.intro ?_ ?_ | with_reducible intro _ | ((first | with_reducible refine w_Le_faultOfForm_9 ?_ | with_reducible refine w_Le_faultOfForm_32 ?_ | with_reducible refine w_Le_faultOfForm_64 ?_ | with_reducible refine w_Le_faultOfForm_70 ?_ | with_reducible refine w_Le_faultOfForm_82 ?_ | with_reducible refine w_Le_faultOfForm_89 ?_); simp (disch := omega) only [cm_,aq_,ay_,ag_,b8_,af_,ba_,bc_,b4_,ac_,b2_,bq_,ed_,bs_,a0_,ao_,as_,az_,ar_,av_,aw_,dw_,d6_,ea_,d3_,b5_,b1_,fl_,fn_,fh_,fu_,fp_,fz_,fq_,fk_,fr_,f0_,c5_,bd_,c3_,ct_,cx_,cr_,cj_,eb_,d5_,cf_,ch_,an_,Int.toNat_natCast,f3_,eu_,e0_,gc_,ca_,et_,c8_,di_,dm_,dn_,Nat.reduceAdd,Nat.reduceMul,Int.reduceNeg,Nat.reduceLeDiff,List.length_cons,List.length_nil,true_and,and_true,Nat.zero_add,eq_self,Nat.reduceEqDiff,Int.reduceAdd,Int.reduceSub,Int.reduceMul,not_true_eq_false,not_false_eq_true,Nat.reduceLT,Int.reduceToNat,Int.reduceEq,Int.reduceNe,Int.reduceLT,Int.reduceLE,or_true,or_false,false_or,and_self,false_implies,true_implies]))
            all_goals first | omega | exact hQ
          · rw [if_neg c2] at he
            refine ⟨fun _ => ?_, fun q => absurd q (by omega)⟩
            have hL : ((lenL lt lsz a : Nat) : Int) = dbL (atL lt lsz a) := by simp only [lenL]; omega
            have hmx : max 0 (dbL (atL lt lsz a)) = ((lenL lt lsz a : Nat) : Int) := by omega
            have hen : (a : Int) + (((lenL lt lsz a : Nat) : Int) + 2) - 1 = ((a + 1 + lenL lt lsz a : Nat) : Int) := by omega
            have ge := atL_rng hG ((a + 1 + lenL lt lsz a : Nat) : Int)
            have inner : ∀ n p : Nat, p + n = a + 1 + lenL lt lsz a → a < p → firstN (fun p => !isDg lt lsz p) p n = firstN (fun p => !isDg lt lsz p) (a + 1) (lenL lt lsz a) → J M_Le_faultOfForm 49 [some (.ref 81), some (.int (zI a)), some (.int (zI (a + 1 + lenL lt lsz a : Nat))), some (.int (zI p))] [] (HX rs pi psz lt lsz tn tsz g1 g2 sd rf im hM) Q := by
              intro n
              induction n with
              | zero =>
                intro p hp hap hf
                simp only [firstN] at hf
                rw [if_neg (by omega)] at he
                refine w_Le_faultOfForm_49 ?_
                simp (disch := omega) only [cm_,aq_,ay_,ag_,b8_,af_,ba_,bc_,b4_,ac_,b2_,bq_,ed_,bs_,a0_,ao_,as_,az_,ar_,av_,aw_,dw_,d6_,ea_,d3_,b5_,b1_,fl_,fn_,fh_,fu_,fp_,fz_,fq_,fk_,fr_,f0_,c5_,bd_,c3_,ct_,cx_,cr_,cj_,eb_,d5_,cf_,ch_,an_,Int.toNat_natCast,f3_,eu_,e0_,gc_,ca_,et_,c8_,di_,dm_,dn_,Nat.reduceAdd,Nat.reduceMul,Int.reduceNeg,Nat.reduceLeDiff,List.length_cons,List.length_nil,true_and,and_true,Nat.zero_add,eq_self,Nat.reduceEqDiff,Int.reduceAdd,Int.reduceSub,Int.reduceMul,not_true_eq_false,not_false_eq_true,Nat.reduceLT,Int.reduceToNat,Int.reduceEq,Int.reduceNe,Int.reduceLT,Int.reduceLE,or_true,or_false,false_or,and_self,false_implies,true_implies]
                refine ⟨fun _ => ?_, fun q => absurd (by omega) q⟩
                refine w_Le_faultOfForm_70 ?_
                simp (disch := omega) only [cm_,aq_,ay_,ag_,b8_,af_,ba_,bc_,b4_,ac_,b2_,bq_,ed_,bs_,a0_,ao_,as_,az_,ar_,av_,aw_,dw_,d6_,ea_,d3_,b5_,b1_,fl_,fn_,fh_,fu_,fp_,fz_,fq_,fk_,fr_,f0_,c5_,bd_,c3_,ct_,cx_,cr_,cj_,eb_,d5_,cf_,ch_,an_,Int.toNat_natCast,f3_,eu_,e0_,gc_,ca_,et_,c8_,di_,dm_,dn_,Nat.reduceAdd,Nat.reduceMul,Int.reduceNeg,Nat.reduceLeDiff,List.length_cons,List.length_nil,true_and,and_true,Nat.zero_add,eq_self,Nat.reduceEqDiff,Int.reduceAdd,Int.reduceSub,Int.reduceMul,not_true_eq_false,not_false_eq_true,Nat.reduceLT,Int.reduceToNat,Int.reduceEq,Int.reduceNe,Int.reduceLT,Int.reduceLE,or_true,or_false,false_or,and_self,false_implies,true_implies]
                refine con_Lat (by unfold inI; omega) hG ?_
                simp (disch := omega) only [cm_,aq_,ay_,ag_,b8_,af_,ba_,bc_,b4_,ac_,b2_,bq_,ed_,bs_,a0_,ao_,as_,az_,ar_,av_,aw_,dw_,d6_,ea_,d3_,b5_,b1_,fl_,fn_,fh_,fu_,fp_,fz_,fq_,fk_,fr_,f0_,c5_,bd_,c3_,ct_,cx_,cr_,cj_,eb_,d5_,cf_,ch_,an_,Int.toNat_natCast,f3_,eu_,e0_,gc_,ca_,et_,c8_,di_,dm_,dn_,Nat.reduceAdd,Nat.reduceMul,Int.reduceNeg,Nat.reduceLeDiff,List.length_cons,List.length_nil,true_and,and_true,Nat.zero_add,eq_self,Nat.reduceEqDiff,Int.reduceAdd,Int.reduceSub,Int.reduceMul,not_true_eq_false,not_false_eq_true,Nat.reduceLT,Int.reduceToNat,Int.reduceEq,Int.reduceNe,Int.reduceLT,Int.reduceLE,or_true,or_false,false_or,and_self,false_implies,true_implies]
                refine ⟨fun c3 => ?_, fun c3 => ?_⟩
                · rw [if_neg (by omega)] at he
                  refine w_Le_faultOfForm_82 ?_
                  simp (disch := omega) only [cm_,aq_,ay_,ag_,b8_,af_,ba_,bc_,b4_,ac_,b2_,bq_,ed_,bs_,a0_,ao_,as_,az_,ar_,av_,aw_,dw_,d6_,ea_,d3_,b5_,b1_,fl_,fn_,fh_,fu_,fp_,fz_,fq_,fk_,fr_,f0_,c5_,bd_,c3_,ct_,cx_,cr_,cj_,eb_,d5_,cf_,ch_,an_,Int.toNat_natCast,f3_,eu_,e0_,gc_,ca_,et_,c8_,di_,dm_,dn_,Nat.reduceAdd,Nat.reduceMul,Int.reduceNeg,Nat.reduceLeDiff,List.length_cons,List.length_nil,true_and,and_true,Nat.zero_add,eq_self,Nat.reduceEqDiff,Int.reduceAdd,Int.reduceSub,Int.reduceMul,not_true_eq_false,not_false_eq_true,Nat.reduceLT,Int.reduceToNat,Int.reduceEq,Int.reduceNe,Int.reduceLT,Int.reduceLE,or_true,or_false,false_or,and_self,false_implies,true_implies]
                  have h3 : atL lt lsz ((a + 1 + lenL lt lsz a : Nat) : Int) = 59 := c3
                  have h4 : ((a + 1 + lenL lt lsz a : Nat) : Int) < lsz := by
                    simp only [atL] at h3
                    split at h3 <;> omega
                  exact ih _ (by omega) (by omega) he _ _
                · rw [if_pos c3] at he
                  rw [← he] at hQ
                  exact hQ
              | succ n ihn =>
                intro p hp hap hf
                have gp := atL_rng hG p
                have hs : firstN (fun p => !isDg lt lsz p) p (n + 1) = if (!isDg lt lsz p) = true then (p : Int) else firstN (fun p => !isDg lt lsz p) (p + 1) n := rfl
                rw [hs] at hf
                refine w_Le_faultOfForm_49 ?_
                simp (disch := omega) only [cm_,aq_,ay_,ag_,b8_,af_,ba_,bc_,b4_,ac_,b2_,bq_,ed_,bs_,a0_,ao_,as_,az_,ar_,av_,aw_,dw_,d6_,ea_,d3_,b5_,b1_,fl_,fn_,fh_,fu_,fp_,fz_,fq_,fk_,fr_,f0_,c5_,bd_,c3_,ct_,cx_,cr_,cj_,eb_,d5_,cf_,ch_,an_,Int.toNat_natCast,f3_,eu_,e0_,gc_,ca_,et_,c8_,di_,dm_,dn_,Nat.reduceAdd,Nat.reduceMul,Int.reduceNeg,Nat.reduceLeDiff,List.length_cons,List.length_nil,true_and,and_true,Nat.zero_add,eq_self,Nat.reduceEqDiff,Int.reduceAdd,Int.reduceSub,Int.reduceMul,not_true_eq_false,not_false_eq_true,Nat.reduceLT,Int.reduceToNat,Int.reduceEq,Int.reduceNe,Int.reduceLT,Int.reduceLE,or_true,or_false,false_or,and_self,false_implies,true_implies]
                refine ⟨fun q => absurd q (by omega), fun _ => ?_⟩
                refine con_LisDigit (by unfold inI; omega) hG (fun c3 => ?_) (fun c3 => ?_)
                · rw [if_neg (by simp [isDg, c3])] at hf
                  simp (disch := omega) only [cm_,aq_,ay_,ag_,b8_,af_,ba_,bc_,b4_,ac_,b2_,bq_,ed_,bs_,a0_,ao_,as_,az_,ar_,av_,aw_,dw_,d6_,ea_,d3_,b5_,b1_,fl_,fn_,fh_,fu_,fp_,fz_,fq_,fk_,fr_,f0_,c5_,bd_,c3_,ct_,cx_,cr_,cj_,eb_,d5_,cf_,ch_,an_,Int.toNat_natCast,f3_,eu_,e0_,gc_,ca_,et_,c8_,di_,dm_,dn_,Nat.reduceAdd,Nat.reduceMul,Int.reduceNeg,Nat.reduceLeDiff,List.length_cons,List.length_nil,true_and,and_true,Nat.zero_add,eq_self,Nat.reduceEqDiff,Int.reduceAdd,Int.reduceSub,Int.reduceMul,not_true_eq_false,not_false_eq_true,Nat.reduceLT,Int.reduceToNat,Int.reduceEq,Int.reduceNe,Int.reduceLT,Int.reduceLE,or_true,or_false,false_or,and_self,false_implies,true_implies]
                  refine w_Le_faultOfForm_64 ?_
                  simp (disch := omega) only [cm_,aq_,ay_,ag_,b8_,af_,ba_,bc_,b4_,ac_,b2_,bq_,ed_,bs_,a0_,ao_,as_,az_,ar_,av_,aw_,dw_,d6_,ea_,d3_,b5_,b1_,fl_,fn_,fh_,fu_,fp_,fz_,fq_,fk_,fr_,f0_,c5_,bd_,c3_,ct_,cx_,cr_,cj_,eb_,d5_,cf_,ch_,an_,Int.toNat_natCast,f3_,eu_,e0_,gc_,ca_,et_,c8_,di_,dm_,dn_,Nat.reduceAdd,Nat.reduceMul,Int.reduceNeg,Nat.reduceLeDiff,List.length_cons,List.length_nil,true_and,and_true,Nat.zero_add,eq_self,Nat.reduceEqDiff,Int.reduceAdd,Int.reduceSub,Int.reduceMul,not_true_eq_false,not_false_eq_true,Nat.reduceLT,Int.reduceToNat,Int.reduceEq,Int.reduceNe,Int.reduceLT,Int.reduceLE,or_true,or_false,false_or,and_self,false_implies,true_implies]
                  exact ihn (p + 1) (by omega) (by omega) hf
                · rw [if_pos (by simp only [isDg]; rw [decide_eq_false c3]; rfl)] at hf
                  rw [if_pos (by omega), ← hf] at he
                  rw [← he] at hQ
                  simp (disch := omega) only [cm_,aq_,ay_,ag_,b8_,af_,ba_,bc_,b4_,ac_,b2_,bq_,ed_,bs_,a0_,ao_,as_,az_,ar_,av_,aw_,dw_,d6_,ea_,d3_,b5_,b1_,fl_,fn_,fh_,fu_,fp_,fz_,fq_,fk_,fr_,f0_,c5_,bd_,c3_,ct_,cx_,cr_,cj_,eb_,d5_,cf_,ch_,an_,Int.toNat_natCast,f3_,eu_,e0_,gc_,ca_,et_,c8_,di_,dm_,dn_,Nat.reduceAdd,Nat.reduceMul,Int.reduceNeg,Nat.reduceLeDiff,List.length_cons,List.length_nil,true_and,and_true,Nat.zero_add,eq_self,Nat.reduceEqDiff,Int.reduceAdd,Int.reduceSub,Int.reduceMul,not_true_eq_false,not_false_eq_true,Nat.reduceLT,Int.reduceToNat,Int.reduceEq,Int.reduceNe,Int.reduceLT,Int.reduceLE,or_true,or_false,false_or,and_self,false_implies,true_implies]
                  exact hQ
            refine w_Le_faultOfForm_32 ?_
            simp (disch := omega) only [cm_,aq_,ay_,ag_,b8_,af_,ba_,bc_,b4_,ac_,b2_,bq_,ed_,bs_,a0_,ao_,as_,az_,ar_,av_,aw_,dw_,d6_,ea_,d3_,b5_,b1_,fl_,fn_,fh_,fu_,fp_,fz_,fq_,fk_,fr_,f0_,c5_,bd_,c3_,ct_,cx_,cr_,cj_,eb_,d5_,cf_,ch_,an_,Int.toNat_natCast,f3_,eu_,e0_,gc_,ca_,et_,c8_,di_,dm_,dn_,Nat.reduceAdd,Nat.reduceMul,Int.reduceNeg,Nat.reduceLeDiff,List.length_cons,List.length_nil,true_and,and_true,Nat.zero_add,eq_self,Nat.reduceEqDiff,Int.reduceAdd,Int.reduceSub,Int.reduceMul,not_true_eq_false,not_false_eq_true,Nat.reduceLT,Int.reduceToNat,Int.reduceEq,Int.reduceNe,Int.reduceLT,Int.reduceLE,or_true,or_false,false_or,and_self,false_implies,true_implies]
            refine con_Lat (by unfold inI; omega) hG ?_
            simp (disch := omega) only [cm_,aq_,ay_,ag_,b8_,af_,ba_,bc_,b4_,ac_,b2_,bq_,ed_,bs_,a0_,ao_,as_,az_,ar_,av_,aw_,dw_,d6_,ea_,d3_,b5_,b1_,fl_,fn_,fh_,fu_,fp_,fz_,fq_,fk_,fr_,f0_,c5_,bd_,c3_,ct_,cx_,cr_,cj_,eb_,d5_,cf_,ch_,an_,Int.toNat_natCast,f3_,eu_,e0_,gc_,ca_,et_,c8_,di_,dm_,dn_,Nat.reduceAdd,Nat.reduceMul,Int.reduceNeg,Nat.reduceLeDiff,List.length_cons,List.length_nil,true_and,and_true,Nat.zero_add,eq_self,Nat.reduceEqDiff,Int.reduceAdd,Int.reduceSub,Int.reduceMul,not_true_eq_false,not_false_eq_true,Nat.reduceLT,Int.reduceToNat,Int.reduceEq,Int.reduceNe,Int.reduceLT,Int.reduceLE,or_true,or_false,false_or,and_self,false_implies,true_implies]
            refine con_LlengthOf (by unfold inI; omega) ?_
            simp (disch := omega) only [cm_,aq_,ay_,ag_,b8_,af_,ba_,bc_,b4_,ac_,b2_,bq_,ed_,bs_,a0_,ao_,as_,az_,ar_,av_,aw_,dw_,d6_,ea_,d3_,b5_,b1_,fl_,fn_,fh_,fu_,fp_,fz_,fq_,fk_,fr_,f0_,c5_,bd_,c3_,ct_,cx_,cr_,cj_,eb_,d5_,cf_,ch_,an_,Int.toNat_natCast,f3_,eu_,e0_,gc_,ca_,et_,c8_,di_,dm_,dn_,Nat.reduceAdd,Nat.reduceMul,Int.reduceNeg,Nat.reduceLeDiff,List.length_cons,List.length_nil,true_and,and_true,Nat.zero_add,eq_self,Nat.reduceEqDiff,Int.reduceAdd,Int.reduceSub,Int.reduceMul,not_true_eq_false,not_false_eq_true,Nat.reduceLT,Int.reduceToNat,Int.reduceEq,Int.reduceNe,Int.reduceLT,Int.reduceLE,or_true,or_false,false_or,and_self,false_implies,true_implies,hmx,hen]
            exact inner (lenL lt lsz a) (a + 1) rfl (by omega) rfl
    refine w_Le_faultOfForm_9 ?_
    simp (disch := omega) only [cm_,aq_,ay_,ag_,b8_,af_,ba_,bc_,b4_,ac_,b2_,bq_,ed_,bs_,a0_,ao_,as_,az_,ar_,av_,aw_,dw_,d6_,ea_,d3_,b5_,b1_,fl_,fn_,fh_,fu_,fp_,fz_,fq_,fk_,fr_,f0_,c5_,bd_,c3_,ct_,cx_,cr_,cj_,eb_,d5_,cf_,ch_,an_,Int.toNat_natCast,f3_,eu_,e0_,gc_,ca_,et_,c8_,di_,dm_,dn_,Nat.reduceAdd,Nat.reduceMul,Int.reduceNeg,Nat.reduceLeDiff,List.length_cons,List.length_nil,true_and,and_true,Nat.zero_add,eq_self,Nat.reduceEqDiff,Int.reduceAdd,Int.reduceSub,Int.reduceMul,not_true_eq_false,not_false_eq_true,Nat.reduceLT,Int.reduceToNat,Int.reduceEq,Int.reduceNe,Int.reduceLT,Int.reduceLE,or_true,or_false,false_or,and_self,false_implies,true_implies]
    exact loop 100 0 (by omega) (by omega) hF.symm _ _
  · rw [if_pos (by omega)] at hQ
    exact hQ
theorem dbL_cases {c : Int} (h : 1 ≤ dbL c) : (c = 109 ∧ dbL c = 2) ∨ (c = 112 ∧ dbL c = 1) ∨ (c = 115 ∧ dbL c = 3) ∨ (c = 108 ∧ dbL c = 2) ∨ (c = 107 ∧ dbL c = 2) ∨ (c = 119 ∧ dbL c = 1) ∨ (c = 100 ∧ dbL c = 2) := by
  simp only [dbL] at h ⊢
  repeat' split at h
  all_goals omega
theorem con_Xobeys {a : Nat} (ha : a < 96) (hL : GL lt lsz) (hw : wfS lt lsz a) (hG : GR A) (hD : 0 ≤ hh_ A ∧ hh_ A ≤ 999) (h1 : ∀ B, obF g6_ A lt lsz a = some B → Q (some (.int (zI 1))) (HX (upR rs 1 B) pi psz lt lsz tn tsz g1 g2 sd rf im hM)) (h0 : obF g6_ A lt lsz a = none → Q (some (.int (zI 0))) (HX (upR rs 1 A) pi psz lt lsz tn tsz g1 g2 sd rf im hM)) : Con M_X_obeys [.ref 78, .int (zI a)] (HX (upR rs 1 A) pi psz lt lsz tn tsz g1 g2 sd rf im hM) Q := by
  obtain ⟨w1, w2, w3⟩ := hw
  have gm := hG.men
  have d1 := dgL_rng hL ((a : Int) + 1)
  have d2 := dgL_rng hL ((a : Int) + 2)
  have d3 := dgL_rng hL ((a : Int) + 3)
  have ga := atL_rng hL a
  have e12 : (a : Int) + 1 + 1 = (a : Int) + 2 := by omega
  have e11 : (((a + 1 : Nat) : Int)) = (a : Int) + 1 := by omega
  have hl : lenL lt lsz a = (dbL (atL lt lsz a)).toNat := rfl
  have f1 : 0 ≤ dgL lt lsz ((a : Int) + 1) := (w3 1 (by omega) (by omega)).1
  have f2 : 2 ≤ dbL (atL lt lsz a) → 0 ≤ dgL lt lsz ((a : Int) + 2) := fun q => (w3 2 (by omega) (by omega)).1
  have f3 : 3 ≤ dbL (atL lt lsz a) → 0 ≤ dgL lt lsz ((a : Int) + 3) := fun q => (w3 3 (by omega) (by omega)).1
  simp only [obF] at h1 h0
  generalize hf : dgL lt lsz ((a : Int) + 1) = f at *
  generalize hp : f * 10 + dgL lt lsz ((a : Int) + 2) = p at *
  have hpI : -1000 ≤ p ∧ p ≤ 1000 := by omega
  have kp : (p = (p.toNat : Int)) ∨ p < 0 := by omega
  refine g8_ (L := [some (.ref 78), some (.int (zI a)), none, none]) ok_X_obeys (Nat.le_of_ble_eq_true rfl) rfl ?_
  refine w_X_obeys_0 ?_
  simp (disch := omega) only [cm_,aq_,ay_,ag_,b8_,af_,ba_,bc_,b4_,ac_,b2_,bq_,ed_,bs_,a0_,ao_,as_,az_,ar_,av_,aw_,dw_,d6_,ea_,d3_,b5_,b1_,fl_,fn_,fh_,fu_,fp_,fz_,fq_,fk_,fr_,f0_,c5_,bd_,c3_,ct_,cx_,cr_,cj_,eb_,d5_,cf_,ch_,an_,Int.toNat_natCast,f3_,eu_,e0_,gc_,ca_,et_,c8_,di_,dm_,dn_,Nat.reduceAdd,Nat.reduceMul,Int.reduceNeg,Nat.reduceLeDiff,List.length_cons,List.length_nil,true_and,and_true,Nat.zero_add,eq_self,Nat.reduceEqDiff,Int.reduceAdd,Int.reduceSub,Int.reduceMul,not_true_eq_false,not_false_eq_true,Nat.reduceLT,Int.reduceToNat,Int.reduceEq,Int.reduceNe,Int.reduceLT,Int.reduceLE,or_true,or_false,false_or,and_self,false_implies,true_implies]
  refine con_Ldigit (by unfold inI; omega) hL ?_
  rw [e11, hf]
  simp (disch := omega) only [cm_,aq_,ay_,ag_,b8_,af_,ba_,bc_,b4_,ac_,b2_,bq_,ed_,bs_,a0_,ao_,as_,az_,ar_,av_,aw_,dw_,d6_,ea_,d3_,b5_,b1_,fl_,fn_,fh_,fu_,fp_,fz_,fq_,fk_,fr_,f0_,c5_,bd_,c3_,ct_,cx_,cr_,cj_,eb_,d5_,cf_,ch_,an_,Int.toNat_natCast,f3_,eu_,e0_,gc_,ca_,et_,c8_,di_,dm_,dn_,Nat.reduceAdd,Nat.reduceMul,Int.reduceNeg,Nat.reduceLeDiff,List.length_cons,List.length_nil,true_and,and_true,Nat.zero_add,eq_self,Nat.reduceEqDiff,Int.reduceAdd,Int.reduceSub,Int.reduceMul,not_true_eq_false,not_false_eq_true,Nat.reduceLT,Int.reduceToNat,Int.reduceEq,Int.reduceNe,Int.reduceLT,Int.reduceLE,or_true,or_false,false_or,and_self,false_implies,true_implies]
  refine con_LtwoDigits (by omega) hL ?_
  rw [e11, hf, e12, hp]
  simp (disch := omega) only [cm_,aq_,ay_,ag_,b8_,af_,ba_,bc_,b4_,ac_,b2_,bq_,ed_,bs_,a0_,ao_,as_,az_,ar_,av_,aw_,dw_,d6_,ea_,d3_,b5_,b1_,fl_,fn_,fh_,fu_,fp_,fz_,fq_,fk_,fr_,f0_,c5_,bd_,c3_,ct_,cx_,cr_,cj_,eb_,d5_,cf_,ch_,an_,Int.toNat_natCast,f3_,eu_,e0_,gc_,ca_,et_,c8_,di_,dm_,dn_,Nat.reduceAdd,Nat.reduceMul,Int.reduceNeg,Nat.reduceLeDiff,List.length_cons,List.length_nil,true_and,and_true,Nat.zero_add,eq_self,Nat.reduceEqDiff,Int.reduceAdd,Int.reduceSub,Int.reduceMul,not_true_eq_false,not_false_eq_true,Nat.reduceLT,Int.reduceToNat,Int.reduceEq,Int.reduceNe,Int.reduceLT,Int.reduceLE,or_true,or_false,false_or,and_self,false_implies,true_implies]
  refine con_Lat (by unfold inI; omega) hL ?_
  rcases dbL_cases w2 with ⟨c, cl⟩ | ⟨c, cl⟩ | ⟨c, cl⟩ | ⟨c, cl⟩ | ⟨c, cl⟩ | ⟨c, cl⟩ | ⟨c, cl⟩
  all_goals rw [cl] at f2 f3
  all_goals simp only [c, Int.reduceEq, if_true, if_false] at h1 h0
  all_goals rw [c]
  all_goals simp (disch := omega) only [cm_,aq_,ay_,ag_,b8_,af_,ba_,bc_,b4_,ac_,b2_,bq_,ed_,bs_,a0_,ao_,as_,az_,ar_,av_,aw_,dw_,d6_,ea_,d3_,b5_,b1_,fl_,fn_,fh_,fu_,fp_,fz_,fq_,fk_,fr_,f0_,c5_,bd_,c3_,ct_,cx_,cr_,cj_,eb_,d5_,cf_,ch_,an_,Int.toNat_natCast,f3_,eu_,e0_,gc_,ca_,et_,c8_,di_,dm_,dn_,Nat.reduceAdd,Nat.reduceMul,Int.reduceNeg,Nat.reduceLeDiff,List.length_cons,List.length_nil,true_and,and_true,Nat.zero_add,eq_self,Nat.reduceEqDiff,Int.reduceAdd,Int.reduceSub,Int.reduceMul,not_true_eq_false,not_false_eq_true,Nat.reduceLT,Int.reduceToNat,Int.reduceEq,Int.reduceNe,Int.reduceLT,Int.reduceLE,or_true,or_false,false_or,and_self,false_implies,true_implies]
  all_goals refine ⟨?_, fun q => absurd q (by omega)⟩
  · refine w_X_obeys_124 ?_
    simp (disch := omega) only [cm_,aq_,ay_,ag_,b8_,af_,ba_,bc_,b4_,ac_,b2_,bq_,ed_,bs_,a0_,ao_,as_,az_,ar_,av_,aw_,dw_,d6_,ea_,d3_,b5_,b1_,fl_,fn_,fh_,fu_,fp_,fz_,fq_,fk_,fr_,f0_,c5_,bd_,c3_,ct_,cx_,cr_,cj_,eb_,d5_,cf_,ch_,an_,Int.toNat_natCast,f3_,eu_,e0_,gc_,ca_,et_,c8_,di_,dm_,dn_,Nat.reduceAdd,Nat.reduceMul,Int.reduceNeg,Nat.reduceLeDiff,List.length_cons,List.length_nil,true_and,and_true,Nat.zero_add,eq_self,Nat.reduceEqDiff,Int.reduceAdd,Int.reduceSub,Int.reduceMul,not_true_eq_false,not_false_eq_true,Nat.reduceLT,Int.reduceToNat,Int.reduceEq,Int.reduceNe,Int.reduceLT,Int.reduceLE,or_true,or_false,false_or,and_self,false_implies,true_implies]
    refine con_Ldigit (by unfold inI; omega) hL ?_
    simp (disch := omega) only [cm_,aq_,ay_,ag_,b8_,af_,ba_,bc_,b4_,ac_,b2_,bq_,ed_,bs_,a0_,ao_,as_,az_,ar_,av_,aw_,dw_,d6_,ea_,d3_,b5_,b1_,fl_,fn_,fh_,fu_,fp_,fz_,fq_,fk_,fr_,f0_,c5_,bd_,c3_,ct_,cx_,cr_,cj_,eb_,d5_,cf_,ch_,an_,Int.toNat_natCast,f3_,eu_,e0_,gc_,ca_,et_,c8_,di_,dm_,dn_,Nat.reduceAdd,Nat.reduceMul,Int.reduceNeg,Nat.reduceLeDiff,List.length_cons,List.length_nil,true_and,and_true,Nat.zero_add,eq_self,Nat.reduceEqDiff,Int.reduceAdd,Int.reduceSub,Int.reduceMul,not_true_eq_false,not_false_eq_true,Nat.reduceLT,Int.reduceToNat,Int.reduceEq,Int.reduceNe,Int.reduceLT,Int.reduceLE,or_true,or_false,false_or,and_self,false_implies,true_implies]
    refine conM_of (q := 1) (by omega) (con_takesIn (by unfold inI; omega) hG (fun q1 q2 => ?_) (fun q1 => ?_))
    · rw [conM_back (by omega)]
      simp (disch := omega) only [cm_,aq_,ay_,ag_,b8_,af_,ba_,bc_,b4_,ac_,b2_,bq_,ed_,bs_,a0_,ao_,as_,az_,ar_,av_,aw_,dw_,d6_,ea_,d3_,b5_,b1_,fl_,fn_,fh_,fu_,fp_,fz_,fq_,fk_,fr_,f0_,c5_,bd_,c3_,ct_,cx_,cr_,cj_,eb_,d5_,cf_,ch_,an_,Int.toNat_natCast,f3_,eu_,e0_,gc_,ca_,et_,c8_,di_,dm_,dn_,Nat.reduceAdd,Nat.reduceMul,Int.reduceNeg,Nat.reduceLeDiff,List.length_cons,List.length_nil,true_and,and_true,Nat.zero_add,eq_self,Nat.reduceEqDiff,Int.reduceAdd,Int.reduceSub,Int.reduceMul,not_true_eq_false,not_false_eq_true,Nat.reduceLT,Int.reduceToNat,Int.reduceEq,Int.reduceNe,Int.reduceLT,Int.reduceLE,or_true,or_false,false_or,and_self,false_implies,true_implies]
      exact h1 _ (if_pos ⟨by omega, q2⟩)
    · rw [conM_back (by omega)]
      simp (disch := omega) only [cm_,aq_,ay_,ag_,b8_,af_,ba_,bc_,b4_,ac_,b2_,bq_,ed_,bs_,a0_,ao_,as_,az_,ar_,av_,aw_,dw_,d6_,ea_,d3_,b5_,b1_,fl_,fn_,fh_,fu_,fp_,fz_,fq_,fk_,fr_,f0_,c5_,bd_,c3_,ct_,cx_,cr_,cj_,eb_,d5_,cf_,ch_,an_,Int.toNat_natCast,f3_,eu_,e0_,gc_,ca_,et_,c8_,di_,dm_,dn_,Nat.reduceAdd,Nat.reduceMul,Int.reduceNeg,Nat.reduceLeDiff,List.length_cons,List.length_nil,true_and,and_true,Nat.zero_add,eq_self,Nat.reduceEqDiff,Int.reduceAdd,Int.reduceSub,Int.reduceMul,not_true_eq_false,not_false_eq_true,Nat.reduceLT,Int.reduceToNat,Int.reduceEq,Int.reduceNe,Int.reduceLT,Int.reduceLE,or_true,or_false,false_or,and_self,false_implies,true_implies]
      exact h0 (if_neg (by omega))
  · refine w_X_obeys_143 ?_
    simp (disch := omega) only [cm_,aq_,ay_,ag_,b8_,af_,ba_,bc_,b4_,ac_,b2_,bq_,ed_,bs_,a0_,ao_,as_,az_,ar_,av_,aw_,dw_,d6_,ea_,d3_,b5_,b1_,fl_,fn_,fh_,fu_,fp_,fz_,fq_,fk_,fr_,f0_,c5_,bd_,c3_,ct_,cx_,cr_,cj_,eb_,d5_,cf_,ch_,an_,Int.toNat_natCast,f3_,eu_,e0_,gc_,ca_,et_,c8_,di_,dm_,dn_,Nat.reduceAdd,Nat.reduceMul,Int.reduceNeg,Nat.reduceLeDiff,List.length_cons,List.length_nil,true_and,and_true,Nat.zero_add,eq_self,Nat.reduceEqDiff,Int.reduceAdd,Int.reduceSub,Int.reduceMul,not_true_eq_false,not_false_eq_true,Nat.reduceLT,Int.reduceToNat,Int.reduceEq,Int.reduceNe,Int.reduceLT,Int.reduceLE,or_true,or_false,false_or,and_self,false_implies,true_implies]
    refine conM_of (q := 1) (by omega) (con_turns (by unfold inI; omega) hG (fun x hx q1 q2 => ?_) (fun q1 => ?_))
    · rw [conM_back (by omega)]
      simp (disch := omega) only [cm_,aq_,ay_,ag_,b8_,af_,ba_,bc_,b4_,ac_,b2_,bq_,ed_,bs_,a0_,ao_,as_,az_,ar_,av_,aw_,dw_,d6_,ea_,d3_,b5_,b1_,fl_,fn_,fh_,fu_,fp_,fz_,fq_,fk_,fr_,f0_,c5_,bd_,c3_,ct_,cx_,cr_,cj_,eb_,d5_,cf_,ch_,an_,Int.toNat_natCast,f3_,eu_,e0_,gc_,ca_,et_,c8_,di_,dm_,dn_,Nat.reduceAdd,Nat.reduceMul,Int.reduceNeg,Nat.reduceLeDiff,List.length_cons,List.length_nil,true_and,and_true,Nat.zero_add,eq_self,Nat.reduceEqDiff,Int.reduceAdd,Int.reduceSub,Int.reduceMul,not_true_eq_false,not_false_eq_true,Nat.reduceLT,Int.reduceToNat,Int.reduceEq,Int.reduceNe,Int.reduceLT,Int.reduceLE,or_true,or_false,false_or,and_self,false_implies,true_implies]
      subst hx
      exact h1 _ (if_pos ⟨q1.2, q2⟩)
    · rw [conM_back (by omega)]
      simp (disch := omega) only [cm_,aq_,ay_,ag_,b8_,af_,ba_,bc_,b4_,ac_,b2_,bq_,ed_,bs_,a0_,ao_,as_,az_,ar_,av_,aw_,dw_,d6_,ea_,d3_,b5_,b1_,fl_,fn_,fh_,fu_,fp_,fz_,fq_,fk_,fr_,f0_,c5_,bd_,c3_,ct_,cx_,cr_,cj_,eb_,d5_,cf_,ch_,an_,Int.toNat_natCast,f3_,eu_,e0_,gc_,ca_,et_,c8_,di_,dm_,dn_,Nat.reduceAdd,Nat.reduceMul,Int.reduceNeg,Nat.reduceLeDiff,List.length_cons,List.length_nil,true_and,and_true,Nat.zero_add,eq_self,Nat.reduceEqDiff,Int.reduceAdd,Int.reduceSub,Int.reduceMul,not_true_eq_false,not_false_eq_true,Nat.reduceLT,Int.reduceToNat,Int.reduceEq,Int.reduceNe,Int.reduceLT,Int.reduceLE,or_true,or_false,false_or,and_self,false_implies,true_implies]
      exact h0 (if_neg (fun q => q1 ⟨⟨f1, q.1⟩, q.2⟩))
  · refine w_X_obeys_152 ?_
    simp (disch := omega) only [cm_,aq_,ay_,ag_,b8_,af_,ba_,bc_,b4_,ac_,b2_,bq_,ed_,bs_,a0_,ao_,as_,az_,ar_,av_,aw_,dw_,d6_,ea_,d3_,b5_,b1_,fl_,fn_,fh_,fu_,fp_,fz_,fq_,fk_,fr_,f0_,c5_,bd_,c3_,ct_,cx_,cr_,cj_,eb_,d5_,cf_,ch_,an_,Int.toNat_natCast,f3_,eu_,e0_,gc_,ca_,et_,c8_,di_,dm_,dn_,Nat.reduceAdd,Nat.reduceMul,Int.reduceNeg,Nat.reduceLeDiff,List.length_cons,List.length_nil,true_and,and_true,Nat.zero_add,eq_self,Nat.reduceEqDiff,Int.reduceAdd,Int.reduceSub,Int.reduceMul,not_true_eq_false,not_false_eq_true,Nat.reduceLT,Int.reduceToNat,Int.reduceEq,Int.reduceNe,Int.reduceLT,Int.reduceLE,or_true,or_false,false_or,and_self,false_implies,true_implies]
    refine con_Ldigit (by unfold inI; omega) hL ?_
    simp (disch := omega) only [cm_,aq_,ay_,ag_,b8_,af_,ba_,bc_,b4_,ac_,b2_,bq_,ed_,bs_,a0_,ao_,as_,az_,ar_,av_,aw_,dw_,d6_,ea_,d3_,b5_,b1_,fl_,fn_,fh_,fu_,fp_,fz_,fq_,fk_,fr_,f0_,c5_,bd_,c3_,ct_,cx_,cr_,cj_,eb_,d5_,cf_,ch_,an_,Int.toNat_natCast,f3_,eu_,e0_,gc_,ca_,et_,c8_,di_,dm_,dn_,Nat.reduceAdd,Nat.reduceMul,Int.reduceNeg,Nat.reduceLeDiff,List.length_cons,List.length_nil,true_and,and_true,Nat.zero_add,eq_self,Nat.reduceEqDiff,Int.reduceAdd,Int.reduceSub,Int.reduceMul,not_true_eq_false,not_false_eq_true,Nat.reduceLT,Int.reduceToNat,Int.reduceEq,Int.reduceNe,Int.reduceLT,Int.reduceLE,or_true,or_false,false_or,and_self,false_implies,true_implies]
    refine conM_levels (q := 1) (by omega) (by unfold inI; omega) (fun q => ?_) (fun q => ?_)
    · simp (disch := omega) only [cm_,aq_,ay_,ag_,b8_,af_,ba_,bc_,b4_,ac_,b2_,bq_,ed_,bs_,a0_,ao_,as_,az_,ar_,av_,aw_,dw_,d6_,ea_,d3_,b5_,b1_,fl_,fn_,fh_,fu_,fp_,fz_,fq_,fk_,fr_,f0_,c5_,bd_,c3_,ct_,cx_,cr_,cj_,eb_,d5_,cf_,ch_,an_,Int.toNat_natCast,f3_,eu_,e0_,gc_,ca_,et_,c8_,di_,dm_,dn_,Nat.reduceAdd,Nat.reduceMul,Int.reduceNeg,Nat.reduceLeDiff,List.length_cons,List.length_nil,true_and,and_true,Nat.zero_add,eq_self,Nat.reduceEqDiff,Int.reduceAdd,Int.reduceSub,Int.reduceMul,not_true_eq_false,not_false_eq_true,Nat.reduceLT,Int.reduceToNat,Int.reduceEq,Int.reduceNe,Int.reduceLT,Int.reduceLE,or_true,or_false,false_or,and_self,false_implies,true_implies]
      exact h1 _ (if_pos q.2)
    · simp (disch := omega) only [cm_,aq_,ay_,ag_,b8_,af_,ba_,bc_,b4_,ac_,b2_,bq_,ed_,bs_,a0_,ao_,as_,az_,ar_,av_,aw_,dw_,d6_,ea_,d3_,b5_,b1_,fl_,fn_,fh_,fu_,fp_,fz_,fq_,fk_,fr_,f0_,c5_,bd_,c3_,ct_,cx_,cr_,cj_,eb_,d5_,cf_,ch_,an_,Int.toNat_natCast,f3_,eu_,e0_,gc_,ca_,et_,c8_,di_,dm_,dn_,Nat.reduceAdd,Nat.reduceMul,Int.reduceNeg,Nat.reduceLeDiff,List.length_cons,List.length_nil,true_and,and_true,Nat.zero_add,eq_self,Nat.reduceEqDiff,Int.reduceAdd,Int.reduceSub,Int.reduceMul,not_true_eq_false,not_false_eq_true,Nat.reduceLT,Int.reduceToNat,Int.reduceEq,Int.reduceNe,Int.reduceLT,Int.reduceLE,or_true,or_false,false_or,and_self,false_implies,true_implies]
      exact h0 (if_neg (by omega))
  · refine w_X_obeys_171 ?_
    simp (disch := omega) only [cm_,aq_,ay_,ag_,b8_,af_,ba_,bc_,b4_,ac_,b2_,bq_,ed_,bs_,a0_,ao_,as_,az_,ar_,av_,aw_,dw_,d6_,ea_,d3_,b5_,b1_,fl_,fn_,fh_,fu_,fp_,fz_,fq_,fk_,fr_,f0_,c5_,bd_,c3_,ct_,cx_,cr_,cj_,eb_,d5_,cf_,ch_,an_,Int.toNat_natCast,f3_,eu_,e0_,gc_,ca_,et_,c8_,di_,dm_,dn_,Nat.reduceAdd,Nat.reduceMul,Int.reduceNeg,Nat.reduceLeDiff,List.length_cons,List.length_nil,true_and,and_true,Nat.zero_add,eq_self,Nat.reduceEqDiff,Int.reduceAdd,Int.reduceSub,Int.reduceMul,not_true_eq_false,not_false_eq_true,Nat.reduceLT,Int.reduceToNat,Int.reduceEq,Int.reduceNe,Int.reduceLT,Int.reduceLE,or_true,or_false,false_or,and_self,false_implies,true_implies]
    refine con_outside (by unfold inI; omega) (by unfold inI; omega) (by unfold inI; omega) (fun q => ?_) (fun q q2 => ?_) (fun q q2 => ?_)
    · simp (disch := omega) only [cm_,aq_,ay_,ag_,b8_,af_,ba_,bc_,b4_,ac_,b2_,bq_,ed_,bs_,a0_,ao_,as_,az_,ar_,av_,aw_,dw_,d6_,ea_,d3_,b5_,b1_,fl_,fn_,fh_,fu_,fp_,fz_,fq_,fk_,fr_,f0_,c5_,bd_,c3_,ct_,cx_,cr_,cj_,eb_,d5_,cf_,ch_,an_,Int.toNat_natCast,f3_,eu_,e0_,gc_,ca_,et_,c8_,di_,dm_,dn_,Nat.reduceAdd,Nat.reduceMul,Int.reduceNeg,Nat.reduceLeDiff,List.length_cons,List.length_nil,true_and,and_true,Nat.zero_add,eq_self,Nat.reduceEqDiff,Int.reduceAdd,Int.reduceSub,Int.reduceMul,not_true_eq_false,not_false_eq_true,Nat.reduceLT,Int.reduceToNat,Int.reduceEq,Int.reduceNe,Int.reduceLT,Int.reduceLE,or_true,or_false,false_or,and_self,false_implies,true_implies]
      exact h0 (if_neg (by omega))
    · simp (disch := omega) only [cm_,aq_,ay_,ag_,b8_,af_,ba_,bc_,b4_,ac_,b2_,bq_,ed_,bs_,a0_,ao_,as_,az_,ar_,av_,aw_,dw_,d6_,ea_,d3_,b5_,b1_,fl_,fn_,fh_,fu_,fp_,fz_,fq_,fk_,fr_,f0_,c5_,bd_,c3_,ct_,cx_,cr_,cj_,eb_,d5_,cf_,ch_,an_,Int.toNat_natCast,f3_,eu_,e0_,gc_,ca_,et_,c8_,di_,dm_,dn_,Nat.reduceAdd,Nat.reduceMul,Int.reduceNeg,Nat.reduceLeDiff,List.length_cons,List.length_nil,true_and,and_true,Nat.zero_add,eq_self,Nat.reduceEqDiff,Int.reduceAdd,Int.reduceSub,Int.reduceMul,not_true_eq_false,not_false_eq_true,Nat.reduceLT,Int.reduceToNat,Int.reduceEq,Int.reduceNe,Int.reduceLT,Int.reduceLE,or_true,or_false,false_or,and_self,false_implies,true_implies]
      exact h0 (if_neg (by omega))
    · simp (disch := omega) only [cm_,aq_,ay_,ag_,b8_,af_,ba_,bc_,b4_,ac_,b2_,bq_,ed_,bs_,a0_,ao_,as_,az_,ar_,av_,aw_,dw_,d6_,ea_,d3_,b5_,b1_,fl_,fn_,fh_,fu_,fp_,fz_,fq_,fk_,fr_,f0_,c5_,bd_,c3_,ct_,cx_,cr_,cj_,eb_,d5_,cf_,ch_,an_,Int.toNat_natCast,f3_,eu_,e0_,gc_,ca_,et_,c8_,di_,dm_,dn_,Nat.reduceAdd,Nat.reduceMul,Int.reduceNeg,Nat.reduceLeDiff,List.length_cons,List.length_nil,true_and,and_true,Nat.zero_add,eq_self,Nat.reduceEqDiff,Int.reduceAdd,Int.reduceSub,Int.reduceMul,not_true_eq_false,not_false_eq_true,Nat.reduceLT,Int.reduceToNat,Int.reduceEq,Int.reduceNe,Int.reduceLT,Int.reduceLE,or_true,or_false,false_or,and_self,false_implies,true_implies]
      refine w_X_obeys_183 ?_
      simp (disch := omega) only [cm_,aq_,ay_,ag_,b8_,af_,ba_,bc_,b4_,ac_,b2_,bq_,ed_,bs_,a0_,ao_,as_,az_,ar_,av_,aw_,dw_,d6_,ea_,d3_,b5_,b1_,fl_,fn_,fh_,fu_,fp_,fz_,fq_,fk_,fr_,f0_,c5_,bd_,c3_,ct_,cx_,cr_,cj_,eb_,d5_,cf_,ch_,an_,Int.toNat_natCast,f3_,eu_,e0_,gc_,ca_,et_,c8_,di_,dm_,dn_,Nat.reduceAdd,Nat.reduceMul,Int.reduceNeg,Nat.reduceLeDiff,List.length_cons,List.length_nil,true_and,and_true,Nat.zero_add,eq_self,Nat.reduceEqDiff,Int.reduceAdd,Int.reduceSub,Int.reduceMul,not_true_eq_false,not_false_eq_true,Nat.reduceLT,Int.reduceToNat,Int.reduceEq,Int.reduceNe,Int.reduceLT,Int.reduceLE,or_true,or_false,false_or,and_self,false_implies,true_implies]
      exact h1 _ (if_pos (by omega))
  · refine w_X_obeys_193 ?_
    simp (disch := omega) only [cm_,aq_,ay_,ag_,b8_,af_,ba_,bc_,b4_,ac_,b2_,bq_,ed_,bs_,a0_,ao_,as_,az_,ar_,av_,aw_,dw_,d6_,ea_,d3_,b5_,b1_,fl_,fn_,fh_,fu_,fp_,fz_,fq_,fk_,fr_,f0_,c5_,bd_,c3_,ct_,cx_,cr_,cj_,eb_,d5_,cf_,ch_,an_,Int.toNat_natCast,f3_,eu_,e0_,gc_,ca_,et_,c8_,di_,dm_,dn_,Nat.reduceAdd,Nat.reduceMul,Int.reduceNeg,Nat.reduceLeDiff,List.length_cons,List.length_nil,true_and,and_true,Nat.zero_add,eq_self,Nat.reduceEqDiff,Int.reduceAdd,Int.reduceSub,Int.reduceMul,not_true_eq_false,not_false_eq_true,Nat.reduceLT,Int.reduceToNat,Int.reduceEq,Int.reduceNe,Int.reduceLT,Int.reduceLE,or_true,or_false,false_or,and_self,false_implies,true_implies]
    refine con_outside (by unfold inI; omega) (by unfold inI; omega) (by unfold inI; omega) (fun q => by omega) (fun q q2 => ?_) (fun q q2 => ?_)
    · simp (disch := omega) only [cm_,aq_,ay_,ag_,b8_,af_,ba_,bc_,b4_,ac_,b2_,bq_,ed_,bs_,a0_,ao_,as_,az_,ar_,av_,aw_,dw_,d6_,ea_,d3_,b5_,b1_,fl_,fn_,fh_,fu_,fp_,fz_,fq_,fk_,fr_,f0_,c5_,bd_,c3_,ct_,cx_,cr_,cj_,eb_,d5_,cf_,ch_,an_,Int.toNat_natCast,f3_,eu_,e0_,gc_,ca_,et_,c8_,di_,dm_,dn_,Nat.reduceAdd,Nat.reduceMul,Int.reduceNeg,Nat.reduceLeDiff,List.length_cons,List.length_nil,true_and,and_true,Nat.zero_add,eq_self,Nat.reduceEqDiff,Int.reduceAdd,Int.reduceSub,Int.reduceMul,not_true_eq_false,not_false_eq_true,Nat.reduceLT,Int.reduceToNat,Int.reduceEq,Int.reduceNe,Int.reduceLT,Int.reduceLE,or_true,or_false,false_or,and_self,false_implies,true_implies]
      exact h0 (if_neg (by omega))
    · simp (disch := omega) only [cm_,aq_,ay_,ag_,b8_,af_,ba_,bc_,b4_,ac_,b2_,bq_,ed_,bs_,a0_,ao_,as_,az_,ar_,av_,aw_,dw_,d6_,ea_,d3_,b5_,b1_,fl_,fn_,fh_,fu_,fp_,fz_,fq_,fk_,fr_,f0_,c5_,bd_,c3_,ct_,cx_,cr_,cj_,eb_,d5_,cf_,ch_,an_,Int.toNat_natCast,f3_,eu_,e0_,gc_,ca_,et_,c8_,di_,dm_,dn_,Nat.reduceAdd,Nat.reduceMul,Int.reduceNeg,Nat.reduceLeDiff,List.length_cons,List.length_nil,true_and,and_true,Nat.zero_add,eq_self,Nat.reduceEqDiff,Int.reduceAdd,Int.reduceSub,Int.reduceMul,not_true_eq_false,not_false_eq_true,Nat.reduceLT,Int.reduceToNat,Int.reduceEq,Int.reduceNe,Int.reduceLT,Int.reduceLE,or_true,or_false,false_or,and_self,false_implies,true_implies]
      refine w_X_obeys_205 ?_
      simp (disch := omega) only [cm_,aq_,ay_,ag_,b8_,af_,ba_,bc_,b4_,ac_,b2_,bq_,ed_,bs_,a0_,ao_,as_,az_,ar_,av_,aw_,dw_,d6_,ea_,d3_,b5_,b1_,fl_,fn_,fh_,fu_,fp_,fz_,fq_,fk_,fr_,f0_,c5_,bd_,c3_,ct_,cx_,cr_,cj_,eb_,d5_,cf_,ch_,an_,Int.toNat_natCast,f3_,eu_,e0_,gc_,ca_,et_,c8_,di_,dm_,dn_,Nat.reduceAdd,Nat.reduceMul,Int.reduceNeg,Nat.reduceLeDiff,List.length_cons,List.length_nil,true_and,and_true,Nat.zero_add,eq_self,Nat.reduceEqDiff,Int.reduceAdd,Int.reduceSub,Int.reduceMul,not_true_eq_false,not_false_eq_true,Nat.reduceLT,Int.reduceToNat,Int.reduceEq,Int.reduceNe,Int.reduceLT,Int.reduceLE,or_true,or_false,false_or,and_self,false_implies,true_implies]
      exact h1 _ (if_pos (by omega))
  · refine w_X_obeys_215 ?_
    simp (disch := omega) only [cm_,aq_,ay_,ag_,b8_,af_,ba_,bc_,b4_,ac_,b2_,bq_,ed_,bs_,a0_,ao_,as_,az_,ar_,av_,aw_,dw_,d6_,ea_,d3_,b5_,b1_,fl_,fn_,fh_,fu_,fp_,fz_,fq_,fk_,fr_,f0_,c5_,bd_,c3_,ct_,cx_,cr_,cj_,eb_,d5_,cf_,ch_,an_,Int.toNat_natCast,f3_,eu_,e0_,gc_,ca_,et_,c8_,di_,dm_,dn_,Nat.reduceAdd,Nat.reduceMul,Int.reduceNeg,Nat.reduceLeDiff,List.length_cons,List.length_nil,true_and,and_true,Nat.zero_add,eq_self,Nat.reduceEqDiff,Int.reduceAdd,Int.reduceSub,Int.reduceMul,not_true_eq_false,not_false_eq_true,Nat.reduceLT,Int.reduceToNat,Int.reduceEq,Int.reduceNe,Int.reduceLT,Int.reduceLE,or_true,or_false,false_or,and_self,false_implies,true_implies]
    exact h1 _ rfl
  · have hp2 : p = (p.toNat : Int) := by omega
    refine w_X_obeys_225 ?_
    simp (disch := omega) only [cm_,aq_,ay_,ag_,b8_,af_,ba_,bc_,b4_,ac_,b2_,bq_,ed_,bs_,a0_,ao_,as_,az_,ar_,av_,aw_,dw_,d6_,ea_,d3_,b5_,b1_,fl_,fn_,fh_,fu_,fp_,fz_,fq_,fk_,fr_,f0_,c5_,bd_,c3_,ct_,cx_,cr_,cj_,eb_,d5_,cf_,ch_,an_,Int.toNat_natCast,f3_,eu_,e0_,gc_,ca_,et_,c8_,di_,dm_,dn_,Nat.reduceAdd,Nat.reduceMul,Int.reduceNeg,Nat.reduceLeDiff,List.length_cons,List.length_nil,true_and,and_true,Nat.zero_add,eq_self,Nat.reduceEqDiff,Int.reduceAdd,Int.reduceSub,Int.reduceMul,not_true_eq_false,not_false_eq_true,Nat.reduceLT,Int.reduceToNat,Int.reduceEq,Int.reduceNe,Int.reduceLT,Int.reduceLE,or_true,or_false,false_or,and_self,false_implies,true_implies]
    refine con_outside (by unfold inI; omega) (by unfold inI; omega) (by unfold inI; omega) (fun q => ?_) (fun q q2 => ?_) (fun q q2 => ?_)
    · simp (disch := omega) only [cm_,aq_,ay_,ag_,b8_,af_,ba_,bc_,b4_,ac_,b2_,bq_,ed_,bs_,a0_,ao_,as_,az_,ar_,av_,aw_,dw_,d6_,ea_,d3_,b5_,b1_,fl_,fn_,fh_,fu_,fp_,fz_,fq_,fk_,fr_,f0_,c5_,bd_,c3_,ct_,cx_,cr_,cj_,eb_,d5_,cf_,ch_,an_,Int.toNat_natCast,f3_,eu_,e0_,gc_,ca_,et_,c8_,di_,dm_,dn_,Nat.reduceAdd,Nat.reduceMul,Int.reduceNeg,Nat.reduceLeDiff,List.length_cons,List.length_nil,true_and,and_true,Nat.zero_add,eq_self,Nat.reduceEqDiff,Int.reduceAdd,Int.reduceSub,Int.reduceMul,not_true_eq_false,not_false_eq_true,Nat.reduceLT,Int.reduceToNat,Int.reduceEq,Int.reduceNe,Int.reduceLT,Int.reduceLE,or_true,or_false,false_or,and_self,false_implies,true_implies]
      refine w_X_obeys_250 ?_
      simp (disch := omega) only [cm_,aq_,ay_,ag_,b8_,af_,ba_,bc_,b4_,ac_,b2_,bq_,ed_,bs_,a0_,ao_,as_,az_,ar_,av_,aw_,dw_,d6_,ea_,d3_,b5_,b1_,fl_,fn_,fh_,fu_,fp_,fz_,fq_,fk_,fr_,f0_,c5_,bd_,c3_,ct_,cx_,cr_,cj_,eb_,d5_,cf_,ch_,an_,Int.toNat_natCast,f3_,eu_,e0_,gc_,ca_,et_,c8_,di_,dm_,dn_,Nat.reduceAdd,Nat.reduceMul,Int.reduceNeg,Nat.reduceLeDiff,List.length_cons,List.length_nil,true_and,and_true,Nat.zero_add,eq_self,Nat.reduceEqDiff,Int.reduceAdd,Int.reduceSub,Int.reduceMul,not_true_eq_false,not_false_eq_true,Nat.reduceLT,Int.reduceToNat,Int.reduceEq,Int.reduceNe,Int.reduceLT,Int.reduceLE,or_true,or_false,false_or,and_self,false_implies,true_implies]
      exact h0 (if_neg (by omega))
    · simp (disch := omega) only [cm_,aq_,ay_,ag_,b8_,af_,ba_,bc_,b4_,ac_,b2_,bq_,ed_,bs_,a0_,ao_,as_,az_,ar_,av_,aw_,dw_,d6_,ea_,d3_,b5_,b1_,fl_,fn_,fh_,fu_,fp_,fz_,fq_,fk_,fr_,f0_,c5_,bd_,c3_,ct_,cx_,cr_,cj_,eb_,d5_,cf_,ch_,an_,Int.toNat_natCast,f3_,eu_,e0_,gc_,ca_,et_,c8_,di_,dm_,dn_,Nat.reduceAdd,Nat.reduceMul,Int.reduceNeg,Nat.reduceLeDiff,List.length_cons,List.length_nil,true_and,and_true,Nat.zero_add,eq_self,Nat.reduceEqDiff,Int.reduceAdd,Int.reduceSub,Int.reduceMul,not_true_eq_false,not_false_eq_true,Nat.reduceLT,Int.reduceToNat,Int.reduceEq,Int.reduceNe,Int.reduceLT,Int.reduceLE,or_true,or_false,false_or,and_self,false_implies,true_implies]
      refine w_X_obeys_250 ?_
      simp (disch := omega) only [cm_,aq_,ay_,ag_,b8_,af_,ba_,bc_,b4_,ac_,b2_,bq_,ed_,bs_,a0_,ao_,as_,az_,ar_,av_,aw_,dw_,d6_,ea_,d3_,b5_,b1_,fl_,fn_,fh_,fu_,fp_,fz_,fq_,fk_,fr_,f0_,c5_,bd_,c3_,ct_,cx_,cr_,cj_,eb_,d5_,cf_,ch_,an_,Int.toNat_natCast,f3_,eu_,e0_,gc_,ca_,et_,c8_,di_,dm_,dn_,Nat.reduceAdd,Nat.reduceMul,Int.reduceNeg,Nat.reduceLeDiff,List.length_cons,List.length_nil,true_and,and_true,Nat.zero_add,eq_self,Nat.reduceEqDiff,Int.reduceAdd,Int.reduceSub,Int.reduceMul,not_true_eq_false,not_false_eq_true,Nat.reduceLT,Int.reduceToNat,Int.reduceEq,Int.reduceNe,Int.reduceLT,Int.reduceLE,or_true,or_false,false_or,and_self,false_implies,true_implies]
      exact h0 (if_neg (by omega))
    · simp (disch := omega) only [cm_,aq_,ay_,ag_,b8_,af_,ba_,bc_,b4_,ac_,b2_,bq_,ed_,bs_,a0_,ao_,as_,az_,ar_,av_,aw_,dw_,d6_,ea_,d3_,b5_,b1_,fl_,fn_,fh_,fu_,fp_,fz_,fq_,fk_,fr_,f0_,c5_,bd_,c3_,ct_,cx_,cr_,cj_,eb_,d5_,cf_,ch_,an_,Int.toNat_natCast,f3_,eu_,e0_,gc_,ca_,et_,c8_,di_,dm_,dn_,Nat.reduceAdd,Nat.reduceMul,Int.reduceNeg,Nat.reduceLeDiff,List.length_cons,List.length_nil,true_and,and_true,Nat.zero_add,eq_self,Nat.reduceEqDiff,Int.reduceAdd,Int.reduceSub,Int.reduceMul,not_true_eq_false,not_false_eq_true,Nat.reduceLT,Int.reduceToNat,Int.reduceEq,Int.reduceNe,Int.reduceLT,Int.reduceLE,or_true,or_false,false_or,and_self,false_implies,true_implies]
      refine ⟨fun q3 => ?_, fun q3 => ?_⟩
      · refine w_X_obeys_252 ?_
        simp (disch := omega) only [cm_,aq_,ay_,ag_,b8_,af_,ba_,bc_,b4_,ac_,b2_,bq_,ed_,bs_,a0_,ao_,as_,az_,ar_,av_,aw_,dw_,d6_,ea_,d3_,b5_,b1_,fl_,fn_,fh_,fu_,fp_,fz_,fq_,fk_,fr_,f0_,c5_,bd_,c3_,ct_,cx_,cr_,cj_,eb_,d5_,cf_,ch_,an_,Int.toNat_natCast,f3_,eu_,e0_,gc_,ca_,et_,c8_,di_,dm_,dn_,Nat.reduceAdd,Nat.reduceMul,Int.reduceNeg,Nat.reduceLeDiff,List.length_cons,List.length_nil,true_and,and_true,Nat.zero_add,eq_self,Nat.reduceEqDiff,Int.reduceAdd,Int.reduceSub,Int.reduceMul,not_true_eq_false,not_false_eq_true,Nat.reduceLT,Int.reduceToNat,Int.reduceEq,Int.reduceNe,Int.reduceLT,Int.reduceLE,or_true,or_false,false_or,and_self,false_implies,true_implies]
        rw [hp2]
        refine conM_passDays (q := 1) (by omega) (by omega) hG ?_
        simp (disch := omega) only [cm_,aq_,ay_,ag_,b8_,af_,ba_,bc_,b4_,ac_,b2_,bq_,ed_,bs_,a0_,ao_,as_,az_,ar_,av_,aw_,dw_,d6_,ea_,d3_,b5_,b1_,fl_,fn_,fh_,fu_,fp_,fz_,fq_,fk_,fr_,f0_,c5_,bd_,c3_,ct_,cx_,cr_,cj_,eb_,d5_,cf_,ch_,an_,Int.toNat_natCast,f3_,eu_,e0_,gc_,ca_,et_,c8_,di_,dm_,dn_,Nat.reduceAdd,Nat.reduceMul,Int.reduceNeg,Nat.reduceLeDiff,List.length_cons,List.length_nil,true_and,and_true,Nat.zero_add,eq_self,Nat.reduceEqDiff,Int.reduceAdd,Int.reduceSub,Int.reduceMul,not_true_eq_false,not_false_eq_true,Nat.reduceLT,Int.reduceToNat,Int.reduceEq,Int.reduceNe,Int.reduceLT,Int.reduceLE,or_true,or_false,false_or,and_self,false_implies,true_implies]
        exact h1 _ (if_pos ⟨by omega, by omega⟩)
      · refine w_X_obeys_250 ?_
        simp (disch := omega) only [cm_,aq_,ay_,ag_,b8_,af_,ba_,bc_,b4_,ac_,b2_,bq_,ed_,bs_,a0_,ao_,as_,az_,ar_,av_,aw_,dw_,d6_,ea_,d3_,b5_,b1_,fl_,fn_,fh_,fu_,fp_,fz_,fq_,fk_,fr_,f0_,c5_,bd_,c3_,ct_,cx_,cr_,cj_,eb_,d5_,cf_,ch_,an_,Int.toNat_natCast,f3_,eu_,e0_,gc_,ca_,et_,c8_,di_,dm_,dn_,Nat.reduceAdd,Nat.reduceMul,Int.reduceNeg,Nat.reduceLeDiff,List.length_cons,List.length_nil,true_and,and_true,Nat.zero_add,eq_self,Nat.reduceEqDiff,Int.reduceAdd,Int.reduceSub,Int.reduceMul,not_true_eq_false,not_false_eq_true,Nat.reduceLT,Int.reduceToNat,Int.reduceEq,Int.reduceNe,Int.reduceLT,Int.reduceLE,or_true,or_false,false_or,and_self,false_implies,true_implies]
        exact h0 (if_neg (by omega))
end C12
end
/-! reign -/
section
/-! ===== reign ===== -/
theorem obF_ok {s : SQ} {lt : Nat → Int} {lsz : Int} {A B : RR} {a : Nat} (hL : GL lt lsz) (hw : wfS lt lsz a) (hG : GR A) (hD : 0 ≤ hh_ A ∧ hh_ A ≤ 999) (hs : ∀ n, GR (s A n) ∧ hh_ (s A n) = hh_ A + n) (h : obF s A lt lsz a = some B) : GR B ∧ 0 ≤ hh_ B ∧ hh_ B ≤ 999 := by
  obtain ⟨w1, w2, w3⟩ := hw
  have d1 := dgL_rng hL ((a : Int) + 1)
  have d2 := dgL_rng hL ((a : Int) + 2)
  have d3 := dgL_rng hL ((a : Int) + 3)
  have hl : lenL lt lsz a = (dbL (atL lt lsz a)).toNat := rfl
  have f1 : 0 ≤ dgL lt lsz ((a : Int) + 1) := (w3 1 (by omega) (by omega)).1
  have f2 : 2 ≤ dbL (atL lt lsz a) → 0 ≤ dgL lt lsz ((a : Int) + 2) := fun q => (w3 2 (by omega) (by omega)).1
  have f3 : 3 ≤ dbL (atL lt lsz a) → 0 ≤ dgL lt lsz ((a : Int) + 3) := fun q => (w3 3 (by omega) (by omega)).1
  simp only [obF] at h
  generalize hp : dgL lt lsz ((a : Int) + 1) * 10 + dgL lt lsz ((a : Int) + 2) = p at *
  rcases dbL_cases w2 with ⟨c, cl⟩ | ⟨c, cl⟩ | ⟨c, cl⟩ | ⟨c, cl⟩ | ⟨c, cl⟩ | ⟨c, cl⟩ | ⟨c, cl⟩
  all_goals rw [cl] at f2 f3
  all_goals simp only [c, Int.reduceEq, if_true, if_false] at h
  · split at h
    · rename_i q
      cases h
      exact ⟨hG.add q.2 (by omega) (by omega), hD⟩
    · cases h
  · have hf := hG.fa (dgL lt lsz ((a : Int) + 1)).toNat
    split at h
    · rename_i q
      cases h
      exact ⟨hG.setFa _ (by omega), hD⟩
    · cases h
  · split at h
    · cases h
      exact ⟨hG.setSl _ (by omega), hD⟩
    · cases h
  · split at h
    · cases h
      exact ⟨hG.setLoad (by omega), hD⟩
    · cases h
  · split at h
    · cases h
      exact ⟨hG.setKing (by omega), hD⟩
    · cases h
  · cases h
    exact ⟨hG.setSnow (by omega), hD⟩
  · split at h
    · rename_i q
      have hn := hs p.toNat
      cases h
      exact ⟨hn.1, by rw [hn.2]; omega, by rw [hn.2]; omega⟩
    · cases h
theorem ffN_wf {lt : Nat → Int} {lsz : Int} {m a : Nat} (hL : GL lt lsz) (ha : (a : Int) < lsz) (h : ffN lt lsz (m + 1) a = -9) : wfS lt lsz a ∧ ffN lt lsz m (a + 1 + lenL lt lsz a + 1) = -9 ∧ ((a + 1 + lenL lt lsz a : Nat) : Int) < lsz ∧ 1 ≤ lenL lt lsz a ∧ lenL lt lsz a ≤ 3 := by
  have gd := dbL_rng (atL lt lsz a)
  simp only [ffN] at h
  rw [if_neg (by omega)] at h
  by_cases c1 : dbL (atL lt lsz a) < 0
  · rw [if_pos c1] at h
    omega
  · rw [if_neg c1] at h
    have hL1 : lenL lt lsz a = (dbL (atL lt lsz a)).toNat := rfl
    by_cases c2 : firstN (fun p => !isDg lt lsz p) (a + 1) (lenL lt lsz a) ≠ -9
    · rw [if_pos c2] at h
      exact absurd h c2
    · rw [if_neg c2] at h
      have c2 : firstN (fun p => !isDg lt lsz p) (a + 1) (lenL lt lsz a) = -9 := Classical.not_not.mp c2
      by_cases c3 : atL lt lsz ((a + 1 + lenL lt lsz a : Nat) : Int) ≠ 59
      · rw [if_pos c3] at h
        omega
      · rw [if_neg c3] at h
        have c3 : atL lt lsz ((a + 1 + lenL lt lsz a : Nat) : Int) = 59 := Classical.not_not.mp c3
        refine ⟨⟨ha, by omega, fun k k1 k2 => ?_⟩, h, ?_, by omega, by omega⟩
        · have := firstN_none c2 (a + k) (by omega) (by omega)
          simp only [isDg, Bool.not_eq_false', decide_eq_true_eq] at this
          simp only [dgL]
          rw [if_pos this]
          omega
        · simp only [atL] at c3
          split at c3 <;> omega
section C13
variable {rs : Nat → RR} {pi : Nat → Nat} {psz : Int} {lt : Nat → Int} {lsz : Int} {tn : Nat → Int} {tsz : Int} {g1 g2 : Nat → Int} {sd : Int} {rf : Nat → Int} {im : Int} {hM : AH} {Q : Option Value → AH → Prop}
theorem con_Xreign (hA : ∀ i, GR (rs i)) (hL : GL lt lsz) (hD : 0 ≤ hh_ (rs 0) ∧ hh_ (rs 0) ≤ 999)
    (h1 : 0 ≤ ffF lt lsz → ∀ B, GR B → Q (some (.int (zI (-1000 - ffF lt lsz)))) (HX (upR rs 1 B) pi psz lt (0) tn tsz g1 g2 sd rf im hM))
    (h2 : ffF lt lsz = -9 → (rgN g6_ lt lsz 100 0 (rs 0) 0).1 < 0 → ∀ B, GR B → Q (some (.int (zI (rgN g6_ lt lsz 100 0 (rs 0) 0).1))) (HX (upR rs 1 B) pi psz lt (0) tn tsz g1 g2 sd rf im hM))
    (h3 : ffF lt lsz = -9 → 0 ≤ (rgN g6_ lt lsz 100 0 (rs 0) 0).1 → ∀ B, GR B → GR (rgN g6_ lt lsz 100 0 (rs 0) 0).2 → 0 ≤ hh_ (rgN g6_ lt lsz 100 0 (rs 0) 0).2 → hh_ (rgN g6_ lt lsz 100 0 (rs 0) 0).2 ≤ 999 → Q (some (.int (zI (rgN g6_ lt lsz 100 0 (rs 0) 0).1))) (HX (upR (upR rs 1 B) 0 (rgN g6_ lt lsz 100 0 (rs 0) 0).2) pi (0) lt (0) tn tsz g1 g2 sd rf im hM)) : Con M_X_reign [.ref 78] (HX rs pi psz lt lsz tn tsz g1 g2 sd rf im hM) Q := by
  have gl := hL.1
  have hff : ffF lt lsz = -9 ∨ (0 ≤ ffF lt lsz ∧ ffF lt lsz ≤ 200) := by
    have : ∀ m a : Nat, a ≤ 96 → ffN lt lsz m a = -9 ∨ (0 ≤ ffN lt lsz m a ∧ ffN lt lsz m a ≤ 200) := by
      intro m
      induction m with
      | zero => intro a h; left; rfl
      | succ m ih =>
        intro a h
        have gd := dbL_rng (atL lt lsz a)
        have hL1 : lenL lt lsz a = (dbL (atL lt lsz a)).toNat := rfl
        have hf := firstN_rng (fun p => !isDg lt lsz p) (a + 1) (lenL lt lsz a)
        simp only [ffN]
        split
        · omega
        · split
          · omega
          · split
            · omega
            · split
              · omega
              · rename_i c3
                have c3 : atL lt lsz ((a + 1 + lenL lt lsz a : Nat) : Int) = 59 := Classical.not_not.mp c3
                have : ((a + 1 + lenL lt lsz a : Nat) : Int) < lsz := by
                  simp only [atL] at c3
                  split at c3 <;> omega
                exact ih _ (by omega)
    simp only [ffF]
    split
    · omega
    · exact this 100 0 (by omega)
  obtain ⟨E, hE⟩ : ∃ E, E = rgN g6_ lt lsz 100 0 (rs 0) 0 := ⟨_, rfl⟩
  rw [← hE] at h2 h3
  refine g8_ (L := [some (.ref 78), none, none, none]) ok_X_reign (Nat.le_of_ble_eq_true rfl) rfl ?_
  refine w_X_reign_0 ?_
  simp (disch := omega) only [cm_,aq_,ay_,ag_,b8_,af_,ba_,bc_,ac_,bq_,ed_,bs_,ao_,a2_,az_,av_,dw_,d6_,ea_,d3_,b5_,b1_,fh_,fu_,fp_,fz_,fq_,fk_,f0_,c5_,bt_,bd_,ct_,co_,cr_,cf_,ch_,an_,Int.toNat_natCast,eu_,e3_,e0_,gd_,gc_,et_,c9_,di_,dm_,dn_,Nat.reduceAdd,Nat.reduceMul,Int.reduceNeg,Nat.reduceLeDiff,List.length_cons,List.length_nil,true_and,and_true,Nat.zero_add,eq_self,Nat.reduceEqDiff,Int.reduceAdd,Int.reduceSub,Int.reduceMul,not_true_eq_false,not_false_eq_true,Nat.reduceLT,Int.reduceToNat,Int.reduceEq,Int.reduceNe,Int.reduceLT,Int.reduceLE,false_implies,true_implies]
  refine con_LfaultOfForm hL ?_
  simp (disch := omega) only [cm_,aq_,ay_,ag_,b8_,af_,ba_,bc_,ac_,bq_,ed_,bs_,ao_,a2_,az_,av_,dw_,d6_,ea_,d3_,b5_,b1_,fh_,fu_,fp_,fz_,fq_,fk_,f0_,c5_,bt_,bd_,ct_,co_,cr_,cf_,ch_,an_,Int.toNat_natCast,eu_,e3_,e0_,gd_,gc_,et_,c9_,di_,dm_,dn_,Nat.reduceAdd,Nat.reduceMul,Int.reduceNeg,Nat.reduceLeDiff,List.length_cons,List.length_nil,true_and,and_true,Nat.zero_add,eq_self,Nat.reduceEqDiff,Int.reduceAdd,Int.reduceSub,Int.reduceMul,not_true_eq_false,not_false_eq_true,Nat.reduceLT,Int.reduceToNat,Int.reduceEq,Int.reduceNe,Int.reduceLT,Int.reduceLE,false_implies,true_implies]
  have tail1 : ∀ (z : Int) (B : RR) (f x3 : Int), GR B → -3000 ≤ z → z < 0 → Q (some (.int (zI z))) (HX (upR rs 1 B) pi psz lt (0) tn tsz g1 g2 sd rf im hM) → J M_X_reign 87 [some (.ref 78), some (.int (zI f)), some (.int (zI z)), some (.int (zI x3))] [] (HX (upR rs 1 B) pi psz lt lsz tn tsz g1 g2 sd rf im hM) Q := by
    intro z B f x3 hB hz1 hz2 hq
    refine w_X_reign_87 ?_
    simp (disch := omega) only [cm_,aq_,ay_,ag_,b8_,af_,ba_,bc_,ac_,bq_,ed_,bs_,ao_,a2_,az_,av_,dw_,d6_,ea_,d3_,b5_,b1_,fh_,fu_,fp_,fz_,fq_,fk_,f0_,c5_,bt_,bd_,ct_,co_,cr_,cf_,ch_,an_,Int.toNat_natCast,eu_,e3_,e0_,gd_,gc_,et_,c9_,di_,dm_,dn_,Nat.reduceAdd,Nat.reduceMul,Int.reduceNeg,Nat.reduceLeDiff,List.length_cons,List.length_nil,true_and,and_true,Nat.zero_add,eq_self,Nat.reduceEqDiff,Int.reduceAdd,Int.reduceSub,Int.reduceMul,not_true_eq_false,not_false_eq_true,Nat.reduceLT,Int.reduceToNat,Int.reduceEq,Int.reduceNe,Int.reduceLT,Int.reduceLE,false_implies,true_implies]
    refine ⟨fun _ => ?_, fun q => absurd q (by omega)⟩
    refine w_X_reign_109 ?_
    simp (disch := omega) only [cm_,aq_,ay_,ag_,b8_,af_,ba_,bc_,ac_,bq_,ed_,bs_,ao_,a2_,az_,av_,dw_,d6_,ea_,d3_,b5_,b1_,fh_,fu_,fp_,fz_,fq_,fk_,f0_,c5_,bt_,bd_,ct_,co_,cr_,cf_,ch_,an_,Int.toNat_natCast,eu_,e3_,e0_,gd_,gc_,et_,c9_,di_,dm_,dn_,Nat.reduceAdd,Nat.reduceMul,Int.reduceNeg,Nat.reduceLeDiff,List.length_cons,List.length_nil,true_and,and_true,Nat.zero_add,eq_self,Nat.reduceEqDiff,Int.reduceAdd,Int.reduceSub,Int.reduceMul,not_true_eq_false,not_false_eq_true,Nat.reduceLT,Int.reduceToNat,Int.reduceEq,Int.reduceNe,Int.reduceLT,Int.reduceLE,false_implies,true_implies]
    refine con_Lforget ?_
    simp (disch := omega) only [cm_,aq_,ay_,ag_,b8_,af_,ba_,bc_,ac_,bq_,ed_,bs_,ao_,a2_,az_,av_,dw_,d6_,ea_,d3_,b5_,b1_,fh_,fu_,fp_,fz_,fq_,fk_,f0_,c5_,bt_,bd_,ct_,co_,cr_,cf_,ch_,an_,Int.toNat_natCast,eu_,e3_,e0_,gd_,gc_,et_,c9_,di_,dm_,dn_,Nat.reduceAdd,Nat.reduceMul,Int.reduceNeg,Nat.reduceLeDiff,List.length_cons,List.length_nil,true_and,and_true,Nat.zero_add,eq_self,Nat.reduceEqDiff,Int.reduceAdd,Int.reduceSub,Int.reduceMul,not_true_eq_false,not_false_eq_true,Nat.reduceLT,Int.reduceToNat,Int.reduceEq,Int.reduceNe,Int.reduceLT,Int.reduceLE,false_implies,true_implies]
    exact hq
  rcases hff with hf | ⟨hf, hf2⟩
  · rw [hf]
    simp (disch := omega) only [cm_,aq_,ay_,ag_,b8_,af_,ba_,bc_,ac_,bq_,ed_,bs_,ao_,a2_,az_,av_,dw_,d6_,ea_,d3_,b5_,b1_,fh_,fu_,fp_,fz_,fq_,fk_,f0_,c5_,bt_,bd_,ct_,co_,cr_,cf_,ch_,an_,Int.toNat_natCast,eu_,e3_,e0_,gd_,gc_,et_,c9_,di_,dm_,dn_,Nat.reduceAdd,Nat.reduceMul,Int.reduceNeg,Nat.reduceLeDiff,List.length_cons,List.length_nil,true_and,and_true,Nat.zero_add,eq_self,Nat.reduceEqDiff,Int.reduceAdd,Int.reduceSub,Int.reduceMul,not_true_eq_false,not_false_eq_true,Nat.reduceLT,Int.reduceToNat,Int.reduceEq,Int.reduceNe,Int.reduceLT,Int.reduceLE,false_implies,true_implies]
    refine w_X_reign_20 ?_
    simp (disch := omega) only [cm_,aq_,ay_,ag_,b8_,af_,ba_,bc_,ac_,bq_,ed_,bs_,ao_,a2_,az_,av_,dw_,d6_,ea_,d3_,b5_,b1_,fh_,fu_,fp_,fz_,fq_,fk_,f0_,c5_,bt_,bd_,ct_,co_,cr_,cf_,ch_,an_,Int.toNat_natCast,eu_,e3_,e0_,gd_,gc_,et_,c9_,di_,dm_,dn_,Nat.reduceAdd,Nat.reduceMul,Int.reduceNeg,Nat.reduceLeDiff,List.length_cons,List.length_nil,true_and,and_true,Nat.zero_add,eq_self,Nat.reduceEqDiff,Int.reduceAdd,Int.reduceSub,Int.reduceMul,not_true_eq_false,not_false_eq_true,Nat.reduceLT,Int.reduceToNat,Int.reduceEq,Int.reduceNe,Int.reduceLT,Int.reduceLE,false_implies,true_implies]
    refine w_X_reign_21 ?_
    simp (disch := omega) only [cm_,aq_,ay_,ag_,b8_,af_,ba_,bc_,ac_,bq_,ed_,bs_,ao_,a2_,az_,av_,dw_,d6_,ea_,d3_,b5_,b1_,fh_,fu_,fp_,fz_,fq_,fk_,f0_,c5_,bt_,bd_,ct_,co_,cr_,cf_,ch_,an_,Int.toNat_natCast,eu_,e3_,e0_,gd_,gc_,et_,c9_,di_,dm_,dn_,Nat.reduceAdd,Nat.reduceMul,Int.reduceNeg,Nat.reduceLeDiff,List.length_cons,List.length_nil,true_and,and_true,Nat.zero_add,eq_self,Nat.reduceEqDiff,Int.reduceAdd,Int.reduceSub,Int.reduceMul,not_true_eq_false,not_false_eq_true,Nat.reduceLT,Int.reduceToNat,Int.reduceEq,Int.reduceNe,Int.reduceLT,Int.reduceLE,false_implies,true_implies]
    have b0 : HX rs pi psz lt lsz tn tsz g1 g2 sd rf im hM = HX (upR rs 1 (rs 1)) pi psz lt lsz tn tsz g1 g2 sd rf im hM := by rw [c9_]
    rw [b0]
    refine conM_become (q := 1) (by omega) ?_
    simp (disch := omega) only [cm_,aq_,ay_,ag_,b8_,af_,ba_,bc_,ac_,bq_,ed_,bs_,ao_,a2_,az_,av_,dw_,d6_,ea_,d3_,b5_,b1_,fh_,fu_,fp_,fz_,fq_,fk_,f0_,c5_,bt_,bd_,ct_,co_,cr_,cf_,ch_,an_,Int.toNat_natCast,eu_,e3_,e0_,gd_,gc_,et_,c9_,di_,dm_,dn_,Nat.reduceAdd,Nat.reduceMul,Int.reduceNeg,Nat.reduceLeDiff,List.length_cons,List.length_nil,true_and,and_true,Nat.zero_add,eq_self,Nat.reduceEqDiff,Int.reduceAdd,Int.reduceSub,Int.reduceMul,not_true_eq_false,not_false_eq_true,Nat.reduceLT,Int.reduceToNat,Int.reduceEq,Int.reduceNe,Int.reduceLT,Int.reduceLE,false_implies,true_implies]
    have hneg : ∀ (z : Int) (B : RR) (a : Nat), GR B → a ≤ 300 → z = -2000 - (a : Int) → E = (z, B) → J M_X_reign 35 [some (.ref 78), some (.int (zI (-9))), some (.int (zI z)), some (.int (zI a))] [] (HX (upR rs 1 B) pi psz lt lsz tn tsz g1 g2 sd rf im hM) Q := by
      intro z B a hB ha hz he
      rw [he] at h2
      refine w_X_reign_35 ?_
      simp (disch := omega) only [cm_,aq_,ay_,ag_,b8_,af_,ba_,bc_,ac_,bq_,ed_,bs_,ao_,a2_,az_,av_,dw_,d6_,ea_,d3_,b5_,b1_,fh_,fu_,fp_,fz_,fq_,fk_,f0_,c5_,bt_,bd_,ct_,co_,cr_,cf_,ch_,an_,Int.toNat_natCast,eu_,e3_,e0_,gd_,gc_,et_,c9_,di_,dm_,dn_,Nat.reduceAdd,Nat.reduceMul,Int.reduceNeg,Nat.reduceLeDiff,List.length_cons,List.length_nil,true_and,and_true,Nat.zero_add,eq_self,Nat.reduceEqDiff,Int.reduceAdd,Int.reduceSub,Int.reduceMul,not_true_eq_false,not_false_eq_true,Nat.reduceLT,Int.reduceToNat,Int.reduceEq,Int.reduceNe,Int.reduceLT,Int.reduceLE,false_implies,true_implies]
      refine ⟨fun _ => tail1 z B _ _ hB (by omega) (by omega) (h2 hf (by show z < 0; omega) B hB), fun _ => ⟨fun _ => tail1 z B _ _ hB (by omega) (by omega) (h2 hf (by show z < 0; omega) B hB), fun q => absurd q (by omega)⟩⟩
    have hend : ∀ (c : Int) (B : RR) (x3 : Int), GR B → 0 ≤ hh_ B ∧ hh_ B ≤ 999 → 0 ≤ c ∧ c ≤ 1000 → E = (c, B) → J M_X_reign 87 [some (.ref 78), some (.int (zI (-9))), some (.int (zI c)), some (.int (zI x3))] [] (HX (upR rs 1 B) pi psz lt lsz tn tsz g1 g2 sd rf im hM) Q := by
      intro c B x3 hB hd hc he
      rw [he] at h3
      refine w_X_reign_87 ?_
      simp (disch := omega) only [cm_,aq_,ay_,ag_,b8_,af_,ba_,bc_,ac_,bq_,ed_,bs_,ao_,a2_,az_,av_,dw_,d6_,ea_,d3_,b5_,b1_,fh_,fu_,fp_,fz_,fq_,fk_,f0_,c5_,bt_,bd_,ct_,co_,cr_,cf_,ch_,an_,Int.toNat_natCast,eu_,e3_,e0_,gd_,gc_,et_,c9_,di_,dm_,dn_,Nat.reduceAdd,Nat.reduceMul,Int.reduceNeg,Nat.reduceLeDiff,List.length_cons,List.length_nil,true_and,and_true,Nat.zero_add,eq_self,Nat.reduceEqDiff,Int.reduceAdd,Int.reduceSub,Int.reduceMul,not_true_eq_false,not_false_eq_true,Nat.reduceLT,Int.reduceToNat,Int.reduceEq,Int.reduceNe,Int.reduceLT,Int.reduceLE,false_implies,true_implies]
      refine ⟨fun q => absurd q (by omega), fun _ => ?_⟩
      refine conX_become (i := 0) (j := 1) (by omega) (by omega) (by omega) ?_
      simp (disch := omega) only [cm_,aq_,ay_,ag_,b8_,af_,ba_,bc_,ac_,bq_,ed_,bs_,ao_,a2_,az_,av_,dw_,d6_,ea_,d3_,b5_,b1_,fh_,fu_,fp_,fz_,fq_,fk_,f0_,c5_,bt_,bd_,ct_,co_,cr_,cf_,ch_,an_,Int.toNat_natCast,eu_,e3_,e0_,gd_,gc_,et_,c9_,di_,dm_,dn_,Nat.reduceAdd,Nat.reduceMul,Int.reduceNeg,Nat.reduceLeDiff,List.length_cons,List.length_nil,true_and,and_true,Nat.zero_add,eq_self,Nat.reduceEqDiff,Int.reduceAdd,Int.reduceSub,Int.reduceMul,not_true_eq_false,not_false_eq_true,Nat.reduceLT,Int.reduceToNat,Int.reduceEq,Int.reduceNe,Int.reduceLT,Int.reduceLE,false_implies,true_implies]
      refine con_Pforget ?_
      simp (disch := omega) only [cm_,aq_,ay_,ag_,b8_,af_,ba_,bc_,ac_,bq_,ed_,bs_,ao_,a2_,az_,av_,dw_,d6_,ea_,d3_,b5_,b1_,fh_,fu_,fp_,fz_,fq_,fk_,f0_,c5_,bt_,bd_,ct_,co_,cr_,cf_,ch_,an_,Int.toNat_natCast,eu_,e3_,e0_,gd_,gc_,et_,c9_,di_,dm_,dn_,Nat.reduceAdd,Nat.reduceMul,Int.reduceNeg,Nat.reduceLeDiff,List.length_cons,List.length_nil,true_and,and_true,Nat.zero_add,eq_self,Nat.reduceEqDiff,Int.reduceAdd,Int.reduceSub,Int.reduceMul,not_true_eq_false,not_false_eq_true,Nat.reduceLT,Int.reduceToNat,Int.reduceEq,Int.reduceNe,Int.reduceLT,Int.reduceLE,false_implies,true_implies]
      refine w_X_reign_109 ?_
      simp (disch := omega) only [cm_,aq_,ay_,ag_,b8_,af_,ba_,bc_,ac_,bq_,ed_,bs_,ao_,a2_,az_,av_,dw_,d6_,ea_,d3_,b5_,b1_,fh_,fu_,fp_,fz_,fq_,fk_,f0_,c5_,bt_,bd_,ct_,co_,cr_,cf_,ch_,an_,Int.toNat_natCast,eu_,e3_,e0_,gd_,gc_,et_,c9_,di_,dm_,dn_,Nat.reduceAdd,Nat.reduceMul,Int.reduceNeg,Nat.reduceLeDiff,List.length_cons,List.length_nil,true_and,and_true,Nat.zero_add,eq_self,Nat.reduceEqDiff,Int.reduceAdd,Int.reduceSub,Int.reduceMul,not_true_eq_false,not_false_eq_true,Nat.reduceLT,Int.reduceToNat,Int.reduceEq,Int.reduceNe,Int.reduceLT,Int.reduceLE,false_implies,true_implies]
      refine con_Lforget ?_
      simp (disch := omega) only [cm_,aq_,ay_,ag_,b8_,af_,ba_,bc_,ac_,bq_,ed_,bs_,ao_,a2_,az_,av_,dw_,d6_,ea_,d3_,b5_,b1_,fh_,fu_,fp_,fz_,fq_,fk_,f0_,c5_,bt_,bd_,ct_,co_,cr_,cf_,ch_,an_,Int.toNat_natCast,eu_,e3_,e0_,gd_,gc_,et_,c9_,di_,dm_,dn_,Nat.reduceAdd,Nat.reduceMul,Int.reduceNeg,Nat.reduceLeDiff,List.length_cons,List.length_nil,true_and,and_true,Nat.zero_add,eq_self,Nat.reduceEqDiff,Int.reduceAdd,Int.reduceSub,Int.reduceMul,not_true_eq_false,not_false_eq_true,Nat.reduceLT,Int.reduceToNat,Int.reduceEq,Int.reduceNe,Int.reduceLT,Int.reduceLE,false_implies,true_implies]
      exact h3 hf hc.1 B hB hB hd.1 hd.2
    have loop : ∀ (m a : Nat) (R : RR) (c : Int), lsz < a + 3 * m → (a : Int) ≤ lsz → ffN lt lsz m a = -9 → GR R → 0 ≤ hh_ R ∧ hh_ R ≤ 999 → 0 ≤ c ∧ c ≤ a → rgN g6_ lt lsz m a R c = E → J M_X_reign 35 [some (.ref 78), some (.int (zI (-9))), some (.int (zI c)), some (.int (zI a))] [] (HX (upR rs 1 R) pi psz lt lsz tn tsz g1 g2 sd rf im hM) Q := by
      intro m
      induction m with
      | zero => intro a R c q1 q2; omega
      | succ m ih =>
        intro a R c q1 q2 hw hR hd hc he
        simp only [rgN] at he
        by_cases ca : lsz ≤ a
        · rw [if_pos ca] at he
          refine w_X_reign_35 ?_
          simp (disch := omega) only [cm_,aq_,ay_,ag_,b8_,af_,ba_,bc_,ac_,bq_,ed_,bs_,ao_,a2_,az_,av_,dw_,d6_,ea_,d3_,b5_,b1_,fh_,fu_,fp_,fz_,fq_,fk_,f0_,c5_,bt_,bd_,ct_,co_,cr_,cf_,ch_,an_,Int.toNat_natCast,eu_,e3_,e0_,gd_,gc_,et_,c9_,di_,dm_,dn_,Nat.reduceAdd,Nat.reduceMul,Int.reduceNeg,Nat.reduceLeDiff,List.length_cons,List.length_nil,true_and,and_true,Nat.zero_add,eq_self,Nat.reduceEqDiff,Int.reduceAdd,Int.reduceSub,Int.reduceMul,not_true_eq_false,not_false_eq_true,Nat.reduceLT,Int.reduceToNat,Int.reduceEq,Int.reduceNe,Int.reduceLT,Int.reduceLE,false_implies,true_implies]
          refine ⟨fun _ => hend c R _ hR hd (by omega) he.symm, fun q => absurd ca q⟩
        · rw [if_neg ca] at he
          obtain ⟨k1, k2, k3, k4, k5⟩ := ffN_wf hL (by omega) hw
          have ga := atL_rng hL a
          refine w_X_reign_35 ?_
          simp (disch := omega) only [cm_,aq_,ay_,ag_,b8_,af_,ba_,bc_,ac_,bq_,ed_,bs_,ao_,a2_,az_,av_,dw_,d6_,ea_,d3_,b5_,b1_,fh_,fu_,fp_,fz_,fq_,fk_,f0_,c5_,bt_,bd_,ct_,co_,cr_,cf_,ch_,an_,Int.toNat_natCast,eu_,e3_,e0_,gd_,gc_,et_,c9_,di_,dm_,dn_,Nat.reduceAdd,Nat.reduceMul,Int.reduceNeg,Nat.reduceLeDiff,List.length_cons,List.length_nil,true_and,and_true,Nat.zero_add,eq_self,Nat.reduceEqDiff,Int.reduceAdd,Int.reduceSub,Int.reduceMul,not_true_eq_false,not_false_eq_true,Nat.reduceLT,Int.reduceToNat,Int.reduceEq,Int.reduceNe,Int.reduceLT,Int.reduceLE,false_implies,true_implies]
          refine ⟨fun q => absurd q ca, fun _ => ⟨fun q => absurd q (by omega), fun _ => ?_⟩⟩
          refine con_Xobeys (by omega) hL k1 hR hd (fun B hB => ?_) (fun hB => ?_)
          · rw [hB] at he
            have gB := obF_ok hL k1 hR hd (fun n => ⟨hR.dsX n, daysX_day R n⟩) hB
            have hL1 : lenL lt lsz a = (dbL (atL lt lsz a)).toNat := rfl
            have hen : (a : Int) + (max 0 (dbL (atL lt lsz a)) + 2) = ((a + 1 + lenL lt lsz a + 1 : Nat) : Int) := by omega
            simp (disch := omega) only [cm_,aq_,ay_,ag_,b8_,af_,ba_,bc_,ac_,bq_,ed_,bs_,ao_,a2_,az_,av_,dw_,d6_,ea_,d3_,b5_,b1_,fh_,fu_,fp_,fz_,fq_,fk_,f0_,c5_,bt_,bd_,ct_,co_,cr_,cf_,ch_,an_,Int.toNat_natCast,eu_,e3_,e0_,gd_,gc_,et_,c9_,di_,dm_,dn_,Nat.reduceAdd,Nat.reduceMul,Int.reduceNeg,Nat.reduceLeDiff,List.length_cons,List.length_nil,true_and,and_true,Nat.zero_add,eq_self,Nat.reduceEqDiff,Int.reduceAdd,Int.reduceSub,Int.reduceMul,not_true_eq_false,not_false_eq_true,Nat.reduceLT,Int.reduceToNat,Int.reduceEq,Int.reduceNe,Int.reduceLT,Int.reduceLE,false_implies,true_implies]
            refine con_Lat (by unfold inI; omega) hL ?_
            simp (disch := omega) only [cm_,aq_,ay_,ag_,b8_,af_,ba_,bc_,ac_,bq_,ed_,bs_,ao_,a2_,az_,av_,dw_,d6_,ea_,d3_,b5_,b1_,fh_,fu_,fp_,fz_,fq_,fk_,f0_,c5_,bt_,bd_,ct_,co_,cr_,cf_,ch_,an_,Int.toNat_natCast,eu_,e3_,e0_,gd_,gc_,et_,c9_,di_,dm_,dn_,Nat.reduceAdd,Nat.reduceMul,Int.reduceNeg,Nat.reduceLeDiff,List.length_cons,List.length_nil,true_and,and_true,Nat.zero_add,eq_self,Nat.reduceEqDiff,Int.reduceAdd,Int.reduceSub,Int.reduceMul,not_true_eq_false,not_false_eq_true,Nat.reduceLT,Int.reduceToNat,Int.reduceEq,Int.reduceNe,Int.reduceLT,Int.reduceLE,false_implies,true_implies]
            refine con_LlengthOf (by unfold inI; omega) ?_
            simp (disch := omega) only [cm_,aq_,ay_,ag_,b8_,af_,ba_,bc_,ac_,bq_,ed_,bs_,ao_,a2_,az_,av_,dw_,d6_,ea_,d3_,b5_,b1_,fh_,fu_,fp_,fz_,fq_,fk_,f0_,c5_,bt_,bd_,ct_,co_,cr_,cf_,ch_,an_,Int.toNat_natCast,eu_,e3_,e0_,gd_,gc_,et_,c9_,di_,dm_,dn_,Nat.reduceAdd,Nat.reduceMul,Int.reduceNeg,Nat.reduceLeDiff,List.length_cons,List.length_nil,true_and,and_true,Nat.zero_add,eq_self,Nat.reduceEqDiff,Int.reduceAdd,Int.reduceSub,Int.reduceMul,not_true_eq_false,not_false_eq_true,Nat.reduceLT,Int.reduceToNat,Int.reduceEq,Int.reduceNe,Int.reduceLT,Int.reduceLE,false_implies,true_implies,hen]
            exact ih _ B (c + 1) (by omega) (by omega) k2 gB.1 gB.2 (by omega) he
          · rw [hB] at he
            simp (disch := omega) only [cm_,aq_,ay_,ag_,b8_,af_,ba_,bc_,ac_,bq_,ed_,bs_,ao_,a2_,az_,av_,dw_,d6_,ea_,d3_,b5_,b1_,fh_,fu_,fp_,fz_,fq_,fk_,f0_,c5_,bt_,bd_,ct_,co_,cr_,cf_,ch_,an_,Int.toNat_natCast,eu_,e3_,e0_,gd_,gc_,et_,c9_,di_,dm_,dn_,Nat.reduceAdd,Nat.reduceMul,Int.reduceNeg,Nat.reduceLeDiff,List.length_cons,List.length_nil,true_and,and_true,Nat.zero_add,eq_self,Nat.reduceEqDiff,Int.reduceAdd,Int.reduceSub,Int.reduceMul,not_true_eq_false,not_false_eq_true,Nat.reduceLT,Int.reduceToNat,Int.reduceEq,Int.reduceNe,Int.reduceLT,Int.reduceLE,false_implies,true_implies]
            refine w_X_reign_78 ?_
            simp (disch := omega) only [cm_,aq_,ay_,ag_,b8_,af_,ba_,bc_,ac_,bq_,ed_,bs_,ao_,a2_,az_,av_,dw_,d6_,ea_,d3_,b5_,b1_,fh_,fu_,fp_,fz_,fq_,fk_,f0_,c5_,bt_,bd_,ct_,co_,cr_,cf_,ch_,an_,Int.toNat_natCast,eu_,e3_,e0_,gd_,gc_,et_,c9_,di_,dm_,dn_,Nat.reduceAdd,Nat.reduceMul,Int.reduceNeg,Nat.reduceLeDiff,List.length_cons,List.length_nil,true_and,and_true,Nat.zero_add,eq_self,Nat.reduceEqDiff,Int.reduceAdd,Int.reduceSub,Int.reduceMul,not_true_eq_false,not_false_eq_true,Nat.reduceLT,Int.reduceToNat,Int.reduceEq,Int.reduceNe,Int.reduceLT,Int.reduceLE,false_implies,true_implies]
            exact hneg _ R a hR (by omega) rfl he.symm
    have hlz : lsz ≠ 0 := by
      intro q
      simp only [ffF] at hf
      rw [if_pos q] at hf
      omega
    have hf3 : ffN lt lsz 100 0 = -9 := by
      simp only [ffF] at hf
      rw [if_neg hlz] at hf
      exact hf
    exact loop 100 0 (rs 0) 0 (by omega) (by omega) hf3 (hA 0) hD (by omega) hE.symm
  · refine ⟨fun q => absurd q (by omega), fun _ => ?_⟩
    refine w_X_reign_21 ?_
    simp (disch := omega) only [cm_,aq_,ay_,ag_,b8_,af_,ba_,bc_,ac_,bq_,ed_,bs_,ao_,a2_,az_,av_,dw_,d6_,ea_,d3_,b5_,b1_,fh_,fu_,fp_,fz_,fq_,fk_,f0_,c5_,bt_,bd_,ct_,co_,cr_,cf_,ch_,an_,Int.toNat_natCast,eu_,e3_,e0_,gd_,gc_,et_,c9_,di_,dm_,dn_,Nat.reduceAdd,Nat.reduceMul,Int.reduceNeg,Nat.reduceLeDiff,List.length_cons,List.length_nil,true_and,and_true,Nat.zero_add,eq_self,Nat.reduceEqDiff,Int.reduceAdd,Int.reduceSub,Int.reduceMul,not_true_eq_false,not_false_eq_true,Nat.reduceLT,Int.reduceToNat,Int.reduceEq,Int.reduceNe,Int.reduceLT,Int.reduceLE,false_implies,true_implies]
    have b0 : HX rs pi psz lt lsz tn tsz g1 g2 sd rf im hM = HX (upR rs 1 (rs 1)) pi psz lt lsz tn tsz g1 g2 sd rf im hM := by rw [c9_]
    rw [b0]
    refine conM_become (q := 1) (by omega) ?_
    simp (disch := omega) only [cm_,aq_,ay_,ag_,b8_,af_,ba_,bc_,ac_,bq_,ed_,bs_,ao_,a2_,az_,av_,dw_,d6_,ea_,d3_,b5_,b1_,fh_,fu_,fp_,fz_,fq_,fk_,f0_,c5_,bt_,bd_,ct_,co_,cr_,cf_,ch_,an_,Int.toNat_natCast,eu_,e3_,e0_,gd_,gc_,et_,c9_,di_,dm_,dn_,Nat.reduceAdd,Nat.reduceMul,Int.reduceNeg,Nat.reduceLeDiff,List.length_cons,List.length_nil,true_and,and_true,Nat.zero_add,eq_self,Nat.reduceEqDiff,Int.reduceAdd,Int.reduceSub,Int.reduceMul,not_true_eq_false,not_false_eq_true,Nat.reduceLT,Int.reduceToNat,Int.reduceEq,Int.reduceNe,Int.reduceLT,Int.reduceLE,false_implies,true_implies]
    refine w_X_reign_35 ?_
    simp (disch := omega) only [cm_,aq_,ay_,ag_,b8_,af_,ba_,bc_,ac_,bq_,ed_,bs_,ao_,a2_,az_,av_,dw_,d6_,ea_,d3_,b5_,b1_,fh_,fu_,fp_,fz_,fq_,fk_,f0_,c5_,bt_,bd_,ct_,co_,cr_,cf_,ch_,an_,Int.toNat_natCast,eu_,e3_,e0_,gd_,gc_,et_,c9_,di_,dm_,dn_,Nat.reduceAdd,Nat.reduceMul,Int.reduceNeg,Nat.reduceLeDiff,List.length_cons,List.length_nil,true_and,and_true,Nat.zero_add,eq_self,Nat.reduceEqDiff,Int.reduceAdd,Int.reduceSub,Int.reduceMul,not_true_eq_false,not_false_eq_true,Nat.reduceLT,Int.reduceToNat,Int.reduceEq,Int.reduceNe,Int.reduceLT,Int.reduceLE,false_implies,true_implies]
    have hq := h1 hf (rs 0) (hA 0)
    refine ⟨fun _ => tail1 _ (rs 0) _ 0 (hA 0) (by omega) (by omega) hq, fun _ => ⟨fun _ => tail1 _ (rs 0) _ 0 (hA 0) (by omega) (by omega) hq, fun q => absurd q (by omega)⟩⟩
end C13
end
