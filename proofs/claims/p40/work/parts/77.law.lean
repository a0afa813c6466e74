section LAWC
variable {p : Program} {l : Launch} {e : Env} {s : State} {m : MethodId} {below : List Frame} {meth : Method} {c : Code} {b L : Nat} {xs : Nat → Int32} {G : va_G} {cI cR : ClassId} {σ : Nat → Nat} {F : LF p l e s m below meth c b L xs G cI cR} {n : Nat} {h : AH}
theorem lc_0 (hn : n + 5 ≤ L) (S : PS (n = 0) h) (ih : ∀ h', PS False h' → LJ F σ n 1181 [] h') : LJ F σ n 204 [] h := by
  have hL := F.2.2.2.1
  obtain ⟨fx, hx⟩ := S.c78
  have D : okL code 204 [(.aload_n 1, 1), (.aload_n 0, 1), (.iload_n 3, 1), (.iconst 1, 1), (.iadd, 1), (.iaload, 1), (.invokevirtual 13, 3), (.pop, 1), (.aload_n 2, 1), (.aload_n 0, 1), (.iload_n 3, 1), (.iconst 1, 1), (.iadd, 1), (.iaload, 1), (.invokevirtual 17, 3), (.pop, 1), (.goto 957, 3)] := okL_of (t := code.data.toList.drop 204) rfl (by decide +kernel)
  obtain ⟨d0, d1, d2, d3, d4, d5, d6, d7, d8, d9, d10, d11, d12, d13, d14, d15, d16, -⟩ := D
  refine lj_x d0 ?_
  refine lj_arg 1 (by omega) d1 d2 d3 d4 d5 ?_
  refine lj_call (Y := M_X_feed) (idx := 13) (r := 78) (bs := [.int (zI (xs (n + 1)).toInt)]) (rest := []) ok_X_feed rfl (g9_ (i := 177) rfl rfl) (g9_ (i := 178) rfl rfl) (g9_ (i := 179) rfl rfl) (Nat.le_of_ble_eq_true rfl) hx (Nat.le_of_ble_eq_true rfl) (pr_feed (inI_x _) S) d6 (fun v h1 P1 => ?_)
  obtain ⟨z, rfl, ⟨fm, hm⟩, C2⟩ := P1
  refine lj_st (st' := [.int z]) rfl ?_
  refine lj_pop d7 ?_
  refine lj_m d8 ?_
  refine lj_arg 1 (by omega) d9 d10 d11 d12 d13 ?_
  refine lj_call (Y := M_M_feed) (idx := 17) (r := 90) (bs := [.int (zI (xs (n + 1)).toInt)]) (rest := []) ok_M_feed rfl (hg_ (i := 100) rfl rfl) (hg_ (i := 101) rfl rfl) (hg_ (i := 102) rfl rfl) (Nat.le_of_ble_eq_true rfl) hm (Nat.le_of_ble_eq_true rfl) C2 d14 (fun v' h2 P2 => ?_)
  obtain ⟨z', rfl, hz, S2⟩ := P2
  refine lj_st (st' := .int z' :: []) rfl ?_
  refine lj_pop d15 ?_
  refine lj_go (off := 957) (tgt := 1181) d16 rfl ?_
  exact ih _ S2
theorem lc_1 (hn : n + 5 ≤ L) (S : PS (n = 0) h) (ih : ∀ h', PS False h' → LJ F σ n 1181 [] h') : LJ F σ n 227 [] h := by
  have hL := F.2.2.2.1
  obtain ⟨fx, hx⟩ := S.c78
  have D : okL code 227 [(.aload_n 1, 1), (.invokevirtual 18, 3), (.pop, 1), (.aload_n 2, 1), (.invokevirtual 22, 3), (.pop, 1), (.goto 944, 3)] := okL_of (t := code.data.toList.drop 227) rfl (by decide +kernel)
  obtain ⟨d0, d1, d2, d3, d4, d5, d6, -⟩ := D
  refine lj_x d0 ?_
  refine lj_call (Y := M_X_reign) (idx := 18) (r := 78) (bs := []) (rest := []) ok_X_reign rfl (g9_ (i := 193) rfl rfl) (g9_ (i := 194) rfl rfl) (g9_ (i := 195) rfl rfl) (Nat.le_of_ble_eq_true rfl) hx (Nat.le_of_ble_eq_true rfl) (pr_reign  S) d1 (fun v h1 P1 => ?_)
  obtain ⟨z, rfl, ⟨fm, hm⟩, C2⟩ := P1
  refine lj_st (st' := [.int z]) rfl ?_
  refine lj_pop d2 ?_
  refine lj_m d3 ?_
  refine lj_call (Y := M_M_reign) (idx := 22) (r := 90) (bs := []) (rest := []) ok_M_reign rfl (hg_ (i := 108) rfl rfl) (hg_ (i := 109) rfl rfl) (hg_ (i := 110) rfl rfl) (Nat.le_of_ble_eq_true rfl) hm (Nat.le_of_ble_eq_true rfl) C2 d4 (fun v' h2 P2 => ?_)
  obtain ⟨z', rfl, hz, S2⟩ := P2
  refine lj_st (st' := .int z' :: []) rfl ?_
  refine lj_pop d5 ?_
  refine lj_go (off := 944) (tgt := 1181) d6 rfl ?_
  exact ih _ S2
theorem lc_2 (hn : n + 5 ≤ L) (S : PS (n = 0) h) (ih : ∀ h', PS False h' → LJ F σ n 1181 [] h') : LJ F σ n 240 [] h := by
  have hL := F.2.2.2.1
  obtain ⟨fx, hx⟩ := S.c78
  have D : okL code 240 [(.aload_n 1, 1), (.aload_n 0, 1), (.iload_n 3, 1), (.iconst 1, 1), (.iadd, 1), (.iaload, 1), (.aload_n 0, 1), (.iload_n 3, 1), (.iconst 2, 1), (.iadd, 1), (.iaload, 1), (.invokevirtual 23, 3), (.pop, 1), (.aload_n 2, 1), (.aload_n 0, 1), (.iload_n 3, 1), (.iconst 1, 1), (.iadd, 1), (.iaload, 1), (.aload_n 0, 1), (.iload_n 3, 1), (.iconst 2, 1), (.iadd, 1), (.iaload, 1), (.invokevirtual 27, 3), (.pop, 1), (.goto 911, 3)] := okL_of (t := code.data.toList.drop 240) rfl (by decide +kernel)
  obtain ⟨d0, d1, d2, d3, d4, d5, d6, d7, d8, d9, d10, d11, d12, d13, d14, d15, d16, d17, d18, d19, d20, d21, d22, d23, d24, d25, d26, -⟩ := D
  refine lj_x d0 ?_
  refine lj_arg 1 (by omega) d1 d2 d3 d4 d5 ?_
  refine lj_arg 2 (by omega) d6 d7 d8 d9 d10 ?_
  refine lj_call (Y := M_X_manOf) (idx := 23) (r := 78) (bs := [.int (zI (xs (n + 1)).toInt), .int (zI (xs (n + 2)).toInt)]) (rest := []) ok_X_manOf rfl (ha_ (i := 89) rfl rfl) (ha_ (i := 90) rfl rfl) (ha_ (i := 91) rfl rfl) (Nat.le_of_ble_eq_true rfl) hx (Nat.le_of_ble_eq_true rfl) (pr_manOf (inI_x _) (inI_x _) S) d11 (fun v h1 P1 => ?_)
  obtain ⟨z, rfl, ⟨fm, hm⟩, C2⟩ := P1
  refine lj_st (st' := [.int z]) rfl ?_
  refine lj_pop d12 ?_
  refine lj_m d13 ?_
  refine lj_arg 1 (by omega) d14 d15 d16 d17 d18 ?_
  refine lj_arg 2 (by omega) d19 d20 d21 d22 d23 ?_
  refine lj_call (Y := M_M_manOf) (idx := 27) (r := 90) (bs := [.int (zI (xs (n + 1)).toInt), .int (zI (xs (n + 2)).toInt)]) (rest := []) ok_M_manOf rfl (hg_ (i := 231) rfl rfl) (hg_ (i := 232) rfl rfl) (hg_ (i := 233) rfl rfl) (Nat.le_of_ble_eq_true rfl) hm (Nat.le_of_ble_eq_true rfl) C2 d24 (fun v' h2 P2 => ?_)
  obtain ⟨z', rfl, hz, S2⟩ := P2
  refine lj_st (st' := .int z' :: []) rfl ?_
  refine lj_pop d25 ?_
  refine lj_go (off := 911) (tgt := 1181) d26 rfl ?_
  exact ih _ S2
theorem lc_3 (hn : n + 5 ≤ L) (S : PS (n = 0) h) (ih : ∀ h', PS False h' → LJ F σ n 1181 [] h') : LJ F σ n 273 [] h := by
  have hL := F.2.2.2.1
  obtain ⟨fx, hx⟩ := S.c78
  have D : okL code 273 [(.aload_n 1, 1), (.aload_n 0, 1), (.iload_n 3, 1), (.iconst 1, 1), (.iadd, 1), (.iaload, 1), (.invokevirtual 28, 3), (.pop, 1), (.aload_n 2, 1), (.aload_n 0, 1), (.iload_n 3, 1), (.iconst 1, 1), (.iadd, 1), (.iaload, 1), (.invokevirtual 31, 3), (.pop, 1), (.goto 888, 3)] := okL_of (t := code.data.toList.drop 273) rfl (by decide +kernel)
  obtain ⟨d0, d1, d2, d3, d4, d5, d6, d7, d8, d9, d10, d11, d12, d13, d14, d15, d16, -⟩ := D
  refine lj_x d0 ?_
  refine lj_arg 1 (by omega) d1 d2 d3 d4 d5 ?_
  refine lj_call (Y := M_X_slope) (idx := 28) (r := 78) (bs := [.int (zI (xs (n + 1)).toInt)]) (rest := []) ok_X_slope rfl (ha_ (i := 112) rfl rfl) (ha_ (i := 113) rfl rfl) (ha_ (i := 114) rfl rfl) (Nat.le_of_ble_eq_true rfl) hx (Nat.le_of_ble_eq_true rfl) (pr_slope (inI_x _) S) d6 (fun v h1 P1 => ?_)
  obtain ⟨z, rfl, ⟨fm, hm⟩, C2⟩ := P1
  refine lj_st (st' := [.int z]) rfl ?_
  refine lj_pop d7 ?_
  refine lj_m d8 ?_
  refine lj_arg 1 (by omega) d9 d10 d11 d12 d13 ?_
  refine lj_call (Y := M_M_slope) (idx := 31) (r := 90) (bs := [.int (zI (xs (n + 1)).toInt)]) (rest := []) ok_M_slope rfl (hg_ (i := 236) rfl rfl) (hg_ (i := 237) rfl rfl) (hg_ (i := 238) rfl rfl) (Nat.le_of_ble_eq_true rfl) hm (Nat.le_of_ble_eq_true rfl) C2 d14 (fun v' h2 P2 => ?_)
  obtain ⟨z', rfl, hz, S2⟩ := P2
  refine lj_st (st' := .int z' :: []) rfl ?_
  refine lj_pop d15 ?_
  refine lj_go (off := 888) (tgt := 1181) d16 rfl ?_
  exact ih _ S2
theorem lc_4 (hn : n + 5 ≤ L) (S : PS (n = 0) h) (ih : ∀ h', PS False h' → LJ F σ n 1181 [] h') : LJ F σ n 296 [] h := by
  have hL := F.2.2.2.1
  obtain ⟨fx, hx⟩ := S.c78
  have D : okL code 296 [(.aload_n 1, 1), (.aload_n 0, 1), (.iload_n 3, 1), (.iconst 1, 1), (.iadd, 1), (.iaload, 1), (.aload_n 0, 1), (.iload_n 3, 1), (.iconst 2, 1), (.iadd, 1), (.iaload, 1), (.invokevirtual 32, 3), (.pop, 1), (.aload_n 2, 1), (.aload_n 0, 1), (.iload_n 3, 1), (.iconst 1, 1), (.iadd, 1), (.iaload, 1), (.aload_n 0, 1), (.iload_n 3, 1), (.iconst 2, 1), (.iadd, 1), (.iaload, 1), (.invokevirtual 35, 3), (.pop, 1), (.goto 855, 3)] := okL_of (t := code.data.toList.drop 296) rfl (by decide +kernel)
  obtain ⟨d0, d1, d2, d3, d4, d5, d6, d7, d8, d9, d10, d11, d12, d13, d14, d15, d16, d17, d18, d19, d20, d21, d22, d23, d24, d25, d26, -⟩ := D
  refine lj_x d0 ?_
  refine lj_arg 1 (by omega) d1 d2 d3 d4 d5 ?_
  refine lj_arg 2 (by omega) d6 d7 d8 d9 d10 ?_
  refine lj_call (Y := M_X_man) (idx := 32) (r := 78) (bs := [.int (zI (xs (n + 1)).toInt), .int (zI (xs (n + 2)).toInt)]) (rest := []) ok_X_man rfl (ha_ (i := 118) rfl rfl) (ha_ (i := 119) rfl rfl) (ha_ (i := 120) rfl rfl) (Nat.le_of_ble_eq_true rfl) hx (Nat.le_of_ble_eq_true rfl) (pr_man (inI_x _) (inI_x _) S) d11 (fun v h1 P1 => ?_)
  obtain ⟨z, rfl, ⟨fm, hm⟩, C2⟩ := P1
  refine lj_st (st' := [.int z]) rfl ?_
  refine lj_pop d12 ?_
  refine lj_m d13 ?_
  refine lj_arg 1 (by omega) d14 d15 d16 d17 d18 ?_
  refine lj_arg 2 (by omega) d19 d20 d21 d22 d23 ?_
  refine lj_call (Y := M_M_man) (idx := 35) (r := 90) (bs := [.int (zI (xs (n + 1)).toInt), .int (zI (xs (n + 2)).toInt)]) (rest := []) ok_M_man rfl (hf_ (i := 1) rfl rfl) (hf_ (i := 2) rfl rfl) (hf_ (i := 3) rfl rfl) (Nat.le_of_ble_eq_true rfl) hm (Nat.le_of_ble_eq_true rfl) C2 d24 (fun v' h2 P2 => ?_)
  obtain ⟨z', rfl, hz, S2⟩ := P2
  refine lj_st (st' := .int z' :: []) rfl ?_
  refine lj_pop d25 ?_
  refine lj_go (off := 855) (tgt := 1181) d26 rfl ?_
  exact ih _ S2
theorem lc_5 (hn : n + 5 ≤ L) (S : PS (n = 0) h) (ih : ∀ h', PS False h' → LJ F σ n 1181 [] h') : LJ F σ n 329 [] h := by
  have hL := F.2.2.2.1
  obtain ⟨fx, hx⟩ := S.c78
  have D : okL code 329 [(.aload_n 1, 1), (.aload_n 0, 1), (.iload_n 3, 1), (.iconst 1, 1), (.iadd, 1), (.iaload, 1), (.invokevirtual 36, 3), (.pop, 1), (.aload_n 2, 1), (.aload_n 0, 1), (.iload_n 3, 1), (.iconst 1, 1), (.iadd, 1), (.iaload, 1), (.invokevirtual 39, 3), (.pop, 1), (.goto 832, 3)] := okL_of (t := code.data.toList.drop 329) rfl (by decide +kernel)
  obtain ⟨d0, d1, d2, d3, d4, d5, d6, d7, d8, d9, d10, d11, d12, d13, d14, d15, d16, -⟩ := D
  refine lj_x d0 ?_
  refine lj_arg 1 (by omega) d1 d2 d3 d4 d5 ?_
  refine lj_call (Y := M_X_pardons) (idx := 36) (r := 78) (bs := [.int (zI (xs (n + 1)).toInt)]) (rest := []) ok_X_pardons rfl (ha_ (i := 123) rfl rfl) (ha_ (i := 124) rfl rfl) (ha_ (i := 125) rfl rfl) (Nat.le_of_ble_eq_true rfl) hx (Nat.le_of_ble_eq_true rfl) (pr_pardons (inI_x _) S) d6 (fun v h1 P1 => ?_)
  obtain ⟨z, rfl, ⟨fm, hm⟩, C2⟩ := P1
  refine lj_st (st' := [.int z]) rfl ?_
  refine lj_pop d7 ?_
  refine lj_m d8 ?_
  refine lj_arg 1 (by omega) d9 d10 d11 d12 d13 ?_
  refine lj_call (Y := M_M_pardons) (idx := 39) (r := 90) (bs := [.int (zI (xs (n + 1)).toInt)]) (rest := []) ok_M_pardons rfl (hf_ (i := 8) rfl rfl) (hf_ (i := 9) rfl rfl) (hf_ (i := 10) rfl rfl) (Nat.le_of_ble_eq_true rfl) hm (Nat.le_of_ble_eq_true rfl) C2 d14 (fun v' h2 P2 => ?_)
  obtain ⟨z', rfl, hz, S2⟩ := P2
  refine lj_st (st' := .int z' :: []) rfl ?_
  refine lj_pop d15 ?_
  refine lj_go (off := 832) (tgt := 1181) d16 rfl ?_
  exact ih _ S2
theorem lc_6 (hn : n + 5 ≤ L) (S : PS (n = 0) h) (ih : ∀ h', PS False h' → LJ F σ n 1181 [] h') : LJ F σ n 352 [] h := by
  have hL := F.2.2.2.1
  obtain ⟨fx, hx⟩ := S.c78
  have D : okL code 352 [(.aload_n 1, 1), (.aload_n 0, 1), (.iload_n 3, 1), (.iconst 1, 1), (.iadd, 1), (.iaload, 1), (.aload_n 0, 1), (.iload_n 3, 1), (.iconst 2, 1), (.iadd, 1), (.iaload, 1), (.invokevirtual 40, 3), (.pop, 1), (.aload_n 2, 1), (.aload_n 0, 1), (.iload_n 3, 1), (.iconst 1, 1), (.iadd, 1), (.iaload, 1), (.aload_n 0, 1), (.iload_n 3, 1), (.iconst 2, 1), (.iadd, 1), (.iaload, 1), (.invokevirtual 43, 3), (.pop, 1), (.goto 799, 3)] := okL_of (t := code.data.toList.drop 352) rfl (by decide +kernel)
  obtain ⟨d0, d1, d2, d3, d4, d5, d6, d7, d8, d9, d10, d11, d12, d13, d14, d15, d16, d17, d18, d19, d20, d21, d22, d23, d24, d25, d26, -⟩ := D
  refine lj_x d0 ?_
  refine lj_arg 1 (by omega) d1 d2 d3 d4 d5 ?_
  refine lj_arg 2 (by omega) d6 d7 d8 d9 d10 ?_
  refine lj_call (Y := M_X_slopes) (idx := 40) (r := 78) (bs := [.int (zI (xs (n + 1)).toInt), .int (zI (xs (n + 2)).toInt)]) (rest := []) ok_X_slopes rfl (ha_ (i := 136) rfl rfl) (ha_ (i := 137) rfl rfl) (ha_ (i := 138) rfl rfl) (Nat.le_of_ble_eq_true rfl) hx (Nat.le_of_ble_eq_true rfl) (pr_slopes (inI_x _) (inI_x _) S) d11 (fun v h1 P1 => ?_)
  obtain ⟨z, rfl, ⟨fm, hm⟩, C2⟩ := P1
  refine lj_st (st' := [.int z]) rfl ?_
  refine lj_pop d12 ?_
  refine lj_m d13 ?_
  refine lj_arg 1 (by omega) d14 d15 d16 d17 d18 ?_
  refine lj_arg 2 (by omega) d19 d20 d21 d22 d23 ?_
  refine lj_call (Y := M_M_slopes) (idx := 43) (r := 90) (bs := [.int (zI (xs (n + 1)).toInt), .int (zI (xs (n + 2)).toInt)]) (rest := []) ok_M_slopes rfl (hf_ (i := 16) rfl rfl) (hf_ (i := 17) rfl rfl) (hf_ (i := 18) rfl rfl) (Nat.le_of_ble_eq_true rfl) hm (Nat.le_of_ble_eq_true rfl) C2 d24 (fun v' h2 P2 => ?_)
  obtain ⟨z', rfl, hz, S2⟩ := P2
  refine lj_st (st' := .int z' :: []) rfl ?_
  refine lj_pop d25 ?_
  refine lj_go (off := 799) (tgt := 1181) d26 rfl ?_
  exact ih _ S2
theorem lc_7 (hn : n + 5 ≤ L) (S : PS (n = 0) h) (ih : ∀ h', PS False h' → LJ F σ n 1181 [] h') : LJ F σ n 385 [] h := by
  have hL := F.2.2.2.1
  obtain ⟨fx, hx⟩ := S.c78
  have D : okL code 385 [(.aload_n 1, 1), (.aload_n 0, 1), (.iload_n 3, 1), (.iconst 1, 1), (.iadd, 1), (.iaload, 1), (.invokevirtual 44, 3), (.pop, 1), (.aload_n 2, 1), (.aload_n 0, 1), (.iload_n 3, 1), (.iconst 1, 1), (.iadd, 1), (.iaload, 1), (.invokevirtual 47, 3), (.pop, 1), (.goto 776, 3)] := okL_of (t := code.data.toList.drop 385) rfl (by decide +kernel)
  obtain ⟨d0, d1, d2, d3, d4, d5, d6, d7, d8, d9, d10, d11, d12, d13, d14, d15, d16, -⟩ := D
  refine lj_x d0 ?_
  refine lj_arg 1 (by omega) d1 d2 d3 d4 d5 ?_
  refine lj_call (Y := M_X_loads) (idx := 44) (r := 78) (bs := [.int (zI (xs (n + 1)).toInt)]) (rest := []) ok_X_loads rfl (ha_ (i := 140) rfl rfl) (ha_ (i := 141) rfl rfl) (ha_ (i := 142) rfl rfl) (Nat.le_of_ble_eq_true rfl) hx (Nat.le_of_ble_eq_true rfl) (pr_loads (inI_x _) S) d6 (fun v h1 P1 => ?_)
  obtain ⟨z, rfl, ⟨fm, hm⟩, C2⟩ := P1
  refine lj_st (st' := [.int z]) rfl ?_
  refine lj_pop d7 ?_
  refine lj_m d8 ?_
  refine lj_arg 1 (by omega) d9 d10 d11 d12 d13 ?_
  refine lj_call (Y := M_M_loads) (idx := 47) (r := 90) (bs := [.int (zI (xs (n + 1)).toInt)]) (rest := []) ok_M_loads rfl (hf_ (i := 20) rfl rfl) (hf_ (i := 21) rfl rfl) (hf_ (i := 22) rfl rfl) (Nat.le_of_ble_eq_true rfl) hm (Nat.le_of_ble_eq_true rfl) C2 d14 (fun v' h2 P2 => ?_)
  obtain ⟨z', rfl, hz, S2⟩ := P2
  refine lj_st (st' := .int z' :: []) rfl ?_
  refine lj_pop d15 ?_
  refine lj_go (off := 776) (tgt := 1181) d16 rfl ?_
  exact ih _ S2
theorem lc_8 (hn : n + 5 ≤ L) (S : PS (n = 0) h) (ih : ∀ h', PS False h' → LJ F σ n 1181 [] h') : LJ F σ n 408 [] h := by
  have hL := F.2.2.2.1
  obtain ⟨fx, hx⟩ := S.c78
  have D : okL code 408 [(.aload_n 1, 1), (.aload_n 0, 1), (.iload_n 3, 1), (.iconst 1, 1), (.iadd, 1), (.iaload, 1), (.invokevirtual 48, 3), (.pop, 1), (.aload_n 2, 1), (.aload_n 0, 1), (.iload_n 3, 1), (.iconst 1, 1), (.iadd, 1), (.iaload, 1), (.invokevirtual 51, 3), (.pop, 1), (.goto 753, 3)] := okL_of (t := code.data.toList.drop 408) rfl (by decide +kernel)
  obtain ⟨d0, d1, d2, d3, d4, d5, d6, d7, d8, d9, d10, d11, d12, d13, d14, d15, d16, -⟩ := D
  refine lj_x d0 ?_
  refine lj_arg 1 (by omega) d1 d2 d3 d4 d5 ?_
  refine lj_call (Y := M_X_snows) (idx := 48) (r := 78) (bs := [.int (zI (xs (n + 1)).toInt)]) (rest := []) ok_X_snows rfl (ha_ (i := 144) rfl rfl) (ha_ (i := 145) rfl rfl) (ha_ (i := 146) rfl rfl) (Nat.le_of_ble_eq_true rfl) hx (Nat.le_of_ble_eq_true rfl) (pr_snows (inI_x _) S) d6 (fun v h1 P1 => ?_)
  obtain ⟨z, rfl, ⟨fm, hm⟩, C2⟩ := P1
  refine lj_st (st' := [.int z]) rfl ?_
  refine lj_pop d7 ?_
  refine lj_m d8 ?_
  refine lj_arg 1 (by omega) d9 d10 d11 d12 d13 ?_
  refine lj_call (Y := M_M_snows) (idx := 51) (r := 90) (bs := [.int (zI (xs (n + 1)).toInt)]) (rest := []) ok_M_snows rfl (hf_ (i := 24) rfl rfl) (hf_ (i := 25) rfl rfl) (hf_ (i := 26) rfl rfl) (Nat.le_of_ble_eq_true rfl) hm (Nat.le_of_ble_eq_true rfl) C2 d14 (fun v' h2 P2 => ?_)
  obtain ⟨z', rfl, hz, S2⟩ := P2
  refine lj_st (st' := .int z' :: []) rfl ?_
  refine lj_pop d15 ?_
  refine lj_go (off := 753) (tgt := 1181) d16 rfl ?_
  exact ih _ S2
theorem lc_9 (hn : n + 5 ≤ L) (S : PS (n = 0) h) (ih : ∀ h', PS False h' → LJ F σ n 1181 [] h') : LJ F σ n 431 [] h := by
  have hL := F.2.2.2.1
  obtain ⟨fx, hx⟩ := S.c78
  have D : okL code 431 [(.aload_n 1, 1), (.aload_n 0, 1), (.iload_n 3, 1), (.iconst 1, 1), (.iadd, 1), (.iaload, 1), (.invokevirtual 52, 3), (.pop, 1), (.aload_n 2, 1), (.aload_n 0, 1), (.iload_n 3, 1), (.iconst 1, 1), (.iadd, 1), (.iaload, 1), (.invokevirtual 55, 3), (.pop, 1), (.goto 730, 3)] := okL_of (t := code.data.toList.drop 431) rfl (by decide +kernel)
  obtain ⟨d0, d1, d2, d3, d4, d5, d6, d7, d8, d9, d10, d11, d12, d13, d14, d15, d16, -⟩ := D
  refine lj_x d0 ?_
  refine lj_arg 1 (by omega) d1 d2 d3 d4 d5 ?_
  refine lj_call (Y := M_X_days) (idx := 52) (r := 78) (bs := [.int (zI (xs (n + 1)).toInt)]) (rest := []) ok_X_days rfl (ha_ (i := 148) rfl rfl) (ha_ (i := 149) rfl rfl) (ha_ (i := 150) rfl rfl) (Nat.le_of_ble_eq_true rfl) hx (Nat.le_of_ble_eq_true rfl) (pr_days (inI_x _) S) d6 (fun v h1 P1 => ?_)
  obtain ⟨z, rfl, ⟨fm, hm⟩, C2⟩ := P1
  refine lj_st (st' := [.int z]) rfl ?_
  refine lj_pop d7 ?_
  refine lj_m d8 ?_
  refine lj_arg 1 (by omega) d9 d10 d11 d12 d13 ?_
  refine lj_call (Y := M_M_days) (idx := 55) (r := 90) (bs := [.int (zI (xs (n + 1)).toInt)]) (rest := []) ok_M_days rfl (hf_ (i := 28) rfl rfl) (hf_ (i := 29) rfl rfl) (hf_ (i := 30) rfl rfl) (Nat.le_of_ble_eq_true rfl) hm (Nat.le_of_ble_eq_true rfl) C2 d14 (fun v' h2 P2 => ?_)
  obtain ⟨z', rfl, hz, S2⟩ := P2
  refine lj_st (st' := .int z' :: []) rfl ?_
  refine lj_pop d15 ?_
  refine lj_go (off := 730) (tgt := 1181) d16 rfl ?_
  exact ih _ S2
theorem lc_10 (hn : n + 5 ≤ L) (S : PS (n = 0) h) (ih : ∀ h', PS False h' → LJ F σ n 1181 [] h') : LJ F σ n 454 [] h := by
  have hL := F.2.2.2.1
  obtain ⟨fx, hx⟩ := S.c78
  have D : okL code 454 [(.aload_n 1, 1), (.invokevirtual 56, 3), (.pop, 1), (.aload_n 2, 1), (.invokevirtual 59, 3), (.pop, 1), (.goto 717, 3)] := okL_of (t := code.data.toList.drop 454) rfl (by decide +kernel)
  obtain ⟨d0, d1, d2, d3, d4, d5, d6, -⟩ := D
  refine lj_x d0 ?_
  refine lj_call (Y := M_X_back) (idx := 56) (r := 78) (bs := []) (rest := []) ok_X_back rfl (ha_ (i := 152) rfl rfl) (ha_ (i := 153) rfl rfl) (ha_ (i := 154) rfl rfl) (Nat.le_of_ble_eq_true rfl) hx (Nat.le_of_ble_eq_true rfl) (pr_back  S) d1 (fun v h1 P1 => ?_)
  obtain ⟨z, rfl, ⟨fm, hm⟩, C2⟩ := P1
  refine lj_st (st' := [.int z]) rfl ?_
  refine lj_pop d2 ?_
  refine lj_m d3 ?_
  refine lj_call (Y := M_M_back) (idx := 59) (r := 90) (bs := []) (rest := []) ok_M_back rfl (hg_ (i := 227) rfl rfl) (hg_ (i := 228) rfl rfl) (hg_ (i := 229) rfl rfl) (Nat.le_of_ble_eq_true rfl) hm (Nat.le_of_ble_eq_true rfl) C2 d4 (fun v' h2 P2 => ?_)
  obtain ⟨z', rfl, hz, S2⟩ := P2
  refine lj_st (st' := .int z' :: []) rfl ?_
  refine lj_pop d5 ?_
  refine lj_go (off := 717) (tgt := 1181) d6 rfl ?_
  exact ih _ S2
theorem lc_11 (hn : n + 5 ≤ L) (S : PS (n = 0) h) (ih : ∀ h', PS False h' → LJ F σ n 1181 [] h') : LJ F σ n 467 [] h := by
  have hL := F.2.2.2.1
  obtain ⟨fx, hx⟩ := S.c78
  have D : okL code 467 [(.aload_n 1, 1), (.aload_n 0, 1), (.iload_n 3, 1), (.iconst 1, 1), (.iadd, 1), (.iaload, 1), (.aload_n 0, 1), (.iload_n 3, 1), (.iconst 2, 1), (.iadd, 1), (.iaload, 1), (.invokevirtual 60, 3), (.pop, 1), (.aload_n 2, 1), (.aload_n 0, 1), (.iload_n 3, 1), (.iconst 1, 1), (.iadd, 1), (.iaload, 1), (.aload_n 0, 1), (.iload_n 3, 1), (.iconst 2, 1), (.iadd, 1), (.iaload, 1), (.invokevirtual 63, 3), (.pop, 1), (.goto 684, 3)] := okL_of (t := code.data.toList.drop 467) rfl (by decide +kernel)
  obtain ⟨d0, d1, d2, d3, d4, d5, d6, d7, d8, d9, d10, d11, d12, d13, d14, d15, d16, d17, d18, d19, d20, d21, d22, d23, d24, d25, d26, -⟩ := D
  refine lj_x d0 ?_
  refine lj_arg 1 (by omega) d1 d2 d3 d4 d5 ?_
  refine lj_arg 2 (by omega) d6 d7 d8 d9 d10 ?_
  refine lj_call (Y := M_X_then) (idx := 60) (r := 78) (bs := [.int (zI (xs (n + 1)).toInt), .int (zI (xs (n + 2)).toInt)]) (rest := []) ok_X_then rfl (ha_ (i := 160) rfl rfl) (ha_ (i := 161) rfl rfl) (ha_ (i := 162) rfl rfl) (Nat.le_of_ble_eq_true rfl) hx (Nat.le_of_ble_eq_true rfl) (pr_then (inI_x _) (inI_x _) S) d11 (fun v h1 P1 => ?_)
  obtain ⟨z, rfl, ⟨fm, hm⟩, C2⟩ := P1
  refine lj_st (st' := [.int z]) rfl ?_
  refine lj_pop d12 ?_
  refine lj_m d13 ?_
  refine lj_arg 1 (by omega) d14 d15 d16 d17 d18 ?_
  refine lj_arg 2 (by omega) d19 d20 d21 d22 d23 ?_
  refine lj_call (Y := M_M_then) (idx := 63) (r := 90) (bs := [.int (zI (xs (n + 1)).toInt), .int (zI (xs (n + 2)).toInt)]) (rest := []) ok_M_then rfl (hf_ (i := 32) rfl rfl) (hf_ (i := 33) rfl rfl) (hf_ (i := 34) rfl rfl) (Nat.le_of_ble_eq_true rfl) hm (Nat.le_of_ble_eq_true rfl) C2 d24 (fun v' h2 P2 => ?_)
  obtain ⟨z', rfl, hz, S2⟩ := P2
  refine lj_st (st' := .int z' :: []) rfl ?_
  refine lj_pop d25 ?_
  refine lj_go (off := 684) (tgt := 1181) d26 rfl ?_
  exact ih _ S2
theorem lc_12 (hn : n + 5 ≤ L) (S : PS (n = 0) h) (ih : ∀ h', PS False h' → LJ F σ n 1181 [] h') : LJ F σ n 500 [] h := by
  have hL := F.2.2.2.1
  obtain ⟨fx, hx⟩ := S.c78
  have D : okL code 500 [(.aload_n 1, 1), (.aload_n 0, 1), (.iload_n 3, 1), (.iconst 1, 1), (.iadd, 1), (.iaload, 1), (.aload_n 0, 1), (.iload_n 3, 1), (.iconst 2, 1), (.iadd, 1), (.iaload, 1), (.invokevirtual 64, 3), (.pop, 1), (.aload_n 2, 1), (.aload_n 0, 1), (.iload_n 3, 1), (.iconst 1, 1), (.iadd, 1), (.iaload, 1), (.aload_n 0, 1), (.iload_n 3, 1), (.iconst 2, 1), (.iadd, 1), (.iaload, 1), (.invokevirtual 67, 3), (.pop, 1), (.goto 651, 3)] := okL_of (t := code.data.toList.drop 500) rfl (by decide +kernel)
  obtain ⟨d0, d1, d2, d3, d4, d5, d6, d7, d8, d9, d10, d11, d12, d13, d14, d15, d16, d17, d18, d19, d20, d21, d22, d23, d24, d25, d26, -⟩ := D
  refine lj_x d0 ?_
  refine lj_arg 1 (by omega) d1 d2 d3 d4 d5 ?_
  refine lj_arg 2 (by omega) d6 d7 d8 d9 d10 ?_
  refine lj_call (Y := M_X_wornIn) (idx := 64) (r := 78) (bs := [.int (zI (xs (n + 1)).toInt), .int (zI (xs (n + 2)).toInt)]) (rest := []) ok_X_wornIn rfl (ha_ (i := 168) rfl rfl) (ha_ (i := 169) rfl rfl) (ha_ (i := 170) rfl rfl) (Nat.le_of_ble_eq_true rfl) hx (Nat.le_of_ble_eq_true rfl) (pr_wornIn (inI_x _) (inI_x _) S) d11 (fun v h1 P1 => ?_)
  obtain ⟨z, rfl, ⟨fm, hm⟩, C2⟩ := P1
  refine lj_st (st' := [.int z]) rfl ?_
  refine lj_pop d12 ?_
  refine lj_m d13 ?_
  refine lj_arg 1 (by omega) d14 d15 d16 d17 d18 ?_
  refine lj_arg 2 (by omega) d19 d20 d21 d22 d23 ?_
  refine lj_call (Y := M_M_wornIn) (idx := 67) (r := 90) (bs := [.int (zI (xs (n + 1)).toInt), .int (zI (xs (n + 2)).toInt)]) (rest := []) ok_M_wornIn rfl (hf_ (i := 47) rfl rfl) (hf_ (i := 48) rfl rfl) (hf_ (i := 49) rfl rfl) (Nat.le_of_ble_eq_true rfl) hm (Nat.le_of_ble_eq_true rfl) C2 d24 (fun v' h2 P2 => ?_)
  obtain ⟨z', rfl, hz, S2⟩ := P2
  refine lj_st (st' := .int z' :: []) rfl ?_
  refine lj_pop d25 ?_
  refine lj_go (off := 651) (tgt := 1181) d26 rfl ?_
  exact ih _ S2
theorem lc_13 (hn : n + 5 ≤ L) (S : PS (n = 0) h) (ih : ∀ h', PS False h' → LJ F σ n 1181 [] h') : LJ F σ n 533 [] h := by
  have hL := F.2.2.2.1
  obtain ⟨fx, hx⟩ := S.c78
  have D : okL code 533 [(.aload_n 1, 1), (.aload_n 0, 1), (.iload_n 3, 1), (.iconst 1, 1), (.iadd, 1), (.iaload, 1), (.invokevirtual 68, 3), (.pop, 1), (.aload_n 2, 1), (.aload_n 0, 1), (.iload_n 3, 1), (.iconst 1, 1), (.iadd, 1), (.iaload, 1), (.invokevirtual 71, 3), (.pop, 1), (.goto 628, 3)] := okL_of (t := code.data.toList.drop 533) rfl (by decide +kernel)
  obtain ⟨d0, d1, d2, d3, d4, d5, d6, d7, d8, d9, d10, d11, d12, d13, d14, d15, d16, -⟩ := D
  refine lj_x d0 ?_
  refine lj_arg 1 (by omega) d1 d2 d3 d4 d5 ?_
  refine lj_call (Y := M_X_home) (idx := 68) (r := 78) (bs := [.int (zI (xs (n + 1)).toInt)]) (rest := []) ok_X_home rfl (ha_ (i := 172) rfl rfl) (ha_ (i := 173) rfl rfl) (ha_ (i := 174) rfl rfl) (Nat.le_of_ble_eq_true rfl) hx (Nat.le_of_ble_eq_true rfl) (pr_home (inI_x _) S) d6 (fun v h1 P1 => ?_)
  obtain ⟨z, rfl, ⟨fm, hm⟩, C2⟩ := P1
  refine lj_st (st' := [.int z]) rfl ?_
  refine lj_pop d7 ?_
  refine lj_m d8 ?_
  refine lj_arg 1 (by omega) d9 d10 d11 d12 d13 ?_
  refine lj_call (Y := M_M_home) (idx := 71) (r := 90) (bs := [.int (zI (xs (n + 1)).toInt)]) (rest := []) ok_M_home rfl (hf_ (i := 51) rfl rfl) (hf_ (i := 52) rfl rfl) (hf_ (i := 53) rfl rfl) (Nat.le_of_ble_eq_true rfl) hm (Nat.le_of_ble_eq_true rfl) C2 d14 (fun v' h2 P2 => ?_)
  obtain ⟨z', rfl, hz, S2⟩ := P2
  refine lj_st (st' := .int z' :: []) rfl ?_
  refine lj_pop d15 ?_
  refine lj_go (off := 628) (tgt := 1181) d16 rfl ?_
  exact ih _ S2
theorem lc_14 (hn : n + 5 ≤ L) (S : PS (n = 0) h) (ih : ∀ h', PS False h' → LJ F σ n 1181 [] h') : LJ F σ n 556 [] h := by
  have hL := F.2.2.2.1
  obtain ⟨fx, hx⟩ := S.c78
  have D : okL code 556 [(.aload_n 1, 1), (.aload_n 0, 1), (.iload_n 3, 1), (.iconst 1, 1), (.iadd, 1), (.iaload, 1), (.invokevirtual 72, 3), (.pop, 1), (.aload_n 2, 1), (.aload_n 0, 1), (.iload_n 3, 1), (.iconst 1, 1), (.iadd, 1), (.iaload, 1), (.invokevirtual 75, 3), (.pop, 1), (.goto 605, 3)] := okL_of (t := code.data.toList.drop 556) rfl (by decide +kernel)
  obtain ⟨d0, d1, d2, d3, d4, d5, d6, d7, d8, d9, d10, d11, d12, d13, d14, d15, d16, -⟩ := D
  refine lj_x d0 ?_
  refine lj_arg 1 (by omega) d1 d2 d3 d4 d5 ?_
  refine lj_call (Y := M_X_dies) (idx := 72) (r := 78) (bs := [.int (zI (xs (n + 1)).toInt)]) (rest := []) ok_X_dies rfl (ha_ (i := 185) rfl rfl) (ha_ (i := 186) rfl rfl) (ha_ (i := 187) rfl rfl) (Nat.le_of_ble_eq_true rfl) hx (Nat.le_of_ble_eq_true rfl) (pr_dies (inI_x _) S) d6 (fun v h1 P1 => ?_)
  obtain ⟨z, rfl, ⟨fm, hm⟩, C2⟩ := P1
  refine lj_st (st' := [.int z]) rfl ?_
  refine lj_pop d7 ?_
  refine lj_m d8 ?_
  refine lj_arg 1 (by omega) d9 d10 d11 d12 d13 ?_
  refine lj_call (Y := M_M_dies) (idx := 75) (r := 90) (bs := [.int (zI (xs (n + 1)).toInt)]) (rest := []) ok_M_dies rfl (hf_ (i := 59) rfl rfl) (hf_ (i := 60) rfl rfl) (hf_ (i := 61) rfl rfl) (Nat.le_of_ble_eq_true rfl) hm (Nat.le_of_ble_eq_true rfl) C2 d14 (fun v' h2 P2 => ?_)
  obtain ⟨z', rfl, hz, S2⟩ := P2
  refine lj_st (st' := .int z' :: []) rfl ?_
  refine lj_pop d15 ?_
  refine lj_go (off := 605) (tgt := 1181) d16 rfl ?_
  exact ih _ S2
theorem lc_15 (hn : n + 5 ≤ L) (S : PS (n = 0) h) (ih : ∀ h', PS False h' → LJ F σ n 1181 [] h') : LJ F σ n 579 [] h := by
  have hL := F.2.2.2.1
  obtain ⟨fx, hx⟩ := S.c78
  have D : okL code 579 [(.aload_n 1, 1), (.aload_n 0, 1), (.iload_n 3, 1), (.iconst 1, 1), (.iadd, 1), (.iaload, 1), (.invokevirtual 76, 3), (.pop, 1), (.aload_n 2, 1), (.aload_n 0, 1), (.iload_n 3, 1), (.iconst 1, 1), (.iadd, 1), (.iaload, 1), (.invokevirtual 79, 3), (.pop, 1), (.goto 582, 3)] := okL_of (t := code.data.toList.drop 579) rfl (by decide +kernel)
  obtain ⟨d0, d1, d2, d3, d4, d5, d6, d7, d8, d9, d10, d11, d12, d13, d14, d15, d16, -⟩ := D
  refine lj_x d0 ?_
  refine lj_arg 1 (by omega) d1 d2 d3 d4 d5 ?_
  refine lj_call (Y := M_X_mercy) (idx := 76) (r := 78) (bs := [.int (zI (xs (n + 1)).toInt)]) (rest := []) ok_X_mercy rfl (ha_ (i := 198) rfl rfl) (ha_ (i := 199) rfl rfl) (ha_ (i := 200) rfl rfl) (Nat.le_of_ble_eq_true rfl) hx (Nat.le_of_ble_eq_true rfl) (pr_mercy (inI_x _) S) d6 (fun v h1 P1 => ?_)
  obtain ⟨z, rfl, ⟨fm, hm⟩, C2⟩ := P1
  refine lj_st (st' := [.int z]) rfl ?_
  refine lj_pop d7 ?_
  refine lj_m d8 ?_
  refine lj_arg 1 (by omega) d9 d10 d11 d12 d13 ?_
  refine lj_call (Y := M_M_mercy) (idx := 79) (r := 90) (bs := [.int (zI (xs (n + 1)).toInt)]) (rest := []) ok_M_mercy rfl (hf_ (i := 68) rfl rfl) (hf_ (i := 69) rfl rfl) (hf_ (i := 70) rfl rfl) (Nat.le_of_ble_eq_true rfl) hm (Nat.le_of_ble_eq_true rfl) C2 d14 (fun v' h2 P2 => ?_)
  obtain ⟨z', rfl, hz, S2⟩ := P2
  refine lj_st (st' := .int z' :: []) rfl ?_
  refine lj_pop d15 ?_
  refine lj_go (off := 582) (tgt := 1181) d16 rfl ?_
  exact ih _ S2
theorem lc_16 (hn : n + 5 ≤ L) (S : PS (n = 0) h) (ih : ∀ h', PS False h' → LJ F σ n 1181 [] h') : LJ F σ n 602 [] h := by
  have hL := F.2.2.2.1
  obtain ⟨fx, hx⟩ := S.c78
  have D : okL code 602 [(.aload_n 1, 1), (.aload_n 0, 1), (.iload_n 3, 1), (.iconst 1, 1), (.iadd, 1), (.iaload, 1), (.invokevirtual 80, 3), (.pop, 1), (.aload_n 2, 1), (.aload_n 0, 1), (.iload_n 3, 1), (.iconst 1, 1), (.iadd, 1), (.iaload, 1), (.invokevirtual 83, 3), (.pop, 1), (.goto 559, 3)] := okL_of (t := code.data.toList.drop 602) rfl (by decide +kernel)
  obtain ⟨d0, d1, d2, d3, d4, d5, d6, d7, d8, d9, d10, d11, d12, d13, d14, d15, d16, -⟩ := D
  refine lj_x d0 ?_
  refine lj_arg 1 (by omega) d1 d2 d3 d4 d5 ?_
  refine lj_call (Y := M_X_fewest) (idx := 80) (r := 78) (bs := [.int (zI (xs (n + 1)).toInt)]) (rest := []) ok_X_fewest rfl (ha_ (i := 211) rfl rfl) (ha_ (i := 212) rfl rfl) (ha_ (i := 213) rfl rfl) (Nat.le_of_ble_eq_true rfl) hx (Nat.le_of_ble_eq_true rfl) (pr_fewest (inI_x _) S) d6 (fun v h1 P1 => ?_)
  obtain ⟨z, rfl, ⟨fm, hm⟩, C2⟩ := P1
  refine lj_st (st' := [.int z]) rfl ?_
  refine lj_pop d7 ?_
  refine lj_m d8 ?_
  refine lj_arg 1 (by omega) d9 d10 d11 d12 d13 ?_
  refine lj_call (Y := M_M_fewest) (idx := 83) (r := 90) (bs := [.int (zI (xs (n + 1)).toInt)]) (rest := []) ok_M_fewest rfl (hf_ (i := 76) rfl rfl) (hf_ (i := 77) rfl rfl) (hf_ (i := 78) rfl rfl) (Nat.le_of_ble_eq_true rfl) hm (Nat.le_of_ble_eq_true rfl) C2 d14 (fun v' h2 P2 => ?_)
  obtain ⟨z', rfl, hz, S2⟩ := P2
  refine lj_st (st' := .int z' :: []) rfl ?_
  refine lj_pop d15 ?_
  refine lj_go (off := 559) (tgt := 1181) d16 rfl ?_
  exact ih _ S2
theorem lc_17 (hn : n + 5 ≤ L) (S : PS (n = 0) h) (ih : ∀ h', PS False h' → LJ F σ n 1181 [] h') : LJ F σ n 625 [] h := by
  have hL := F.2.2.2.1
  obtain ⟨fx, hx⟩ := S.c78
  have D : okL code 625 [(.aload_n 1, 1), (.aload_n 0, 1), (.iload_n 3, 1), (.iconst 1, 1), (.iadd, 1), (.iaload, 1), (.invokevirtual 84, 3), (.pop, 1), (.aload_n 2, 1), (.aload_n 0, 1), (.iload_n 3, 1), (.iconst 1, 1), (.iadd, 1), (.iaload, 1), (.invokevirtual 87, 3), (.pop, 1), (.goto 536, 3)] := okL_of (t := code.data.toList.drop 625) rfl (by decide +kernel)
  obtain ⟨d0, d1, d2, d3, d4, d5, d6, d7, d8, d9, d10, d11, d12, d13, d14, d15, d16, -⟩ := D
  refine lj_x d0 ?_
  refine lj_arg 1 (by omega) d1 d2 d3 d4 d5 ?_
  refine lj_call (Y := M_X_crown) (idx := 84) (r := 78) (bs := [.int (zI (xs (n + 1)).toInt)]) (rest := []) ok_X_crown rfl (ha_ (i := 230) rfl rfl) (ha_ (i := 231) rfl rfl) (ha_ (i := 232) rfl rfl) (Nat.le_of_ble_eq_true rfl) hx (Nat.le_of_ble_eq_true rfl) (pr_crown (inI_x _) S) d6 (fun v h1 P1 => ?_)
  obtain ⟨z, rfl, ⟨fm, hm⟩, C2⟩ := P1
  refine lj_st (st' := [.int z]) rfl ?_
  refine lj_pop d7 ?_
  refine lj_m d8 ?_
  refine lj_arg 1 (by omega) d9 d10 d11 d12 d13 ?_
  refine lj_call (Y := M_M_crown) (idx := 87) (r := 90) (bs := [.int (zI (xs (n + 1)).toInt)]) (rest := []) ok_M_crown rfl (hf_ (i := 83) rfl rfl) (hf_ (i := 84) rfl rfl) (hf_ (i := 85) rfl rfl) (Nat.le_of_ble_eq_true rfl) hm (Nat.le_of_ble_eq_true rfl) C2 d14 (fun v' h2 P2 => ?_)
  obtain ⟨z', rfl, hz, S2⟩ := P2
  refine lj_st (st' := .int z' :: []) rfl ?_
  refine lj_pop d15 ?_
  refine lj_go (off := 536) (tgt := 1181) d16 rfl ?_
  exact ih _ S2
theorem lc_18 (hn : n + 5 ≤ L) (S : PS (n = 0) h) (ih : ∀ h', PS False h' → LJ F σ n 1181 [] h') : LJ F σ n 648 [] h := by
  have hL := F.2.2.2.1
  obtain ⟨fx, hx⟩ := S.c78
  have D : okL code 648 [(.aload_n 1, 1), (.aload_n 0, 1), (.iload_n 3, 1), (.iconst 1, 1), (.iadd, 1), (.iaload, 1), (.invokevirtual 88, 3), (.pop, 1), (.aload_n 2, 1), (.aload_n 0, 1), (.iload_n 3, 1), (.iconst 1, 1), (.iadd, 1), (.iaload, 1), (.invokevirtual 91, 3), (.pop, 1), (.goto 513, 3)] := okL_of (t := code.data.toList.drop 648) rfl (by decide +kernel)
  obtain ⟨d0, d1, d2, d3, d4, d5, d6, d7, d8, d9, d10, d11, d12, d13, d14, d15, d16, -⟩ := D
  refine lj_x d0 ?_
  refine lj_arg 1 (by omega) d1 d2 d3 d4 d5 ?_
  refine lj_call (Y := M_X_dig) (idx := 88) (r := 78) (bs := [.int (zI (xs (n + 1)).toInt)]) (rest := []) ok_X_dig rfl (ha_ (i := 238) rfl rfl) (ha_ (i := 239) rfl rfl) (hc_ (i := 0) rfl rfl) (Nat.le_of_ble_eq_true rfl) hx (Nat.le_of_ble_eq_true rfl) (pr_dig (inI_x _) S) d6 (fun v h1 P1 => ?_)
  obtain ⟨z, rfl, ⟨fm, hm⟩, C2⟩ := P1
  refine lj_st (st' := [.int z]) rfl ?_
  refine lj_pop d7 ?_
  refine lj_m d8 ?_
  refine lj_arg 1 (by omega) d9 d10 d11 d12 d13 ?_
  refine lj_call (Y := M_M_dig) (idx := 91) (r := 90) (bs := [.int (zI (xs (n + 1)).toInt)]) (rest := []) ok_M_dig rfl (hf_ (i := 87) rfl rfl) (hf_ (i := 88) rfl rfl) (hf_ (i := 89) rfl rfl) (Nat.le_of_ble_eq_true rfl) hm (Nat.le_of_ble_eq_true rfl) C2 d14 (fun v' h2 P2 => ?_)
  obtain ⟨z', rfl, hz, S2⟩ := P2
  refine lj_st (st' := .int z' :: []) rfl ?_
  refine lj_pop d15 ?_
  refine lj_go (off := 513) (tgt := 1181) d16 rfl ?_
  exact ih _ S2
theorem lc_19 (hn : n + 5 ≤ L) (S : PS (n = 0) h) (ih : ∀ h', PS False h' → LJ F σ n 1181 [] h') : LJ F σ n 671 [] h := by
  have hL := F.2.2.2.1
  obtain ⟨fx, hx⟩ := S.c78
  have D : okL code 671 [(.aload_n 1, 1), (.aload_n 0, 1), (.iload_n 3, 1), (.iconst 1, 1), (.iadd, 1), (.iaload, 1), (.aload_n 0, 1), (.iload_n 3, 1), (.iconst 2, 1), (.iadd, 1), (.iaload, 1), (.invokevirtual 92, 3), (.pop, 1), (.aload_n 2, 1), (.aload_n 0, 1), (.iload_n 3, 1), (.iconst 1, 1), (.iadd, 1), (.iaload, 1), (.aload_n 0, 1), (.iload_n 3, 1), (.iconst 2, 1), (.iadd, 1), (.iaload, 1), (.invokevirtual 95, 3), (.pop, 1), (.goto 480, 3)] := okL_of (t := code.data.toList.drop 671) rfl (by decide +kernel)
  obtain ⟨d0, d1, d2, d3, d4, d5, d6, d7, d8, d9, d10, d11, d12, d13, d14, d15, d16, d17, d18, d19, d20, d21, d22, d23, d24, d25, d26, -⟩ := D
  refine lj_x d0 ?_
  refine lj_arg 1 (by omega) d1 d2 d3 d4 d5 ?_
  refine lj_arg 2 (by omega) d6 d7 d8 d9 d10 ?_
  refine lj_call (Y := M_X_keep) (idx := 92) (r := 78) (bs := [.int (zI (xs (n + 1)).toInt), .int (zI (xs (n + 2)).toInt)]) (rest := []) ok_X_keep rfl (hc_ (i := 7) rfl rfl) (hc_ (i := 8) rfl rfl) (hc_ (i := 9) rfl rfl) (Nat.le_of_ble_eq_true rfl) hx (Nat.le_of_ble_eq_true rfl) (pr_keep (inI_x _) (inI_x _) S) d11 (fun v h1 P1 => ?_)
  obtain ⟨z, rfl, ⟨fm, hm⟩, C2⟩ := P1
  refine lj_st (st' := [.int z]) rfl ?_
  refine lj_pop d12 ?_
  refine lj_m d13 ?_
  refine lj_arg 1 (by omega) d14 d15 d16 d17 d18 ?_
  refine lj_arg 2 (by omega) d19 d20 d21 d22 d23 ?_
  refine lj_call (Y := M_M_keep) (idx := 95) (r := 90) (bs := [.int (zI (xs (n + 1)).toInt), .int (zI (xs (n + 2)).toInt)]) (rest := []) ok_M_keep rfl (hf_ (i := 91) rfl rfl) (hf_ (i := 92) rfl rfl) (hf_ (i := 93) rfl rfl) (Nat.le_of_ble_eq_true rfl) hm (Nat.le_of_ble_eq_true rfl) C2 d24 (fun v' h2 P2 => ?_)
  obtain ⟨z', rfl, hz, S2⟩ := P2
  refine lj_st (st' := .int z' :: []) rfl ?_
  refine lj_pop d25 ?_
  refine lj_go (off := 480) (tgt := 1181) d26 rfl ?_
  exact ih _ S2
theorem lc_20 (hn : n + 5 ≤ L) (S : PS (n = 0) h) (ih : ∀ h', PS False h' → LJ F σ n 1181 [] h') : LJ F σ n 704 [] h := by
  have hL := F.2.2.2.1
  obtain ⟨fx, hx⟩ := S.c78
  have D : okL code 704 [(.aload_n 1, 1), (.aload_n 0, 1), (.iload_n 3, 1), (.iconst 1, 1), (.iadd, 1), (.iaload, 1), (.invokevirtual 96, 3), (.pop, 1), (.aload_n 2, 1), (.aload_n 0, 1), (.iload_n 3, 1), (.iconst 1, 1), (.iadd, 1), (.iaload, 1), (.invokevirtual 99, 3), (.pop, 1), (.goto 457, 3)] := okL_of (t := code.data.toList.drop 704) rfl (by decide +kernel)
  obtain ⟨d0, d1, d2, d3, d4, d5, d6, d7, d8, d9, d10, d11, d12, d13, d14, d15, d16, -⟩ := D
  refine lj_x d0 ?_
  refine lj_arg 1 (by omega) d1 d2 d3 d4 d5 ?_
  refine lj_call (Y := M_X_pairs) (idx := 96) (r := 78) (bs := [.int (zI (xs (n + 1)).toInt)]) (rest := []) ok_X_pairs rfl (hc_ (i := 18) rfl rfl) (hc_ (i := 19) rfl rfl) (hc_ (i := 20) rfl rfl) (Nat.le_of_ble_eq_true rfl) hx (Nat.le_of_ble_eq_true rfl) (pr_pairs (inI_x _) S) d6 (fun v h1 P1 => ?_)
  obtain ⟨z, rfl, ⟨fm, hm⟩, C2⟩ := P1
  refine lj_st (st' := [.int z]) rfl ?_
  refine lj_pop d7 ?_
  refine lj_m d8 ?_
  refine lj_arg 1 (by omega) d9 d10 d11 d12 d13 ?_
  refine lj_call (Y := M_M_pairs) (idx := 99) (r := 90) (bs := [.int (zI (xs (n + 1)).toInt)]) (rest := []) ok_M_pairs rfl (hf_ (i := 95) rfl rfl) (hf_ (i := 96) rfl rfl) (hf_ (i := 97) rfl rfl) (Nat.le_of_ble_eq_true rfl) hm (Nat.le_of_ble_eq_true rfl) C2 d14 (fun v' h2 P2 => ?_)
  obtain ⟨z', rfl, hz, S2⟩ := P2
  refine lj_st (st' := .int z' :: []) rfl ?_
  refine lj_pop d15 ?_
  refine lj_go (off := 457) (tgt := 1181) d16 rfl ?_
  exact ih _ S2
theorem lc_21 (hn : n + 5 ≤ L) (S : PS (n = 0) h) (ih : ∀ h', PS False h' → LJ F σ n 1181 [] h') : LJ F σ n 727 [] h := by
  have hL := F.2.2.2.1
  obtain ⟨fx, hx⟩ := S.c78
  have D : okL code 727 [(.aload_n 1, 1), (.invokevirtual 100, 3), (.pop, 1), (.aload_n 2, 1), (.invokevirtual 103, 3), (.pop, 1), (.goto 444, 3)] := okL_of (t := code.data.toList.drop 727) rfl (by decide +kernel)
  obtain ⟨d0, d1, d2, d3, d4, d5, d6, -⟩ := D
  refine lj_x d0 ?_
  refine lj_call (Y := M_X_whoBore) (idx := 100) (r := 78) (bs := []) (rest := []) ok_X_whoBore rfl (hc_ (i := 46) rfl rfl) (hc_ (i := 47) rfl rfl) (hc_ (i := 48) rfl rfl) (Nat.le_of_ble_eq_true rfl) hx (Nat.le_of_ble_eq_true rfl) (pr_whoBore  S) d1 (fun v h1 P1 => ?_)
  obtain ⟨z, rfl, ⟨fm, hm⟩, C2⟩ := P1
  refine lj_st (st' := [.int z]) rfl ?_
  refine lj_pop d2 ?_
  refine lj_m d3 ?_
  refine lj_call (Y := M_M_whoBore) (idx := 103) (r := 90) (bs := []) (rest := []) ok_M_whoBore rfl (hf_ (i := 120) rfl rfl) (hf_ (i := 121) rfl rfl) (hf_ (i := 122) rfl rfl) (Nat.le_of_ble_eq_true rfl) hm (Nat.le_of_ble_eq_true rfl) C2 d4 (fun v' h2 P2 => ?_)
  obtain ⟨z', rfl, hz, S2⟩ := P2
  refine lj_st (st' := .int z' :: []) rfl ?_
  refine lj_pop d5 ?_
  refine lj_go (off := 444) (tgt := 1181) d6 rfl ?_
  exact ih _ S2
theorem lc_22 (hn : n + 5 ≤ L) (S : PS (n = 0) h) (ih : ∀ h', PS False h' → LJ F σ n 1181 [] h') : LJ F σ n 740 [] h := by
  have hL := F.2.2.2.1
  obtain ⟨fx, hx⟩ := S.c78
  have D : okL code 740 [(.aload_n 1, 1), (.aload_n 0, 1), (.iload_n 3, 1), (.iconst 1, 1), (.iadd, 1), (.iaload, 1), (.aload_n 0, 1), (.iload_n 3, 1), (.iconst 2, 1), (.iadd, 1), (.iaload, 1), (.invokevirtual 104, 3), (.pop, 1), (.aload_n 2, 1), (.aload_n 0, 1), (.iload_n 3, 1), (.iconst 1, 1), (.iadd, 1), (.iaload, 1), (.aload_n 0, 1), (.iload_n 3, 1), (.iconst 2, 1), (.iadd, 1), (.iaload, 1), (.invokevirtual 107, 3), (.pop, 1), (.goto 411, 3)] := okL_of (t := code.data.toList.drop 740) rfl (by decide +kernel)
  obtain ⟨d0, d1, d2, d3, d4, d5, d6, d7, d8, d9, d10, d11, d12, d13, d14, d15, d16, d17, d18, d19, d20, d21, d22, d23, d24, d25, d26, -⟩ := D
  refine lj_x d0 ?_
  refine lj_arg 1 (by omega) d1 d2 d3 d4 d5 ?_
  refine lj_arg 2 (by omega) d6 d7 d8 d9 d10 ?_
  refine lj_call (Y := M_X_whatKind) (idx := 104) (r := 78) (bs := [.int (zI (xs (n + 1)).toInt), .int (zI (xs (n + 2)).toInt)]) (rest := []) ok_X_whatKind rfl (hc_ (i := 62) rfl rfl) (hc_ (i := 63) rfl rfl) (hc_ (i := 64) rfl rfl) (Nat.le_of_ble_eq_true rfl) hx (Nat.le_of_ble_eq_true rfl) (pr_whatKind (inI_x _) (inI_x _) S) d11 (fun v h1 P1 => ?_)
  obtain ⟨z, rfl, ⟨fm, hm⟩, C2⟩ := P1
  refine lj_st (st' := [.int z]) rfl ?_
  refine lj_pop d12 ?_
  refine lj_m d13 ?_
  refine lj_arg 1 (by omega) d14 d15 d16 d17 d18 ?_
  refine lj_arg 2 (by omega) d19 d20 d21 d22 d23 ?_
  refine lj_call (Y := M_M_whatKind) (idx := 107) (r := 90) (bs := [.int (zI (xs (n + 1)).toInt), .int (zI (xs (n + 2)).toInt)]) (rest := []) ok_M_whatKind rfl (hf_ (i := 128) rfl rfl) (hf_ (i := 129) rfl rfl) (hf_ (i := 130) rfl rfl) (Nat.le_of_ble_eq_true rfl) hm (Nat.le_of_ble_eq_true rfl) C2 d24 (fun v' h2 P2 => ?_)
  obtain ⟨z', rfl, hz, S2⟩ := P2
  refine lj_st (st' := .int z' :: []) rfl ?_
  refine lj_pop d25 ?_
  refine lj_go (off := 411) (tgt := 1181) d26 rfl ?_
  exact ih _ S2
theorem lc_23 (hn : n + 5 ≤ L) (S : PS (n = 0) h) (ih : ∀ h', PS False h' → LJ F σ n 1181 [] h') : LJ F σ n 773 [] h := by
  have hL := F.2.2.2.1
  obtain ⟨fx, hx⟩ := S.c78
  have D : okL code 773 [(.aload_n 1, 1), (.aload_n 0, 1), (.iload_n 3, 1), (.iconst 1, 1), (.iadd, 1), (.iaload, 1), (.aload_n 0, 1), (.iload_n 3, 1), (.iconst 2, 1), (.iadd, 1), (.iaload, 1), (.aload_n 0, 1), (.iload_n 3, 1), (.iconst 3, 1), (.iadd, 1), (.iaload, 1), (.invokevirtual 108, 3), (.pop, 1), (.aload_n 2, 1), (.aload_n 0, 1), (.iload_n 3, 1), (.iconst 1, 1), (.iadd, 1), (.iaload, 1), (.aload_n 0, 1), (.iload_n 3, 1), (.iconst 2, 1), (.iadd, 1), (.iaload, 1), (.aload_n 0, 1), (.iload_n 3, 1), (.iconst 3, 1), (.iadd, 1), (.iaload, 1), (.invokevirtual 112, 3), (.pop, 1), (.goto 368, 3)] := okL_of (t := code.data.toList.drop 773) rfl (by decide +kernel)
  obtain ⟨d0, d1, d2, d3, d4, d5, d6, d7, d8, d9, d10, d11, d12, d13, d14, d15, d16, d17, d18, d19, d20, d21, d22, d23, d24, d25, d26, d27, d28, d29, d30, d31, d32, d33, d34, d35, d36, -⟩ := D
  refine lj_x d0 ?_
  refine lj_arg 1 (by omega) d1 d2 d3 d4 d5 ?_
  refine lj_arg 2 (by omega) d6 d7 d8 d9 d10 ?_
  refine lj_arg 3 (by omega) d11 d12 d13 d14 d15 ?_
  refine lj_call (Y := M_X_two) (idx := 108) (r := 78) (bs := [.int (zI (xs (n + 1)).toInt), .int (zI (xs (n + 2)).toInt), .int (zI (xs (n + 3)).toInt)]) (rest := []) ok_X_two rfl (hc_ (i := 87) rfl rfl) (hc_ (i := 88) rfl rfl) (hc_ (i := 89) rfl rfl) (Nat.le_of_ble_eq_true rfl) hx (Nat.le_of_ble_eq_true rfl) (pr_two (inI_x _) (inI_x _) (inI_x _) S) d16 (fun v h1 P1 => ?_)
  obtain ⟨z, rfl, ⟨fm, hm⟩, C2⟩ := P1
  refine lj_st (st' := [.int z]) rfl ?_
  refine lj_pop d17 ?_
  refine lj_m d18 ?_
  refine lj_arg 1 (by omega) d19 d20 d21 d22 d23 ?_
  refine lj_arg 2 (by omega) d24 d25 d26 d27 d28 ?_
  refine lj_arg 3 (by omega) d29 d30 d31 d32 d33 ?_
  refine lj_call (Y := M_M_two) (idx := 112) (r := 90) (bs := [.int (zI (xs (n + 1)).toInt), .int (zI (xs (n + 2)).toInt), .int (zI (xs (n + 3)).toInt)]) (rest := []) ok_M_two rfl (hf_ (i := 132) rfl rfl) (hf_ (i := 133) rfl rfl) (hf_ (i := 134) rfl rfl) (Nat.le_of_ble_eq_true rfl) hm (Nat.le_of_ble_eq_true rfl) C2 d34 (fun v' h2 P2 => ?_)
  obtain ⟨z', rfl, hz, S2⟩ := P2
  refine lj_st (st' := .int z' :: []) rfl ?_
  refine lj_pop d35 ?_
  refine lj_go (off := 368) (tgt := 1181) d36 rfl ?_
  exact ih _ S2
theorem lc_24 (hn : n + 5 ≤ L) (S : PS (n = 0) h) (ih : ∀ h', PS False h' → LJ F σ n 1181 [] h') : LJ F σ n 816 [] h := by
  have hL := F.2.2.2.1
  obtain ⟨fx, hx⟩ := S.c78
  have D : okL code 816 [(.aload_n 1, 1), (.aload_n 0, 1), (.iload_n 3, 1), (.iconst 1, 1), (.iadd, 1), (.iaload, 1), (.aload_n 0, 1), (.iload_n 3, 1), (.iconst 2, 1), (.iadd, 1), (.iaload, 1), (.aload_n 0, 1), (.iload_n 3, 1), (.iconst 3, 1), (.iadd, 1), (.iaload, 1), (.aload_n 0, 1), (.iload_n 3, 1), (.iconst 4, 1), (.iadd, 1), (.iaload, 1), (.invokevirtual 113, 3), (.pop2, 1), (.aload_n 2, 1), (.aload_n 0, 1), (.iload_n 3, 1), (.iconst 1, 1), (.iadd, 1), (.iaload, 1), (.aload_n 0, 1), (.iload_n 3, 1), (.iconst 2, 1), (.iadd, 1), (.iaload, 1), (.aload_n 0, 1), (.iload_n 3, 1), (.iconst 3, 1), (.iadd, 1), (.iaload, 1), (.aload_n 0, 1), (.iload_n 3, 1), (.iconst 4, 1), (.iadd, 1), (.iaload, 1), (.invokevirtual 117, 3), (.pop2, 1), (.goto 315, 3)] := okL_of (t := code.data.toList.drop 816) rfl (by decide +kernel)
  obtain ⟨d0, d1, d2, d3, d4, d5, d6, d7, d8, d9, d10, d11, d12, d13, d14, d15, d16, d17, d18, d19, d20, d21, d22, d23, d24, d25, d26, d27, d28, d29, d30, d31, d32, d33, d34, d35, d36, d37, d38, d39, d40, d41, d42, d43, d44, d45, d46, -⟩ := D
  refine lj_x d0 ?_
  refine lj_arg 1 (by omega) d1 d2 d3 d4 d5 ?_
  refine lj_arg 2 (by omega) d6 d7 d8 d9 d10 ?_
  refine lj_arg 3 (by omega) d11 d12 d13 d14 d15 ?_
  refine lj_arg 4 (by omega) d16 d17 d18 d19 d20 ?_
  refine lj_call (Y := M_X_falls) (idx := 113) (r := 78) (bs := [.int (zI (xs (n + 1)).toInt), .int (zI (xs (n + 2)).toInt), .int (zI (xs (n + 3)).toInt), .int (zI (xs (n + 4)).toInt)]) (rest := []) ok_X_falls rfl (hc_ (i := 95) rfl rfl) (hc_ (i := 96) rfl rfl) (hc_ (i := 97) rfl rfl) (Nat.le_of_ble_eq_true rfl) hx (Nat.le_of_ble_eq_true rfl) (pr_falls (inI_x _) (inI_x _) (inI_x _) (inI_x _) S) d21 (fun v h1 P1 => ?_)
  obtain ⟨z, rfl, ⟨fm, hm⟩, C2⟩ := P1
  refine lj_st (st' := [.long z]) rfl ?_
  refine lj_pop2 d22 ?_
  refine lj_m d23 ?_
  refine lj_arg 1 (by omega) d24 d25 d26 d27 d28 ?_
  refine lj_arg 2 (by omega) d29 d30 d31 d32 d33 ?_
  refine lj_arg 3 (by omega) d34 d35 d36 d37 d38 ?_
  refine lj_arg 4 (by omega) d39 d40 d41 d42 d43 ?_
  refine lj_call (Y := M_M_falls) (idx := 117) (r := 90) (bs := [.int (zI (xs (n + 1)).toInt), .int (zI (xs (n + 2)).toInt), .int (zI (xs (n + 3)).toInt), .int (zI (xs (n + 4)).toInt)]) (rest := []) ok_M_falls rfl (hf_ (i := 136) rfl rfl) (hf_ (i := 137) rfl rfl) (hf_ (i := 138) rfl rfl) (Nat.le_of_ble_eq_true rfl) hm (Nat.le_of_ble_eq_true rfl) C2 d44 (fun v' h2 P2 => ?_)
  obtain ⟨z', rfl, hz, S2⟩ := P2
  refine lj_st (st' := .long z' :: []) rfl ?_
  refine lj_pop2 d45 ?_
  refine lj_go (off := 315) (tgt := 1181) d46 rfl ?_
  exact ih _ S2
theorem lc_25 (hn : n + 5 ≤ L) (S : PS (n = 0) h) (ih : ∀ h', PS False h' → LJ F σ n 1181 [] h') : LJ F σ n 869 [] h := by
  have hL := F.2.2.2.1
  obtain ⟨fx, hx⟩ := S.c78
  have D : okL code 869 [(.aload_n 1, 1), (.aload_n 0, 1), (.iload_n 3, 1), (.iconst 1, 1), (.iadd, 1), (.iaload, 1), (.aload_n 0, 1), (.iload_n 3, 1), (.iconst 2, 1), (.iadd, 1), (.iaload, 1), (.invokevirtual 118, 3), (.pop, 1), (.aload_n 2, 1), (.aload_n 0, 1), (.iload_n 3, 1), (.iconst 1, 1), (.iadd, 1), (.iaload, 1), (.aload_n 0, 1), (.iload_n 3, 1), (.iconst 2, 1), (.iadd, 1), (.iaload, 1), (.invokevirtual 121, 3), (.pop, 1), (.goto 282, 3)] := okL_of (t := code.data.toList.drop 869) rfl (by decide +kernel)
  obtain ⟨d0, d1, d2, d3, d4, d5, d6, d7, d8, d9, d10, d11, d12, d13, d14, d15, d16, d17, d18, d19, d20, d21, d22, d23, d24, d25, d26, -⟩ := D
  refine lj_x d0 ?_
  refine lj_arg 1 (by omega) d1 d2 d3 d4 d5 ?_
  refine lj_arg 2 (by omega) d6 d7 d8 d9 d10 ?_
  refine lj_call (Y := M_X_shares) (idx := 118) (r := 78) (bs := [.int (zI (xs (n + 1)).toInt), .int (zI (xs (n + 2)).toInt)]) (rest := []) ok_X_shares rfl (hc_ (i := 121) rfl rfl) (hc_ (i := 122) rfl rfl) (hc_ (i := 123) rfl rfl) (Nat.le_of_ble_eq_true rfl) hx (Nat.le_of_ble_eq_true rfl) (pr_shares (inI_x _) (inI_x _) S) d11 (fun v h1 P1 => ?_)
  obtain ⟨z, rfl, ⟨fm, hm⟩, C2⟩ := P1
  refine lj_st (st' := [.int z]) rfl ?_
  refine lj_pop d12 ?_
  refine lj_m d13 ?_
  refine lj_arg 1 (by omega) d14 d15 d16 d17 d18 ?_
  refine lj_arg 2 (by omega) d19 d20 d21 d22 d23 ?_
  refine lj_call (Y := M_M_shares) (idx := 121) (r := 90) (bs := [.int (zI (xs (n + 1)).toInt), .int (zI (xs (n + 2)).toInt)]) (rest := []) ok_M_shares rfl (hf_ (i := 147) rfl rfl) (hf_ (i := 148) rfl rfl) (hf_ (i := 149) rfl rfl) (Nat.le_of_ble_eq_true rfl) hm (Nat.le_of_ble_eq_true rfl) C2 d24 (fun v' h2 P2 => ?_)
  obtain ⟨z', rfl, hz, S2⟩ := P2
  refine lj_st (st' := .int z' :: []) rfl ?_
  refine lj_pop d25 ?_
  refine lj_go (off := 282) (tgt := 1181) d26 rfl ?_
  exact ih _ S2
theorem lc_26 (hn : n + 5 ≤ L) (S : PS (n = 0) h) (ih : ∀ h', PS False h' → LJ F σ n 1181 [] h') : LJ F σ n 902 [] h := by
  have hL := F.2.2.2.1
  obtain ⟨fx, hx⟩ := S.c78
  have D : okL code 902 [(.aload_n 1, 1), (.aload_n 0, 1), (.iload_n 3, 1), (.iconst 1, 1), (.iadd, 1), (.iaload, 1), (.invokevirtual 122, 3), (.pop, 1), (.aload_n 2, 1), (.aload_n 0, 1), (.iload_n 3, 1), (.iconst 1, 1), (.iadd, 1), (.iaload, 1), (.invokevirtual 125, 3), (.pop, 1), (.goto 259, 3)] := okL_of (t := code.data.toList.drop 902) rfl (by decide +kernel)
  obtain ⟨d0, d1, d2, d3, d4, d5, d6, d7, d8, d9, d10, d11, d12, d13, d14, d15, d16, -⟩ := D
  refine lj_x d0 ?_
  refine lj_arg 1 (by omega) d1 d2 d3 d4 d5 ?_
  refine lj_call (Y := M_X_strongest) (idx := 122) (r := 78) (bs := [.int (zI (xs (n + 1)).toInt)]) (rest := []) ok_X_strongest rfl (hc_ (i := 125) rfl rfl) (hc_ (i := 126) rfl rfl) (hc_ (i := 127) rfl rfl) (Nat.le_of_ble_eq_true rfl) hx (Nat.le_of_ble_eq_true rfl) (pr_strongest (inI_x _) S) d6 (fun v h1 P1 => ?_)
  obtain ⟨z, rfl, ⟨fm, hm⟩, C2⟩ := P1
  refine lj_st (st' := [.int z]) rfl ?_
  refine lj_pop d7 ?_
  refine lj_m d8 ?_
  refine lj_arg 1 (by omega) d9 d10 d11 d12 d13 ?_
  refine lj_call (Y := M_M_strongest) (idx := 125) (r := 90) (bs := [.int (zI (xs (n + 1)).toInt)]) (rest := []) ok_M_strongest rfl (hf_ (i := 151) rfl rfl) (hf_ (i := 152) rfl rfl) (hf_ (i := 153) rfl rfl) (Nat.le_of_ble_eq_true rfl) hm (Nat.le_of_ble_eq_true rfl) C2 d14 (fun v' h2 P2 => ?_)
  obtain ⟨z', rfl, hz, S2⟩ := P2
  refine lj_st (st' := .int z' :: []) rfl ?_
  refine lj_pop d15 ?_
  refine lj_go (off := 259) (tgt := 1181) d16 rfl ?_
  exact ih _ S2
theorem lc_27 (hn : n + 5 ≤ L) (S : PS (n = 0) h) (ih : ∀ h', PS False h' → LJ F σ n 1181 [] h') : LJ F σ n 925 [] h := by
  have hL := F.2.2.2.1
  obtain ⟨fx, hx⟩ := S.c78
  have D : okL code 925 [(.aload_n 1, 1), (.aload_n 0, 1), (.iload_n 3, 1), (.iconst 1, 1), (.iadd, 1), (.iaload, 1), (.invokevirtual 126, 3), (.pop2, 1), (.aload_n 2, 1), (.aload_n 0, 1), (.iload_n 3, 1), (.iconst 1, 1), (.iadd, 1), (.iaload, 1), (.invokevirtual 130, 3), (.pop2, 1), (.goto 236, 3)] := okL_of (t := code.data.toList.drop 925) rfl (by decide +kernel)
  obtain ⟨d0, d1, d2, d3, d4, d5, d6, d7, d8, d9, d10, d11, d12, d13, d14, d15, d16, -⟩ := D
  refine lj_x d0 ?_
  refine lj_arg 1 (by omega) d1 d2 d3 d4 d5 ?_
  refine lj_call (Y := M_X_mean) (idx := 126) (r := 78) (bs := [.int (zI (xs (n + 1)).toInt)]) (rest := []) ok_X_mean rfl (hc_ (i := 135) rfl rfl) (hc_ (i := 136) rfl rfl) (hc_ (i := 137) rfl rfl) (Nat.le_of_ble_eq_true rfl) hx (Nat.le_of_ble_eq_true rfl) (pr_mean (inI_x _) S) d6 (fun v h1 P1 => ?_)
  obtain ⟨z, rfl, ⟨fm, hm⟩, C2⟩ := P1
  refine lj_st (st' := [.long z]) rfl ?_
  refine lj_pop2 d7 ?_
  refine lj_m d8 ?_
  refine lj_arg 1 (by omega) d9 d10 d11 d12 d13 ?_
  refine lj_call (Y := M_M_mean) (idx := 130) (r := 90) (bs := [.int (zI (xs (n + 1)).toInt)]) (rest := []) ok_M_mean rfl (hf_ (i := 159) rfl rfl) (hf_ (i := 160) rfl rfl) (hf_ (i := 161) rfl rfl) (Nat.le_of_ble_eq_true rfl) hm (Nat.le_of_ble_eq_true rfl) C2 d14 (fun v' h2 P2 => ?_)
  obtain ⟨z', rfl, hz, S2⟩ := P2
  refine lj_st (st' := .long z' :: []) rfl ?_
  refine lj_pop2 d15 ?_
  refine lj_go (off := 236) (tgt := 1181) d16 rfl ?_
  exact ih _ S2
theorem lc_28 (hn : n + 5 ≤ L) (S : PS (n = 0) h) (ih : ∀ h', PS False h' → LJ F σ n 1181 [] h') : LJ F σ n 948 [] h := by
  have hL := F.2.2.2.1
  obtain ⟨fx, hx⟩ := S.c78
  have D : okL code 948 [(.aload_n 1, 1), (.aload_n 0, 1), (.iload_n 3, 1), (.iconst 1, 1), (.iadd, 1), (.iaload, 1), (.invokevirtual 131, 3), (.pop, 1), (.aload_n 2, 1), (.aload_n 0, 1), (.iload_n 3, 1), (.iconst 1, 1), (.iadd, 1), (.iaload, 1), (.invokevirtual 134, 3), (.pop, 1), (.goto 213, 3)] := okL_of (t := code.data.toList.drop 948) rfl (by decide +kernel)
  obtain ⟨d0, d1, d2, d3, d4, d5, d6, d7, d8, d9, d10, d11, d12, d13, d14, d15, d16, -⟩ := D
  refine lj_x d0 ?_
  refine lj_arg 1 (by omega) d1 d2 d3 d4 d5 ?_
  refine lj_call (Y := M_X_spare) (idx := 131) (r := 78) (bs := [.int (zI (xs (n + 1)).toInt)]) (rest := []) ok_X_spare rfl (hc_ (i := 143) rfl rfl) (hc_ (i := 144) rfl rfl) (hc_ (i := 145) rfl rfl) (Nat.le_of_ble_eq_true rfl) hx (Nat.le_of_ble_eq_true rfl) (pr_spare (inI_x _) S) d6 (fun v h1 P1 => ?_)
  obtain ⟨z, rfl, ⟨fm, hm⟩, C2⟩ := P1
  refine lj_st (st' := [.int z]) rfl ?_
  refine lj_pop d7 ?_
  refine lj_m d8 ?_
  refine lj_arg 1 (by omega) d9 d10 d11 d12 d13 ?_
  refine lj_call (Y := M_M_spare) (idx := 134) (r := 90) (bs := [.int (zI (xs (n + 1)).toInt)]) (rest := []) ok_M_spare rfl (hf_ (i := 167) rfl rfl) (hf_ (i := 168) rfl rfl) (hf_ (i := 169) rfl rfl) (Nat.le_of_ble_eq_true rfl) hm (Nat.le_of_ble_eq_true rfl) C2 d14 (fun v' h2 P2 => ?_)
  obtain ⟨z', rfl, hz, S2⟩ := P2
  refine lj_st (st' := .int z' :: []) rfl ?_
  refine lj_pop d15 ?_
  refine lj_go (off := 213) (tgt := 1181) d16 rfl ?_
  exact ih _ S2
theorem lc_29 (hn : n + 5 ≤ L) (S : PS (n = 0) h) (ih : ∀ h', PS False h' → LJ F σ n 1181 [] h') : LJ F σ n 971 [] h := by
  have hL := F.2.2.2.1
  obtain ⟨fx, hx⟩ := S.c78
  have D : okL code 971 [(.aload_n 1, 1), (.aload_n 0, 1), (.iload_n 3, 1), (.iconst 1, 1), (.iadd, 1), (.iaload, 1), (.invokevirtual 135, 3), (.pop, 1), (.aload_n 2, 1), (.aload_n 0, 1), (.iload_n 3, 1), (.iconst 1, 1), (.iadd, 1), (.iaload, 1), (.invokevirtual 138, 3), (.pop, 1), (.goto 190, 3)] := okL_of (t := code.data.toList.drop 971) rfl (by decide +kernel)
  obtain ⟨d0, d1, d2, d3, d4, d5, d6, d7, d8, d9, d10, d11, d12, d13, d14, d15, d16, -⟩ := D
  refine lj_x d0 ?_
  refine lj_arg 1 (by omega) d1 d2 d3 d4 d5 ?_
  refine lj_call (Y := M_X_height) (idx := 135) (r := 78) (bs := [.int (zI (xs (n + 1)).toInt)]) (rest := []) ok_X_height rfl (hc_ (i := 148) rfl rfl) (hc_ (i := 149) rfl rfl) (hc_ (i := 150) rfl rfl) (Nat.le_of_ble_eq_true rfl) hx (Nat.le_of_ble_eq_true rfl) (pr_height (inI_x _) S) d6 (fun v h1 P1 => ?_)
  obtain ⟨z, rfl, ⟨fm, hm⟩, C2⟩ := P1
  refine lj_st (st' := [.int z]) rfl ?_
  refine lj_pop d7 ?_
  refine lj_m d8 ?_
  refine lj_arg 1 (by omega) d9 d10 d11 d12 d13 ?_
  refine lj_call (Y := M_M_height) (idx := 138) (r := 90) (bs := [.int (zI (xs (n + 1)).toInt)]) (rest := []) ok_M_height rfl (hf_ (i := 171) rfl rfl) (hf_ (i := 172) rfl rfl) (hf_ (i := 173) rfl rfl) (Nat.le_of_ble_eq_true rfl) hm (Nat.le_of_ble_eq_true rfl) C2 d14 (fun v' h2 P2 => ?_)
  obtain ⟨z', rfl, hz, S2⟩ := P2
  refine lj_st (st' := .int z' :: []) rfl ?_
  refine lj_pop d15 ?_
  refine lj_go (off := 190) (tgt := 1181) d16 rfl ?_
  exact ih _ S2
theorem lc_30 (hn : n + 5 ≤ L) (S : PS (n = 0) h) (ih : ∀ h', PS False h' → LJ F σ n 1181 [] h') : LJ F σ n 994 [] h := by
  have hL := F.2.2.2.1
  obtain ⟨fx, hx⟩ := S.c78
  have D : okL code 994 [(.aload_n 1, 1), (.aload_n 0, 1), (.iload_n 3, 1), (.iconst 1, 1), (.iadd, 1), (.iaload, 1), (.invokevirtual 139, 3), (.pop, 1), (.aload_n 2, 1), (.aload_n 0, 1), (.iload_n 3, 1), (.iconst 1, 1), (.iadd, 1), (.iaload, 1), (.invokevirtual 142, 3), (.pop, 1), (.goto 167, 3)] := okL_of (t := code.data.toList.drop 994) rfl (by decide +kernel)
  obtain ⟨d0, d1, d2, d3, d4, d5, d6, d7, d8, d9, d10, d11, d12, d13, d14, d15, d16, -⟩ := D
  refine lj_x d0 ?_
  refine lj_arg 1 (by omega) d1 d2 d3 d4 d5 ?_
  refine lj_call (Y := M_X_eased) (idx := 139) (r := 78) (bs := [.int (zI (xs (n + 1)).toInt)]) (rest := []) ok_X_eased rfl (hc_ (i := 163) rfl rfl) (hc_ (i := 164) rfl rfl) (hc_ (i := 165) rfl rfl) (Nat.le_of_ble_eq_true rfl) hx (Nat.le_of_ble_eq_true rfl) (pr_eased (inI_x _) S) d6 (fun v h1 P1 => ?_)
  obtain ⟨z, rfl, ⟨fm, hm⟩, C2⟩ := P1
  refine lj_st (st' := [.int z]) rfl ?_
  refine lj_pop d7 ?_
  refine lj_m d8 ?_
  refine lj_arg 1 (by omega) d9 d10 d11 d12 d13 ?_
  refine lj_call (Y := M_M_eased) (idx := 142) (r := 90) (bs := [.int (zI (xs (n + 1)).toInt)]) (rest := []) ok_M_eased rfl (hf_ (i := 183) rfl rfl) (hf_ (i := 184) rfl rfl) (hf_ (i := 185) rfl rfl) (Nat.le_of_ble_eq_true rfl) hm (Nat.le_of_ble_eq_true rfl) C2 d14 (fun v' h2 P2 => ?_)
  obtain ⟨z', rfl, hz, S2⟩ := P2
  refine lj_st (st' := .int z' :: []) rfl ?_
  refine lj_pop d15 ?_
  refine lj_go (off := 167) (tgt := 1181) d16 rfl ?_
  exact ih _ S2
theorem lc_31 (hn : n + 5 ≤ L) (S : PS (n = 0) h) (ih : ∀ h', PS False h' → LJ F σ n 1181 [] h') : LJ F σ n 1017 [] h := by
  have hL := F.2.2.2.1
  obtain ⟨fx, hx⟩ := S.c78
  have D : okL code 1017 [(.aload_n 1, 1), (.aload_n 0, 1), (.iload_n 3, 1), (.iconst 1, 1), (.iadd, 1), (.iaload, 1), (.invokevirtual 143, 3), (.pop, 1), (.aload_n 2, 1), (.aload_n 0, 1), (.iload_n 3, 1), (.iconst 1, 1), (.iadd, 1), (.iaload, 1), (.invokevirtual 146, 3), (.pop, 1), (.goto 144, 3)] := okL_of (t := code.data.toList.drop 1017) rfl (by decide +kernel)
  obtain ⟨d0, d1, d2, d3, d4, d5, d6, d7, d8, d9, d10, d11, d12, d13, d14, d15, d16, -⟩ := D
  refine lj_x d0 ?_
  refine lj_arg 1 (by omega) d1 d2 d3 d4 d5 ?_
  refine lj_call (Y := M_X_shoulders) (idx := 143) (r := 78) (bs := [.int (zI (xs (n + 1)).toInt)]) (rest := []) ok_X_shoulders rfl (hc_ (i := 171) rfl rfl) (hc_ (i := 172) rfl rfl) (hc_ (i := 173) rfl rfl) (Nat.le_of_ble_eq_true rfl) hx (Nat.le_of_ble_eq_true rfl) (pr_shoulders (inI_x _) S) d6 (fun v h1 P1 => ?_)
  obtain ⟨z, rfl, ⟨fm, hm⟩, C2⟩ := P1
  refine lj_st (st' := [.int z]) rfl ?_
  refine lj_pop d7 ?_
  refine lj_m d8 ?_
  refine lj_arg 1 (by omega) d9 d10 d11 d12 d13 ?_
  refine lj_call (Y := M_M_shoulders) (idx := 146) (r := 90) (bs := [.int (zI (xs (n + 1)).toInt)]) (rest := []) ok_M_shoulders rfl (hf_ (i := 187) rfl rfl) (hf_ (i := 188) rfl rfl) (hf_ (i := 189) rfl rfl) (Nat.le_of_ble_eq_true rfl) hm (Nat.le_of_ble_eq_true rfl) C2 d14 (fun v' h2 P2 => ?_)
  obtain ⟨z', rfl, hz, S2⟩ := P2
  refine lj_st (st' := .int z' :: []) rfl ?_
  refine lj_pop d15 ?_
  refine lj_go (off := 144) (tgt := 1181) d16 rfl ?_
  exact ih _ S2
theorem lc_32 (hn : n + 5 ≤ L) (S : PS (n = 0) h) (ih : ∀ h', PS False h' → LJ F σ n 1181 [] h') : LJ F σ n 1040 [] h := by
  have hL := F.2.2.2.1
  obtain ⟨fx, hx⟩ := S.c78
  have D : okL code 1040 [(.aload_n 1, 1), (.aload_n 0, 1), (.iload_n 3, 1), (.iconst 1, 1), (.iadd, 1), (.iaload, 1), (.invokevirtual 147, 3), (.pop, 1), (.aload_n 2, 1), (.aload_n 0, 1), (.iload_n 3, 1), (.iconst 1, 1), (.iadd, 1), (.iaload, 1), (.invokevirtual 150, 3), (.pop, 1), (.goto 121, 3)] := okL_of (t := code.data.toList.drop 1040) rfl (by decide +kernel)
  obtain ⟨d0, d1, d2, d3, d4, d5, d6, d7, d8, d9, d10, d11, d12, d13, d14, d15, d16, -⟩ := D
  refine lj_x d0 ?_
  refine lj_arg 1 (by omega) d1 d2 d3 d4 d5 ?_
  refine lj_call (Y := M_X_row) (idx := 147) (r := 78) (bs := [.int (zI (xs (n + 1)).toInt)]) (rest := []) ok_X_row rfl (hc_ (i := 179) rfl rfl) (hc_ (i := 180) rfl rfl) (hc_ (i := 181) rfl rfl) (Nat.le_of_ble_eq_true rfl) hx (Nat.le_of_ble_eq_true rfl) (pr_row (inI_x _) S) d6 (fun v h1 P1 => ?_)
  obtain ⟨z, rfl, ⟨fm, hm⟩, C2⟩ := P1
  refine lj_st (st' := [.int z]) rfl ?_
  refine lj_pop d7 ?_
  refine lj_m d8 ?_
  refine lj_arg 1 (by omega) d9 d10 d11 d12 d13 ?_
  refine lj_call (Y := M_M_row) (idx := 150) (r := 90) (bs := [.int (zI (xs (n + 1)).toInt)]) (rest := []) ok_M_row rfl (hf_ (i := 191) rfl rfl) (hf_ (i := 192) rfl rfl) (hf_ (i := 193) rfl rfl) (Nat.le_of_ble_eq_true rfl) hm (Nat.le_of_ble_eq_true rfl) C2 d14 (fun v' h2 P2 => ?_)
  obtain ⟨z', rfl, hz, S2⟩ := P2
  refine lj_st (st' := .int z' :: []) rfl ?_
  refine lj_pop d15 ?_
  refine lj_go (off := 121) (tgt := 1181) d16 rfl ?_
  exact ih _ S2
theorem lc_33 (hn : n + 5 ≤ L) (S : PS (n = 0) h) (ih : ∀ h', PS False h' → LJ F σ n 1181 [] h') : LJ F σ n 1063 [] h := by
  have hL := F.2.2.2.1
  obtain ⟨fx, hx⟩ := S.c78
  have D : okL code 1063 [(.aload_n 1, 1), (.invokevirtual 151, 3), (.pop, 1), (.aload_n 2, 1), (.invokevirtual 154, 3), (.pop, 1), (.goto 108, 3)] := okL_of (t := code.data.toList.drop 1063) rfl (by decide +kernel)
  obtain ⟨d0, d1, d2, d3, d4, d5, d6, -⟩ := D
  refine lj_x d0 ?_
  refine lj_call (Y := M_X_judge) (idx := 151) (r := 78) (bs := []) (rest := []) ok_X_judge rfl (hc_ (i := 191) rfl rfl) (hc_ (i := 192) rfl rfl) (hc_ (i := 193) rfl rfl) (Nat.le_of_ble_eq_true rfl) hx (Nat.le_of_ble_eq_true rfl) (pr_judge  S) d1 (fun v h1 P1 => ?_)
  obtain ⟨z, rfl, ⟨fm, hm⟩, C2⟩ := P1
  refine lj_st (st' := [.int z]) rfl ?_
  refine lj_pop d2 ?_
  refine lj_m d3 ?_
  refine lj_call (Y := M_M_judge) (idx := 154) (r := 90) (bs := []) (rest := []) ok_M_judge rfl (hf_ (i := 195) rfl rfl) (hf_ (i := 196) rfl rfl) (hf_ (i := 197) rfl rfl) (Nat.le_of_ble_eq_true rfl) hm (Nat.le_of_ble_eq_true rfl) C2 d4 (fun v' h2 P2 => ?_)
  obtain ⟨z', rfl, hz, S2⟩ := P2
  refine lj_st (st' := .int z' :: []) rfl ?_
  refine lj_pop d5 ?_
  refine lj_go (off := 108) (tgt := 1181) d6 rfl ?_
  exact ih _ S2
theorem lc_34 (hn : n + 5 ≤ L) (S : PS (n = 0) h) (ih : ∀ h', PS False h' → LJ F σ n 1181 [] h') : LJ F σ n 1076 [] h := by
  have hL := F.2.2.2.1
  obtain ⟨fx, hx⟩ := S.c78
  have D : okL code 1076 [(.aload_n 1, 1), (.invokevirtual 155, 3), (.pop, 1), (.aload_n 2, 1), (.invokevirtual 158, 3), (.pop, 1), (.goto 95, 3)] := okL_of (t := code.data.toList.drop 1076) rfl (by decide +kernel)
  obtain ⟨d0, d1, d2, d3, d4, d5, d6, -⟩ := D
  refine lj_x d0 ?_
  refine lj_call (Y := M_X_clear) (idx := 155) (r := 78) (bs := []) (rest := []) ok_X_clear rfl (hc_ (i := 200) rfl rfl) (hc_ (i := 201) rfl rfl) (hc_ (i := 202) rfl rfl) (Nat.le_of_ble_eq_true rfl) hx (Nat.le_of_ble_eq_true rfl) (pr_clear  S) d1 (fun v h1 P1 => ?_)
  obtain ⟨z, rfl, ⟨fm, hm⟩, C2⟩ := P1
  refine lj_st (st' := [.int z]) rfl ?_
  refine lj_pop d2 ?_
  refine lj_m d3 ?_
  refine lj_call (Y := M_M_clear) (idx := 158) (r := 90) (bs := []) (rest := []) ok_M_clear rfl (hf_ (i := 199) rfl rfl) (hf_ (i := 200) rfl rfl) (hf_ (i := 201) rfl rfl) (Nat.le_of_ble_eq_true rfl) hm (Nat.le_of_ble_eq_true rfl) C2 d4 (fun v' h2 P2 => ?_)
  obtain ⟨z', rfl, hz, S2⟩ := P2
  refine lj_st (st' := .int z' :: []) rfl ?_
  refine lj_pop d5 ?_
  refine lj_go (off := 95) (tgt := 1181) d6 rfl ?_
  exact ih _ S2
theorem lc_35 (hn : n + 5 ≤ L) (S : PS (n = 0) h) (ih : ∀ h', PS False h' → LJ F σ n 1181 [] h') : LJ F σ n 1089 [] h := by
  have hL := F.2.2.2.1
  obtain ⟨fx, hx⟩ := S.c78
  have D : okL code 1089 [(.aload_n 1, 1), (.aload_n 0, 1), (.iload_n 3, 1), (.iconst 1, 1), (.iadd, 1), (.iaload, 1), (.aload_n 0, 1), (.iload_n 3, 1), (.iconst 2, 1), (.iadd, 1), (.iaload, 1), (.aload_n 0, 1), (.iload_n 3, 1), (.iconst 3, 1), (.iadd, 1), (.iaload, 1), (.invokevirtual 159, 3), (.pop, 1), (.aload_n 2, 1), (.aload_n 0, 1), (.iload_n 3, 1), (.iconst 1, 1), (.iadd, 1), (.iaload, 1), (.aload_n 0, 1), (.iload_n 3, 1), (.iconst 2, 1), (.iadd, 1), (.iaload, 1), (.aload_n 0, 1), (.iload_n 3, 1), (.iconst 3, 1), (.iadd, 1), (.iaload, 1), (.invokevirtual 162, 3), (.pop, 1), (.goto 52, 3)] := okL_of (t := code.data.toList.drop 1089) rfl (by decide +kernel)
  obtain ⟨d0, d1, d2, d3, d4, d5, d6, d7, d8, d9, d10, d11, d12, d13, d14, d15, d16, d17, d18, d19, d20, d21, d22, d23, d24, d25, d26, d27, d28, d29, d30, d31, d32, d33, d34, d35, d36, -⟩ := D
  refine lj_x d0 ?_
  refine lj_arg 1 (by omega) d1 d2 d3 d4 d5 ?_
  refine lj_arg 2 (by omega) d6 d7 d8 d9 d10 ?_
  refine lj_arg 3 (by omega) d11 d12 d13 d14 d15 ?_
  refine lj_call (Y := M_X_lots) (idx := 159) (r := 78) (bs := [.int (zI (xs (n + 1)).toInt), .int (zI (xs (n + 2)).toInt), .int (zI (xs (n + 3)).toInt)]) (rest := []) ok_X_lots rfl (hc_ (i := 204) rfl rfl) (hc_ (i := 205) rfl rfl) (hc_ (i := 206) rfl rfl) (Nat.le_of_ble_eq_true rfl) hx (Nat.le_of_ble_eq_true rfl) (pr_lots (inI_x _) (inI_x _) (inI_x _) S) d16 (fun v h1 P1 => ?_)
  obtain ⟨z, rfl, ⟨fm, hm⟩, C2⟩ := P1
  refine lj_st (st' := [.int z]) rfl ?_
  refine lj_pop d17 ?_
  refine lj_m d18 ?_
  refine lj_arg 1 (by omega) d19 d20 d21 d22 d23 ?_
  refine lj_arg 2 (by omega) d24 d25 d26 d27 d28 ?_
  refine lj_arg 3 (by omega) d29 d30 d31 d32 d33 ?_
  refine lj_call (Y := M_M_lots) (idx := 162) (r := 90) (bs := [.int (zI (xs (n + 1)).toInt), .int (zI (xs (n + 2)).toInt), .int (zI (xs (n + 3)).toInt)]) (rest := []) ok_M_lots rfl (hf_ (i := 203) rfl rfl) (hf_ (i := 204) rfl rfl) (hf_ (i := 205) rfl rfl) (Nat.le_of_ble_eq_true rfl) hm (Nat.le_of_ble_eq_true rfl) C2 d34 (fun v' h2 P2 => ?_)
  obtain ⟨z', rfl, hz, S2⟩ := P2
  refine lj_st (st' := .int z' :: []) rfl ?_
  refine lj_pop d35 ?_
  refine lj_go (off := 52) (tgt := 1181) d36 rfl ?_
  exact ih _ S2
theorem lc_36 (hn : n + 5 ≤ L) (S : PS (n = 0) h) (ih : ∀ h', PS False h' → LJ F σ n 1181 [] h') : LJ F σ n 1132 [] h := by
  have hL := F.2.2.2.1
  obtain ⟨fx, hx⟩ := S.c78
  have D : okL code 1132 [(.aload_n 1, 1), (.invokevirtual 163, 3), (.pop, 1), (.aload_n 2, 1), (.invokevirtual 166, 3), (.pop, 1), (.goto 39, 3)] := okL_of (t := code.data.toList.drop 1132) rfl (by decide +kernel)
  obtain ⟨d0, d1, d2, d3, d4, d5, d6, -⟩ := D
  refine lj_x d0 ?_
  refine lj_call (Y := M_X_image) (idx := 163) (r := 78) (bs := []) (rest := []) ok_X_image rfl (hc_ (i := 222) rfl rfl) (hc_ (i := 223) rfl rfl) (hc_ (i := 224) rfl rfl) (Nat.le_of_ble_eq_true rfl) hx (Nat.le_of_ble_eq_true rfl) (pr_image  S) d1 (fun v h1 P1 => ?_)
  obtain ⟨z, rfl, ⟨fm, hm⟩, C2⟩ := P1
  refine lj_st (st' := [.int z]) rfl ?_
  refine lj_pop d2 ?_
  refine lj_m d3 ?_
  refine lj_call (Y := M_M_image) (idx := 166) (r := 90) (bs := []) (rest := []) ok_M_image rfl (hg_ (i := 219) rfl rfl) (hg_ (i := 220) rfl rfl) (hg_ (i := 221) rfl rfl) (Nat.le_of_ble_eq_true rfl) hm (Nat.le_of_ble_eq_true rfl) C2 d4 (fun v' h2 P2 => ?_)
  obtain ⟨z', rfl, hz, S2⟩ := P2
  refine lj_st (st' := .int z' :: []) rfl ?_
  refine lj_pop d5 ?_
  refine lj_go (off := 39) (tgt := 1181) d6 rfl ?_
  exact ih _ S2
theorem lc_37 (hn : n + 5 ≤ L) (S : PS (n = 0) h) (ih : ∀ h', PS False h' → LJ F σ n 1181 [] h') : LJ F σ n 1145 [] h := by
  have hL := F.2.2.2.1
  obtain ⟨fx, hx⟩ := S.c78
  have D : okL code 1145 [(.aload_n 1, 1), (.invokevirtual 167, 3), (.pop, 1), (.aload_n 2, 1), (.invokevirtual 170, 3), (.pop, 1), (.goto 26, 3)] := okL_of (t := code.data.toList.drop 1145) rfl (by decide +kernel)
  obtain ⟨d0, d1, d2, d3, d4, d5, d6, -⟩ := D
  refine lj_x d0 ?_
  refine lj_call (Y := M_X_restore) (idx := 167) (r := 78) (bs := []) (rest := []) ok_X_restore rfl (hc_ (i := 226) rfl rfl) (hc_ (i := 227) rfl rfl) (hc_ (i := 228) rfl rfl) (Nat.le_of_ble_eq_true rfl) hx (Nat.le_of_ble_eq_true rfl) (pr_restore  S) d1 (fun v h1 P1 => ?_)
  obtain ⟨z, rfl, ⟨fm, hm⟩, C2⟩ := P1
  refine lj_st (st' := [.int z]) rfl ?_
  refine lj_pop d2 ?_
  refine lj_m d3 ?_
  refine lj_call (Y := M_M_restore) (idx := 170) (r := 90) (bs := []) (rest := []) ok_M_restore rfl (hg_ (i := 223) rfl rfl) (hg_ (i := 224) rfl rfl) (hg_ (i := 225) rfl rfl) (Nat.le_of_ble_eq_true rfl) hm (Nat.le_of_ble_eq_true rfl) C2 d4 (fun v' h2 P2 => ?_)
  obtain ⟨z', rfl, hz, S2⟩ := P2
  refine lj_st (st' := .int z' :: []) rfl ?_
  refine lj_pop d5 ?_
  refine lj_go (off := 26) (tgt := 1181) d6 rfl ?_
  exact ih _ S2
theorem lc_38 (hn : n + 5 ≤ L) (S : PS (n = 0) h) (ih : ∀ h', PS False h' → LJ F σ n 1181 [] h') : LJ F σ n 1158 [] h := by
  have hL := F.2.2.2.1
  obtain ⟨fx, hx⟩ := S.c78
  have D : okL code 1158 [(.aload_n 1, 1), (.aload_n 0, 1), (.iload_n 3, 1), (.iconst 1, 1), (.iadd, 1), (.iaload, 1), (.invokevirtual 171, 3), (.aload_n 2, 1), (.aload_n 0, 1), (.iload_n 3, 1), (.iconst 1, 1), (.iadd, 1), (.iaload, 1), (.invokevirtual 174, 3), (.if_icmp .eq 5, 3)] := okL_of (t := code.data.toList.drop 1158) rfl (by decide +kernel)
  obtain ⟨d0, d1, d2, d3, d4, d5, d6, d7, d8, d9, d10, d11, d12, d13, d14, -⟩ := D
  refine lj_x d0 ?_
  refine lj_arg 1 (by omega) d1 d2 d3 d4 d5 ?_
  refine lj_call (Y := M_X_count) (idx := 171) (r := 78) (bs := [.int (zI (xs (n + 1)).toInt)]) (rest := []) ok_X_count rfl (hc_ (i := 230) rfl rfl) (hc_ (i := 231) rfl rfl) (hc_ (i := 232) rfl rfl) (Nat.le_of_ble_eq_true rfl) hx (Nat.le_of_ble_eq_true rfl) (pr_count (inI_x _) S) d6 (fun v h1 P1 => ?_)
  obtain ⟨z, rfl, ⟨fm, hm⟩, C2⟩ := P1
  refine lj_st (st' := [.int z]) rfl ?_
  refine lj_m d7 ?_
  refine lj_arg 1 (by omega) d8 d9 d10 d11 d12 ?_
  refine lj_call (Y := M_M_count) (idx := 174) (r := 90) (bs := [.int (zI (xs (n + 1)).toInt)]) (rest := [.int z]) ok_M_count rfl (hf_ (i := 214) rfl rfl) (hf_ (i := 215) rfl rfl) (hf_ (i := 216) rfl rfl) (Nat.le_of_ble_eq_true rfl) hm (Nat.le_of_ble_eq_true rfl) C2 d13 (fun v' h2 P2 => ?_)
  obtain ⟨z', rfl, hz, S2⟩ := P2
  refine lj_st (st' := .int z' :: [.int z]) rfl ?_
  refine lj_eqI (off := 5) (tgt := 1181) d14 rfl (hz trivial) ?_
  exact ih _ S2
theorem law_loop (k : Nat) : ∀ n : Nat, L + 10 ≤ n + 5 * k → n ≤ L + 5 → ∀ h, PS (n = 0) h → LJ F σ n 18 [] h := by
  have hL := F.2.2.2.1
  have hN := NN_le
  induction k with
  | zero => intro n h1 h2; omega
  | succ k ih =>
    intro n h1 h2 h S
    refine lj_head (off := 1164) (tgt := 1187) (by omega) (by decide +kernel) (by decide +kernel) (by decide +kernel) (by decide +kernel) (by decide +kernel) (by decide +kernel) rfl (fun _ => lj_ret (by decide +kernel) (by decide +kernel)) (fun hn => ?_)
    refine lj_key (by omega) (by decide +kernel) (by decide +kernel) (by decide +kernel) (by decide +kernel) (by decide +kernel) (fun x => ?_)
    have go : ∀ h', PS False h' → LJ F σ n 1181 [] h' := fun h' S' => lj_end (off := -1166) (tgt := 18) (by decide +kernel) (by decide +kernel) rfl (ih (n + 5) (by omega) (by omega) h' (S'.any (by omega)))
    have go2 : LJ F σ n 1181 [] h := by
      obtain ⟨R, I, im, P, pz, lt, lsz, tn, tsz, rf, WX, WM, hR, hI, hP, him, hL, hT, _⟩ := S
      exact go h ⟨R, I, im, P, pz, lt, lsz, tn, tsz, rf, WX, WM, hR, hI, hP, him, hL, hT, fun q => absurd q id⟩
    refine lj_table (d := 1149) (offs := #[172, 195, 208, 241, 264, 297, 320, 353, 376, 399, 422, 435, 468, 501, 524, 547, 570, 593, 616, 639, 672, 695, 708, 741, 784, 837, 870, 893, 916, 939, 962, 985, 1008, 1031, 1044, 1057, 1100, 1113, 1126]) (len := 172) (tg := 1181) (T := [204, 227, 240, 273, 296, 329, 352, 385, 408, 431, 454, 467, 500, 533, 556, 579, 602, 625, 648, 671, 704, 727, 740, 773, 816, 869, 902, 925, 948, 971, 994, 1017, 1040, 1063, 1076, 1089, 1132, 1145, 1158]) (by decide +kernel) (by decide +kernel) rfl go2 ?_
    exact all39 (P := fun t => LJ F σ n ([204, 227, 240, 273, 296, 329, 352, 385, 408, 431, 454, 467, 500, 533, 556, 579, 602, 625, 648, 671, 704, 727, 740, 773, 816, 869, 902, 925, 948, 971, 994, 1017, 1040, 1063, 1076, 1089, 1132, 1145, 1158].getD t 0) [] h) (lc_0 hn S go) (lc_1 hn S go) (lc_2 hn S go) (lc_3 hn S go) (lc_4 hn S go) (lc_5 hn S go) (lc_6 hn S go) (lc_7 hn S go) (lc_8 hn S go) (lc_9 hn S go) (lc_10 hn S go) (lc_11 hn S go) (lc_12 hn S go) (lc_13 hn S go) (lc_14 hn S go) (lc_15 hn S go) (lc_16 hn S go) (lc_17 hn S go) (lc_18 hn S go) (lc_19 hn S go) (lc_20 hn S go) (lc_21 hn S go) (lc_22 hn S go) (lc_23 hn S go) (lc_24 hn S go) (lc_25 hn S go) (lc_26 hn S go) (lc_27 hn S go) (lc_28 hn S go) (lc_29 hn S go) (lc_30 hn S go) (lc_31 hn S go) (lc_32 hn S go) (lc_33 hn S go) (lc_34 hn S go) (lc_35 hn S go) (lc_36 hn S go) (lc_37 hn S go) (lc_38 hn S go)
end LAWC
