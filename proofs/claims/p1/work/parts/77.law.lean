section LAWC
variable {p : Program} {l : Launch} {e : Env} {s : State} {m : MethodId} {below : List Frame} {meth : Method} {c : Code} {b L : Nat} {xs : Nat → Int32} {G : va_G} {cI cR : ClassId} {σ : Nat → Nat} {F : LF p l e s m below meth c b L xs G cI cR} {n : Nat} {h : AH}
theorem lc_0 (hn : n + 5 ≤ L) (S : PS (n = 0) h) (ih : ∀ h', PS False h' → LJ F σ n 1183 [] h') : LJ F σ n 204 [] h := by
  have hL := F.2.2.2.1
  obtain ⟨fx, hx⟩ := S.c78
  refine lj_x (by decide +kernel) ?_
  refine lj_arg 1 (by omega) (by decide +kernel) (by decide +kernel) (by decide +kernel) (by decide +kernel) (by decide +kernel) ?_
  refine lj_call (Y := M_X_feed) (idx := 13) (r := 78) (bs := [.int (zI (xs (n + 1)).toInt)]) (rest := []) ok_X_feed rfl (inW0 (i := 177) rfl rfl) (inW0 (i := 178) rfl rfl) (inW0 (i := 179) rfl rfl) (Nat.le_of_ble_eq_true rfl) hx (Nat.le_of_ble_eq_true rfl) (pr_feed (inI_x _) S) (by decide +kernel) (fun v h1 P1 => ?_)
  obtain ⟨z, rfl, ⟨fm, hm⟩, C2⟩ := P1
  refine lj_st (st' := [.int z]) rfl ?_
  refine lj_m (by decide +kernel) ?_
  refine lj_arg 1 (by omega) (by decide +kernel) (by decide +kernel) (by decide +kernel) (by decide +kernel) (by decide +kernel) ?_
  refine lj_call (Y := M_M_feed) (idx := 17) (r := 90) (bs := [.int (zI (xs (n + 1)).toInt)]) (rest := [.int z]) ok_M_feed rfl (inW3 (i := 100) rfl rfl) (inW3 (i := 101) rfl rfl) (inW3 (i := 102) rfl rfl) (Nat.le_of_ble_eq_true rfl) hm (Nat.le_of_ble_eq_true rfl) C2 (by decide +kernel) (fun v' h2 P2 => ?_)
  obtain ⟨z', rfl, hz, S2⟩ := P2
  refine lj_st (st' := .int z' :: [.int z]) rfl ?_
  refine lj_eqI (off := 961) (tgt := 1183) (by decide +kernel) rfl (hz trivial) ?_
  exact ih _ S2
theorem lc_1 (hn : n + 5 ≤ L) (S : PS (n = 0) h) (ih : ∀ h', PS False h' → LJ F σ n 1183 [] h') : LJ F σ n 227 [] h := by
  have hL := F.2.2.2.1
  obtain ⟨fx, hx⟩ := S.c78
  refine lj_x (by decide +kernel) ?_
  refine lj_call (Y := M_X_reign) (idx := 18) (r := 78) (bs := []) (rest := []) ok_X_reign rfl (inW0 (i := 193) rfl rfl) (inW0 (i := 194) rfl rfl) (inW0 (i := 195) rfl rfl) (Nat.le_of_ble_eq_true rfl) hx (Nat.le_of_ble_eq_true rfl) (pr_reign  S) (by decide +kernel) (fun v h1 P1 => ?_)
  obtain ⟨z, rfl, ⟨fm, hm⟩, C2⟩ := P1
  refine lj_st (st' := [.int z]) rfl ?_
  refine lj_m (by decide +kernel) ?_
  refine lj_call (Y := M_M_reign) (idx := 22) (r := 90) (bs := []) (rest := [.int z]) ok_M_reign rfl (inW3 (i := 108) rfl rfl) (inW3 (i := 109) rfl rfl) (inW3 (i := 110) rfl rfl) (Nat.le_of_ble_eq_true rfl) hm (Nat.le_of_ble_eq_true rfl) C2 (by decide +kernel) (fun v' h2 P2 => ?_)
  obtain ⟨z', rfl, hz, S2⟩ := P2
  refine lj_st (st' := .int z' :: [.int z]) rfl ?_
  refine lj_eqI (off := 948) (tgt := 1183) (by decide +kernel) rfl (hz trivial) ?_
  exact ih _ S2
theorem lc_2 (hn : n + 5 ≤ L) (S : PS (n = 0) h) (ih : ∀ h', PS False h' → LJ F σ n 1183 [] h') : LJ F σ n 240 [] h := by
  have hL := F.2.2.2.1
  obtain ⟨fx, hx⟩ := S.c78
  refine lj_x (by decide +kernel) ?_
  refine lj_arg 1 (by omega) (by decide +kernel) (by decide +kernel) (by decide +kernel) (by decide +kernel) (by decide +kernel) ?_
  refine lj_arg 2 (by omega) (by decide +kernel) (by decide +kernel) (by decide +kernel) (by decide +kernel) (by decide +kernel) ?_
  refine lj_call (Y := M_X_manOf) (idx := 23) (r := 78) (bs := [.int (zI (xs (n + 1)).toInt), .int (zI (xs (n + 2)).toInt)]) (rest := []) ok_X_manOf rfl (inW1 (i := 89) rfl rfl) (inW1 (i := 90) rfl rfl) (inW1 (i := 91) rfl rfl) (Nat.le_of_ble_eq_true rfl) hx (Nat.le_of_ble_eq_true rfl) (pr_manOf (inI_x _) (inI_x _) S) (by decide +kernel) (fun v h1 P1 => ?_)
  obtain ⟨z, rfl, ⟨fm, hm⟩, C2⟩ := P1
  refine lj_st (st' := [.int z]) rfl ?_
  refine lj_m (by decide +kernel) ?_
  refine lj_arg 1 (by omega) (by decide +kernel) (by decide +kernel) (by decide +kernel) (by decide +kernel) (by decide +kernel) ?_
  refine lj_arg 2 (by omega) (by decide +kernel) (by decide +kernel) (by decide +kernel) (by decide +kernel) (by decide +kernel) ?_
  refine lj_call (Y := M_M_manOf) (idx := 27) (r := 90) (bs := [.int (zI (xs (n + 1)).toInt), .int (zI (xs (n + 2)).toInt)]) (rest := [.int z]) ok_M_manOf rfl (inW3 (i := 231) rfl rfl) (inW3 (i := 232) rfl rfl) (inW3 (i := 233) rfl rfl) (Nat.le_of_ble_eq_true rfl) hm (Nat.le_of_ble_eq_true rfl) C2 (by decide +kernel) (fun v' h2 P2 => ?_)
  obtain ⟨z', rfl, hz, S2⟩ := P2
  refine lj_st (st' := .int z' :: [.int z]) rfl ?_
  refine lj_eqI (off := 915) (tgt := 1183) (by decide +kernel) rfl (hz trivial) ?_
  exact ih _ S2
theorem lc_3 (hn : n + 5 ≤ L) (S : PS (n = 0) h) (ih : ∀ h', PS False h' → LJ F σ n 1183 [] h') : LJ F σ n 273 [] h := by
  have hL := F.2.2.2.1
  obtain ⟨fx, hx⟩ := S.c78
  refine lj_x (by decide +kernel) ?_
  refine lj_arg 1 (by omega) (by decide +kernel) (by decide +kernel) (by decide +kernel) (by decide +kernel) (by decide +kernel) ?_
  refine lj_call (Y := M_X_slope) (idx := 28) (r := 78) (bs := [.int (zI (xs (n + 1)).toInt)]) (rest := []) ok_X_slope rfl (inW1 (i := 112) rfl rfl) (inW1 (i := 113) rfl rfl) (inW1 (i := 114) rfl rfl) (Nat.le_of_ble_eq_true rfl) hx (Nat.le_of_ble_eq_true rfl) (pr_slope (inI_x _) S) (by decide +kernel) (fun v h1 P1 => ?_)
  obtain ⟨z, rfl, ⟨fm, hm⟩, C2⟩ := P1
  refine lj_st (st' := [.int z]) rfl ?_
  refine lj_m (by decide +kernel) ?_
  refine lj_arg 1 (by omega) (by decide +kernel) (by decide +kernel) (by decide +kernel) (by decide +kernel) (by decide +kernel) ?_
  refine lj_call (Y := M_M_slope) (idx := 31) (r := 90) (bs := [.int (zI (xs (n + 1)).toInt)]) (rest := [.int z]) ok_M_slope rfl (inW3 (i := 236) rfl rfl) (inW3 (i := 237) rfl rfl) (inW3 (i := 238) rfl rfl) (Nat.le_of_ble_eq_true rfl) hm (Nat.le_of_ble_eq_true rfl) C2 (by decide +kernel) (fun v' h2 P2 => ?_)
  obtain ⟨z', rfl, hz, S2⟩ := P2
  refine lj_st (st' := .int z' :: [.int z]) rfl ?_
  refine lj_eqI (off := 892) (tgt := 1183) (by decide +kernel) rfl (hz trivial) ?_
  exact ih _ S2
theorem lc_4 (hn : n + 5 ≤ L) (S : PS (n = 0) h) (ih : ∀ h', PS False h' → LJ F σ n 1183 [] h') : LJ F σ n 296 [] h := by
  have hL := F.2.2.2.1
  obtain ⟨fx, hx⟩ := S.c78
  refine lj_x (by decide +kernel) ?_
  refine lj_arg 1 (by omega) (by decide +kernel) (by decide +kernel) (by decide +kernel) (by decide +kernel) (by decide +kernel) ?_
  refine lj_arg 2 (by omega) (by decide +kernel) (by decide +kernel) (by decide +kernel) (by decide +kernel) (by decide +kernel) ?_
  refine lj_call (Y := M_X_man) (idx := 32) (r := 78) (bs := [.int (zI (xs (n + 1)).toInt), .int (zI (xs (n + 2)).toInt)]) (rest := []) ok_X_man rfl (inW1 (i := 118) rfl rfl) (inW1 (i := 119) rfl rfl) (inW1 (i := 120) rfl rfl) (Nat.le_of_ble_eq_true rfl) hx (Nat.le_of_ble_eq_true rfl) (pr_man (inI_x _) (inI_x _) S) (by decide +kernel) (fun v h1 P1 => ?_)
  obtain ⟨z, rfl, ⟨fm, hm⟩, C2⟩ := P1
  refine lj_st (st' := [.int z]) rfl ?_
  refine lj_m (by decide +kernel) ?_
  refine lj_arg 1 (by omega) (by decide +kernel) (by decide +kernel) (by decide +kernel) (by decide +kernel) (by decide +kernel) ?_
  refine lj_arg 2 (by omega) (by decide +kernel) (by decide +kernel) (by decide +kernel) (by decide +kernel) (by decide +kernel) ?_
  refine lj_call (Y := M_M_man) (idx := 35) (r := 90) (bs := [.int (zI (xs (n + 1)).toInt), .int (zI (xs (n + 2)).toInt)]) (rest := [.int z]) ok_M_man rfl (inW4 (i := 1) rfl rfl) (inW4 (i := 2) rfl rfl) (inW4 (i := 3) rfl rfl) (Nat.le_of_ble_eq_true rfl) hm (Nat.le_of_ble_eq_true rfl) C2 (by decide +kernel) (fun v' h2 P2 => ?_)
  obtain ⟨z', rfl, hz, S2⟩ := P2
  refine lj_st (st' := .int z' :: [.int z]) rfl ?_
  refine lj_eqI (off := 859) (tgt := 1183) (by decide +kernel) rfl (hz trivial) ?_
  exact ih _ S2
theorem lc_5 (hn : n + 5 ≤ L) (S : PS (n = 0) h) (ih : ∀ h', PS False h' → LJ F σ n 1183 [] h') : LJ F σ n 329 [] h := by
  have hL := F.2.2.2.1
  obtain ⟨fx, hx⟩ := S.c78
  refine lj_x (by decide +kernel) ?_
  refine lj_arg 1 (by omega) (by decide +kernel) (by decide +kernel) (by decide +kernel) (by decide +kernel) (by decide +kernel) ?_
  refine lj_call (Y := M_X_pardons) (idx := 36) (r := 78) (bs := [.int (zI (xs (n + 1)).toInt)]) (rest := []) ok_X_pardons rfl (inW1 (i := 123) rfl rfl) (inW1 (i := 124) rfl rfl) (inW1 (i := 125) rfl rfl) (Nat.le_of_ble_eq_true rfl) hx (Nat.le_of_ble_eq_true rfl) (pr_pardons (inI_x _) S) (by decide +kernel) (fun v h1 P1 => ?_)
  obtain ⟨z, rfl, ⟨fm, hm⟩, C2⟩ := P1
  refine lj_st (st' := [.int z]) rfl ?_
  refine lj_m (by decide +kernel) ?_
  refine lj_arg 1 (by omega) (by decide +kernel) (by decide +kernel) (by decide +kernel) (by decide +kernel) (by decide +kernel) ?_
  refine lj_call (Y := M_M_pardons) (idx := 39) (r := 90) (bs := [.int (zI (xs (n + 1)).toInt)]) (rest := [.int z]) ok_M_pardons rfl (inW4 (i := 8) rfl rfl) (inW4 (i := 9) rfl rfl) (inW4 (i := 10) rfl rfl) (Nat.le_of_ble_eq_true rfl) hm (Nat.le_of_ble_eq_true rfl) C2 (by decide +kernel) (fun v' h2 P2 => ?_)
  obtain ⟨z', rfl, hz, S2⟩ := P2
  refine lj_st (st' := .int z' :: [.int z]) rfl ?_
  refine lj_eqI (off := 836) (tgt := 1183) (by decide +kernel) rfl (hz trivial) ?_
  exact ih _ S2
theorem lc_6 (hn : n + 5 ≤ L) (S : PS (n = 0) h) (ih : ∀ h', PS False h' → LJ F σ n 1183 [] h') : LJ F σ n 352 [] h := by
  have hL := F.2.2.2.1
  obtain ⟨fx, hx⟩ := S.c78
  refine lj_x (by decide +kernel) ?_
  refine lj_arg 1 (by omega) (by decide +kernel) (by decide +kernel) (by decide +kernel) (by decide +kernel) (by decide +kernel) ?_
  refine lj_arg 2 (by omega) (by decide +kernel) (by decide +kernel) (by decide +kernel) (by decide +kernel) (by decide +kernel) ?_
  refine lj_call (Y := M_X_slopes) (idx := 40) (r := 78) (bs := [.int (zI (xs (n + 1)).toInt), .int (zI (xs (n + 2)).toInt)]) (rest := []) ok_X_slopes rfl (inW1 (i := 136) rfl rfl) (inW1 (i := 137) rfl rfl) (inW1 (i := 138) rfl rfl) (Nat.le_of_ble_eq_true rfl) hx (Nat.le_of_ble_eq_true rfl) (pr_slopes (inI_x _) (inI_x _) S) (by decide +kernel) (fun v h1 P1 => ?_)
  obtain ⟨z, rfl, ⟨fm, hm⟩, C2⟩ := P1
  refine lj_st (st' := [.int z]) rfl ?_
  refine lj_m (by decide +kernel) ?_
  refine lj_arg 1 (by omega) (by decide +kernel) (by decide +kernel) (by decide +kernel) (by decide +kernel) (by decide +kernel) ?_
  refine lj_arg 2 (by omega) (by decide +kernel) (by decide +kernel) (by decide +kernel) (by decide +kernel) (by decide +kernel) ?_
  refine lj_call (Y := M_M_slopes) (idx := 43) (r := 90) (bs := [.int (zI (xs (n + 1)).toInt), .int (zI (xs (n + 2)).toInt)]) (rest := [.int z]) ok_M_slopes rfl (inW4 (i := 16) rfl rfl) (inW4 (i := 17) rfl rfl) (inW4 (i := 18) rfl rfl) (Nat.le_of_ble_eq_true rfl) hm (Nat.le_of_ble_eq_true rfl) C2 (by decide +kernel) (fun v' h2 P2 => ?_)
  obtain ⟨z', rfl, hz, S2⟩ := P2
  refine lj_st (st' := .int z' :: [.int z]) rfl ?_
  refine lj_eqI (off := 803) (tgt := 1183) (by decide +kernel) rfl (hz trivial) ?_
  exact ih _ S2
theorem lc_7 (hn : n + 5 ≤ L) (S : PS (n = 0) h) (ih : ∀ h', PS False h' → LJ F σ n 1183 [] h') : LJ F σ n 385 [] h := by
  have hL := F.2.2.2.1
  obtain ⟨fx, hx⟩ := S.c78
  refine lj_x (by decide +kernel) ?_
  refine lj_arg 1 (by omega) (by decide +kernel) (by decide +kernel) (by decide +kernel) (by decide +kernel) (by decide +kernel) ?_
  refine lj_call (Y := M_X_loads) (idx := 44) (r := 78) (bs := [.int (zI (xs (n + 1)).toInt)]) (rest := []) ok_X_loads rfl (inW1 (i := 140) rfl rfl) (inW1 (i := 141) rfl rfl) (inW1 (i := 142) rfl rfl) (Nat.le_of_ble_eq_true rfl) hx (Nat.le_of_ble_eq_true rfl) (pr_loads (inI_x _) S) (by decide +kernel) (fun v h1 P1 => ?_)
  obtain ⟨z, rfl, ⟨fm, hm⟩, C2⟩ := P1
  refine lj_st (st' := [.int z]) rfl ?_
  refine lj_m (by decide +kernel) ?_
  refine lj_arg 1 (by omega) (by decide +kernel) (by decide +kernel) (by decide +kernel) (by decide +kernel) (by decide +kernel) ?_
  refine lj_call (Y := M_M_loads) (idx := 47) (r := 90) (bs := [.int (zI (xs (n + 1)).toInt)]) (rest := [.int z]) ok_M_loads rfl (inW4 (i := 20) rfl rfl) (inW4 (i := 21) rfl rfl) (inW4 (i := 22) rfl rfl) (Nat.le_of_ble_eq_true rfl) hm (Nat.le_of_ble_eq_true rfl) C2 (by decide +kernel) (fun v' h2 P2 => ?_)
  obtain ⟨z', rfl, hz, S2⟩ := P2
  refine lj_st (st' := .int z' :: [.int z]) rfl ?_
  refine lj_eqI (off := 780) (tgt := 1183) (by decide +kernel) rfl (hz trivial) ?_
  exact ih _ S2
theorem lc_8 (hn : n + 5 ≤ L) (S : PS (n = 0) h) (ih : ∀ h', PS False h' → LJ F σ n 1183 [] h') : LJ F σ n 408 [] h := by
  have hL := F.2.2.2.1
  obtain ⟨fx, hx⟩ := S.c78
  refine lj_x (by decide +kernel) ?_
  refine lj_arg 1 (by omega) (by decide +kernel) (by decide +kernel) (by decide +kernel) (by decide +kernel) (by decide +kernel) ?_
  refine lj_call (Y := M_X_snows) (idx := 48) (r := 78) (bs := [.int (zI (xs (n + 1)).toInt)]) (rest := []) ok_X_snows rfl (inW1 (i := 144) rfl rfl) (inW1 (i := 145) rfl rfl) (inW1 (i := 146) rfl rfl) (Nat.le_of_ble_eq_true rfl) hx (Nat.le_of_ble_eq_true rfl) (pr_snows (inI_x _) S) (by decide +kernel) (fun v h1 P1 => ?_)
  obtain ⟨z, rfl, ⟨fm, hm⟩, C2⟩ := P1
  refine lj_st (st' := [.int z]) rfl ?_
  refine lj_m (by decide +kernel) ?_
  refine lj_arg 1 (by omega) (by decide +kernel) (by decide +kernel) (by decide +kernel) (by decide +kernel) (by decide +kernel) ?_
  refine lj_call (Y := M_M_snows) (idx := 51) (r := 90) (bs := [.int (zI (xs (n + 1)).toInt)]) (rest := [.int z]) ok_M_snows rfl (inW4 (i := 24) rfl rfl) (inW4 (i := 25) rfl rfl) (inW4 (i := 26) rfl rfl) (Nat.le_of_ble_eq_true rfl) hm (Nat.le_of_ble_eq_true rfl) C2 (by decide +kernel) (fun v' h2 P2 => ?_)
  obtain ⟨z', rfl, hz, S2⟩ := P2
  refine lj_st (st' := .int z' :: [.int z]) rfl ?_
  refine lj_eqI (off := 757) (tgt := 1183) (by decide +kernel) rfl (hz trivial) ?_
  exact ih _ S2
theorem lc_9 (hn : n + 5 ≤ L) (S : PS (n = 0) h) (ih : ∀ h', PS False h' → LJ F σ n 1183 [] h') : LJ F σ n 431 [] h := by
  have hL := F.2.2.2.1
  obtain ⟨fx, hx⟩ := S.c78
  refine lj_x (by decide +kernel) ?_
  refine lj_arg 1 (by omega) (by decide +kernel) (by decide +kernel) (by decide +kernel) (by decide +kernel) (by decide +kernel) ?_
  refine lj_call (Y := M_X_days) (idx := 52) (r := 78) (bs := [.int (zI (xs (n + 1)).toInt)]) (rest := []) ok_X_days rfl (inW1 (i := 148) rfl rfl) (inW1 (i := 149) rfl rfl) (inW1 (i := 150) rfl rfl) (Nat.le_of_ble_eq_true rfl) hx (Nat.le_of_ble_eq_true rfl) (pr_days (inI_x _) S) (by decide +kernel) (fun v h1 P1 => ?_)
  obtain ⟨z, rfl, ⟨fm, hm⟩, C2⟩ := P1
  refine lj_st (st' := [.int z]) rfl ?_
  refine lj_m (by decide +kernel) ?_
  refine lj_arg 1 (by omega) (by decide +kernel) (by decide +kernel) (by decide +kernel) (by decide +kernel) (by decide +kernel) ?_
  refine lj_call (Y := M_M_days) (idx := 55) (r := 90) (bs := [.int (zI (xs (n + 1)).toInt)]) (rest := [.int z]) ok_M_days rfl (inW4 (i := 28) rfl rfl) (inW4 (i := 29) rfl rfl) (inW4 (i := 30) rfl rfl) (Nat.le_of_ble_eq_true rfl) hm (Nat.le_of_ble_eq_true rfl) C2 (by decide +kernel) (fun v' h2 P2 => ?_)
  obtain ⟨z', rfl, hz, S2⟩ := P2
  refine lj_st (st' := .int z' :: [.int z]) rfl ?_
  refine lj_eqI (off := 734) (tgt := 1183) (by decide +kernel) rfl (hz trivial) ?_
  exact ih _ S2
theorem lc_10 (hn : n + 5 ≤ L) (S : PS (n = 0) h) (ih : ∀ h', PS False h' → LJ F σ n 1183 [] h') : LJ F σ n 454 [] h := by
  have hL := F.2.2.2.1
  obtain ⟨fx, hx⟩ := S.c78
  refine lj_x (by decide +kernel) ?_
  refine lj_call (Y := M_X_back) (idx := 56) (r := 78) (bs := []) (rest := []) ok_X_back rfl (inW1 (i := 152) rfl rfl) (inW1 (i := 153) rfl rfl) (inW1 (i := 154) rfl rfl) (Nat.le_of_ble_eq_true rfl) hx (Nat.le_of_ble_eq_true rfl) (pr_back  S) (by decide +kernel) (fun v h1 P1 => ?_)
  obtain ⟨z, rfl, ⟨fm, hm⟩, C2⟩ := P1
  refine lj_st (st' := [.int z]) rfl ?_
  refine lj_m (by decide +kernel) ?_
  refine lj_call (Y := M_M_back) (idx := 59) (r := 90) (bs := []) (rest := [.int z]) ok_M_back rfl (inW3 (i := 227) rfl rfl) (inW3 (i := 228) rfl rfl) (inW3 (i := 229) rfl rfl) (Nat.le_of_ble_eq_true rfl) hm (Nat.le_of_ble_eq_true rfl) C2 (by decide +kernel) (fun v' h2 P2 => ?_)
  obtain ⟨z', rfl, hz, S2⟩ := P2
  refine lj_st (st' := .int z' :: [.int z]) rfl ?_
  refine lj_eqI (off := 721) (tgt := 1183) (by decide +kernel) rfl (hz trivial) ?_
  exact ih _ S2
theorem lc_11 (hn : n + 5 ≤ L) (S : PS (n = 0) h) (ih : ∀ h', PS False h' → LJ F σ n 1183 [] h') : LJ F σ n 467 [] h := by
  have hL := F.2.2.2.1
  obtain ⟨fx, hx⟩ := S.c78
  refine lj_x (by decide +kernel) ?_
  refine lj_arg 1 (by omega) (by decide +kernel) (by decide +kernel) (by decide +kernel) (by decide +kernel) (by decide +kernel) ?_
  refine lj_arg 2 (by omega) (by decide +kernel) (by decide +kernel) (by decide +kernel) (by decide +kernel) (by decide +kernel) ?_
  refine lj_call (Y := M_X_then) (idx := 60) (r := 78) (bs := [.int (zI (xs (n + 1)).toInt), .int (zI (xs (n + 2)).toInt)]) (rest := []) ok_X_then rfl (inW1 (i := 160) rfl rfl) (inW1 (i := 161) rfl rfl) (inW1 (i := 162) rfl rfl) (Nat.le_of_ble_eq_true rfl) hx (Nat.le_of_ble_eq_true rfl) (pr_then (inI_x _) (inI_x _) S) (by decide +kernel) (fun v h1 P1 => ?_)
  obtain ⟨z, rfl, ⟨fm, hm⟩, C2⟩ := P1
  refine lj_st (st' := [.int z]) rfl ?_
  refine lj_m (by decide +kernel) ?_
  refine lj_arg 1 (by omega) (by decide +kernel) (by decide +kernel) (by decide +kernel) (by decide +kernel) (by decide +kernel) ?_
  refine lj_arg 2 (by omega) (by decide +kernel) (by decide +kernel) (by decide +kernel) (by decide +kernel) (by decide +kernel) ?_
  refine lj_call (Y := M_M_then) (idx := 63) (r := 90) (bs := [.int (zI (xs (n + 1)).toInt), .int (zI (xs (n + 2)).toInt)]) (rest := [.int z]) ok_M_then rfl (inW4 (i := 32) rfl rfl) (inW4 (i := 33) rfl rfl) (inW4 (i := 34) rfl rfl) (Nat.le_of_ble_eq_true rfl) hm (Nat.le_of_ble_eq_true rfl) C2 (by decide +kernel) (fun v' h2 P2 => ?_)
  obtain ⟨z', rfl, hz, S2⟩ := P2
  refine lj_st (st' := .int z' :: [.int z]) rfl ?_
  refine lj_eqI (off := 688) (tgt := 1183) (by decide +kernel) rfl (hz trivial) ?_
  exact ih _ S2
theorem lc_12 (hn : n + 5 ≤ L) (S : PS (n = 0) h) (ih : ∀ h', PS False h' → LJ F σ n 1183 [] h') : LJ F σ n 500 [] h := by
  have hL := F.2.2.2.1
  obtain ⟨fx, hx⟩ := S.c78
  refine lj_x (by decide +kernel) ?_
  refine lj_arg 1 (by omega) (by decide +kernel) (by decide +kernel) (by decide +kernel) (by decide +kernel) (by decide +kernel) ?_
  refine lj_arg 2 (by omega) (by decide +kernel) (by decide +kernel) (by decide +kernel) (by decide +kernel) (by decide +kernel) ?_
  refine lj_call (Y := M_X_wornIn) (idx := 64) (r := 78) (bs := [.int (zI (xs (n + 1)).toInt), .int (zI (xs (n + 2)).toInt)]) (rest := []) ok_X_wornIn rfl (inW1 (i := 168) rfl rfl) (inW1 (i := 169) rfl rfl) (inW1 (i := 170) rfl rfl) (Nat.le_of_ble_eq_true rfl) hx (Nat.le_of_ble_eq_true rfl) (pr_wornIn (inI_x _) (inI_x _) S) (by decide +kernel) (fun v h1 P1 => ?_)
  obtain ⟨z, rfl, ⟨fm, hm⟩, C2⟩ := P1
  refine lj_st (st' := [.int z]) rfl ?_
  refine lj_m (by decide +kernel) ?_
  refine lj_arg 1 (by omega) (by decide +kernel) (by decide +kernel) (by decide +kernel) (by decide +kernel) (by decide +kernel) ?_
  refine lj_arg 2 (by omega) (by decide +kernel) (by decide +kernel) (by decide +kernel) (by decide +kernel) (by decide +kernel) ?_
  refine lj_call (Y := M_M_wornIn) (idx := 67) (r := 90) (bs := [.int (zI (xs (n + 1)).toInt), .int (zI (xs (n + 2)).toInt)]) (rest := [.int z]) ok_M_wornIn rfl (inW4 (i := 47) rfl rfl) (inW4 (i := 48) rfl rfl) (inW4 (i := 49) rfl rfl) (Nat.le_of_ble_eq_true rfl) hm (Nat.le_of_ble_eq_true rfl) C2 (by decide +kernel) (fun v' h2 P2 => ?_)
  obtain ⟨z', rfl, hz, S2⟩ := P2
  refine lj_st (st' := .int z' :: [.int z]) rfl ?_
  refine lj_eqI (off := 655) (tgt := 1183) (by decide +kernel) rfl (hz trivial) ?_
  exact ih _ S2
theorem lc_13 (hn : n + 5 ≤ L) (S : PS (n = 0) h) (ih : ∀ h', PS False h' → LJ F σ n 1183 [] h') : LJ F σ n 533 [] h := by
  have hL := F.2.2.2.1
  obtain ⟨fx, hx⟩ := S.c78
  refine lj_x (by decide +kernel) ?_
  refine lj_arg 1 (by omega) (by decide +kernel) (by decide +kernel) (by decide +kernel) (by decide +kernel) (by decide +kernel) ?_
  refine lj_call (Y := M_X_home) (idx := 68) (r := 78) (bs := [.int (zI (xs (n + 1)).toInt)]) (rest := []) ok_X_home rfl (inW1 (i := 172) rfl rfl) (inW1 (i := 173) rfl rfl) (inW1 (i := 174) rfl rfl) (Nat.le_of_ble_eq_true rfl) hx (Nat.le_of_ble_eq_true rfl) (pr_home (inI_x _) S) (by decide +kernel) (fun v h1 P1 => ?_)
  obtain ⟨z, rfl, ⟨fm, hm⟩, C2⟩ := P1
  refine lj_st (st' := [.int z]) rfl ?_
  refine lj_m (by decide +kernel) ?_
  refine lj_arg 1 (by omega) (by decide +kernel) (by decide +kernel) (by decide +kernel) (by decide +kernel) (by decide +kernel) ?_
  refine lj_call (Y := M_M_home) (idx := 71) (r := 90) (bs := [.int (zI (xs (n + 1)).toInt)]) (rest := [.int z]) ok_M_home rfl (inW4 (i := 51) rfl rfl) (inW4 (i := 52) rfl rfl) (inW4 (i := 53) rfl rfl) (Nat.le_of_ble_eq_true rfl) hm (Nat.le_of_ble_eq_true rfl) C2 (by decide +kernel) (fun v' h2 P2 => ?_)
  obtain ⟨z', rfl, hz, S2⟩ := P2
  refine lj_st (st' := .int z' :: [.int z]) rfl ?_
  refine lj_eqI (off := 632) (tgt := 1183) (by decide +kernel) rfl (hz trivial) ?_
  exact ih _ S2
theorem lc_14 (hn : n + 5 ≤ L) (S : PS (n = 0) h) (ih : ∀ h', PS False h' → LJ F σ n 1183 [] h') : LJ F σ n 556 [] h := by
  have hL := F.2.2.2.1
  obtain ⟨fx, hx⟩ := S.c78
  refine lj_x (by decide +kernel) ?_
  refine lj_arg 1 (by omega) (by decide +kernel) (by decide +kernel) (by decide +kernel) (by decide +kernel) (by decide +kernel) ?_
  refine lj_call (Y := M_X_dies) (idx := 72) (r := 78) (bs := [.int (zI (xs (n + 1)).toInt)]) (rest := []) ok_X_dies rfl (inW1 (i := 185) rfl rfl) (inW1 (i := 186) rfl rfl) (inW1 (i := 187) rfl rfl) (Nat.le_of_ble_eq_true rfl) hx (Nat.le_of_ble_eq_true rfl) (pr_dies (inI_x _) S) (by decide +kernel) (fun v h1 P1 => ?_)
  obtain ⟨z, rfl, ⟨fm, hm⟩, C2⟩ := P1
  refine lj_st (st' := [.int z]) rfl ?_
  refine lj_m (by decide +kernel) ?_
  refine lj_arg 1 (by omega) (by decide +kernel) (by decide +kernel) (by decide +kernel) (by decide +kernel) (by decide +kernel) ?_
  refine lj_call (Y := M_M_dies) (idx := 75) (r := 90) (bs := [.int (zI (xs (n + 1)).toInt)]) (rest := [.int z]) ok_M_dies rfl (inW4 (i := 59) rfl rfl) (inW4 (i := 60) rfl rfl) (inW4 (i := 61) rfl rfl) (Nat.le_of_ble_eq_true rfl) hm (Nat.le_of_ble_eq_true rfl) C2 (by decide +kernel) (fun v' h2 P2 => ?_)
  obtain ⟨z', rfl, hz, S2⟩ := P2
  refine lj_st (st' := .int z' :: [.int z]) rfl ?_
  refine lj_eqI (off := 609) (tgt := 1183) (by decide +kernel) rfl (hz trivial) ?_
  exact ih _ S2
theorem lc_15 (hn : n + 5 ≤ L) (S : PS (n = 0) h) (ih : ∀ h', PS False h' → LJ F σ n 1183 [] h') : LJ F σ n 579 [] h := by
  have hL := F.2.2.2.1
  obtain ⟨fx, hx⟩ := S.c78
  refine lj_x (by decide +kernel) ?_
  refine lj_arg 1 (by omega) (by decide +kernel) (by decide +kernel) (by decide +kernel) (by decide +kernel) (by decide +kernel) ?_
  refine lj_call (Y := M_X_mercy) (idx := 76) (r := 78) (bs := [.int (zI (xs (n + 1)).toInt)]) (rest := []) ok_X_mercy rfl (inW1 (i := 198) rfl rfl) (inW1 (i := 199) rfl rfl) (inW1 (i := 200) rfl rfl) (Nat.le_of_ble_eq_true rfl) hx (Nat.le_of_ble_eq_true rfl) (pr_mercy (inI_x _) S) (by decide +kernel) (fun v h1 P1 => ?_)
  obtain ⟨z, rfl, ⟨fm, hm⟩, C2⟩ := P1
  refine lj_st (st' := [.int z]) rfl ?_
  refine lj_m (by decide +kernel) ?_
  refine lj_arg 1 (by omega) (by decide +kernel) (by decide +kernel) (by decide +kernel) (by decide +kernel) (by decide +kernel) ?_
  refine lj_call (Y := M_M_mercy) (idx := 79) (r := 90) (bs := [.int (zI (xs (n + 1)).toInt)]) (rest := [.int z]) ok_M_mercy rfl (inW4 (i := 68) rfl rfl) (inW4 (i := 69) rfl rfl) (inW4 (i := 70) rfl rfl) (Nat.le_of_ble_eq_true rfl) hm (Nat.le_of_ble_eq_true rfl) C2 (by decide +kernel) (fun v' h2 P2 => ?_)
  obtain ⟨z', rfl, hz, S2⟩ := P2
  refine lj_st (st' := .int z' :: [.int z]) rfl ?_
  refine lj_eqI (off := 586) (tgt := 1183) (by decide +kernel) rfl (hz trivial) ?_
  exact ih _ S2
theorem lc_16 (hn : n + 5 ≤ L) (S : PS (n = 0) h) (ih : ∀ h', PS False h' → LJ F σ n 1183 [] h') : LJ F σ n 602 [] h := by
  have hL := F.2.2.2.1
  obtain ⟨fx, hx⟩ := S.c78
  refine lj_x (by decide +kernel) ?_
  refine lj_arg 1 (by omega) (by decide +kernel) (by decide +kernel) (by decide +kernel) (by decide +kernel) (by decide +kernel) ?_
  refine lj_call (Y := M_X_fewest) (idx := 80) (r := 78) (bs := [.int (zI (xs (n + 1)).toInt)]) (rest := []) ok_X_fewest rfl (inW1 (i := 211) rfl rfl) (inW1 (i := 212) rfl rfl) (inW1 (i := 213) rfl rfl) (Nat.le_of_ble_eq_true rfl) hx (Nat.le_of_ble_eq_true rfl) (pr_fewest (inI_x _) S) (by decide +kernel) (fun v h1 P1 => ?_)
  obtain ⟨z, rfl, ⟨fm, hm⟩, C2⟩ := P1
  refine lj_st (st' := [.int z]) rfl ?_
  refine lj_m (by decide +kernel) ?_
  refine lj_arg 1 (by omega) (by decide +kernel) (by decide +kernel) (by decide +kernel) (by decide +kernel) (by decide +kernel) ?_
  refine lj_call (Y := M_M_fewest) (idx := 83) (r := 90) (bs := [.int (zI (xs (n + 1)).toInt)]) (rest := [.int z]) ok_M_fewest rfl (inW4 (i := 76) rfl rfl) (inW4 (i := 77) rfl rfl) (inW4 (i := 78) rfl rfl) (Nat.le_of_ble_eq_true rfl) hm (Nat.le_of_ble_eq_true rfl) C2 (by decide +kernel) (fun v' h2 P2 => ?_)
  obtain ⟨z', rfl, hz, S2⟩ := P2
  refine lj_st (st' := .int z' :: [.int z]) rfl ?_
  refine lj_eqI (off := 563) (tgt := 1183) (by decide +kernel) rfl (hz trivial) ?_
  exact ih _ S2
theorem lc_17 (hn : n + 5 ≤ L) (S : PS (n = 0) h) (ih : ∀ h', PS False h' → LJ F σ n 1183 [] h') : LJ F σ n 625 [] h := by
  have hL := F.2.2.2.1
  obtain ⟨fx, hx⟩ := S.c78
  refine lj_x (by decide +kernel) ?_
  refine lj_arg 1 (by omega) (by decide +kernel) (by decide +kernel) (by decide +kernel) (by decide +kernel) (by decide +kernel) ?_
  refine lj_call (Y := M_X_crown) (idx := 84) (r := 78) (bs := [.int (zI (xs (n + 1)).toInt)]) (rest := []) ok_X_crown rfl (inW1 (i := 230) rfl rfl) (inW1 (i := 231) rfl rfl) (inW1 (i := 232) rfl rfl) (Nat.le_of_ble_eq_true rfl) hx (Nat.le_of_ble_eq_true rfl) (pr_crown (inI_x _) S) (by decide +kernel) (fun v h1 P1 => ?_)
  obtain ⟨z, rfl, ⟨fm, hm⟩, C2⟩ := P1
  refine lj_st (st' := [.int z]) rfl ?_
  refine lj_m (by decide +kernel) ?_
  refine lj_arg 1 (by omega) (by decide +kernel) (by decide +kernel) (by decide +kernel) (by decide +kernel) (by decide +kernel) ?_
  refine lj_call (Y := M_M_crown) (idx := 87) (r := 90) (bs := [.int (zI (xs (n + 1)).toInt)]) (rest := [.int z]) ok_M_crown rfl (inW4 (i := 83) rfl rfl) (inW4 (i := 84) rfl rfl) (inW4 (i := 85) rfl rfl) (Nat.le_of_ble_eq_true rfl) hm (Nat.le_of_ble_eq_true rfl) C2 (by decide +kernel) (fun v' h2 P2 => ?_)
  obtain ⟨z', rfl, hz, S2⟩ := P2
  refine lj_st (st' := .int z' :: [.int z]) rfl ?_
  refine lj_eqI (off := 540) (tgt := 1183) (by decide +kernel) rfl (hz trivial) ?_
  exact ih _ S2
theorem lc_18 (hn : n + 5 ≤ L) (S : PS (n = 0) h) (ih : ∀ h', PS False h' → LJ F σ n 1183 [] h') : LJ F σ n 648 [] h := by
  have hL := F.2.2.2.1
  obtain ⟨fx, hx⟩ := S.c78
  refine lj_x (by decide +kernel) ?_
  refine lj_arg 1 (by omega) (by decide +kernel) (by decide +kernel) (by decide +kernel) (by decide +kernel) (by decide +kernel) ?_
  refine lj_call (Y := M_X_dig) (idx := 88) (r := 78) (bs := [.int (zI (xs (n + 1)).toInt)]) (rest := []) ok_X_dig rfl (inW1 (i := 238) rfl rfl) (inW1 (i := 239) rfl rfl) (inW2 (i := 0) rfl rfl) (Nat.le_of_ble_eq_true rfl) hx (Nat.le_of_ble_eq_true rfl) (pr_dig (inI_x _) S) (by decide +kernel) (fun v h1 P1 => ?_)
  obtain ⟨z, rfl, ⟨fm, hm⟩, C2⟩ := P1
  refine lj_st (st' := [.int z]) rfl ?_
  refine lj_m (by decide +kernel) ?_
  refine lj_arg 1 (by omega) (by decide +kernel) (by decide +kernel) (by decide +kernel) (by decide +kernel) (by decide +kernel) ?_
  refine lj_call (Y := M_M_dig) (idx := 91) (r := 90) (bs := [.int (zI (xs (n + 1)).toInt)]) (rest := [.int z]) ok_M_dig rfl (inW4 (i := 87) rfl rfl) (inW4 (i := 88) rfl rfl) (inW4 (i := 89) rfl rfl) (Nat.le_of_ble_eq_true rfl) hm (Nat.le_of_ble_eq_true rfl) C2 (by decide +kernel) (fun v' h2 P2 => ?_)
  obtain ⟨z', rfl, hz, S2⟩ := P2
  refine lj_st (st' := .int z' :: [.int z]) rfl ?_
  refine lj_eqI (off := 517) (tgt := 1183) (by decide +kernel) rfl (hz trivial) ?_
  exact ih _ S2
theorem lc_19 (hn : n + 5 ≤ L) (S : PS (n = 0) h) (ih : ∀ h', PS False h' → LJ F σ n 1183 [] h') : LJ F σ n 671 [] h := by
  have hL := F.2.2.2.1
  obtain ⟨fx, hx⟩ := S.c78
  refine lj_x (by decide +kernel) ?_
  refine lj_arg 1 (by omega) (by decide +kernel) (by decide +kernel) (by decide +kernel) (by decide +kernel) (by decide +kernel) ?_
  refine lj_arg 2 (by omega) (by decide +kernel) (by decide +kernel) (by decide +kernel) (by decide +kernel) (by decide +kernel) ?_
  refine lj_call (Y := M_X_keep) (idx := 92) (r := 78) (bs := [.int (zI (xs (n + 1)).toInt), .int (zI (xs (n + 2)).toInt)]) (rest := []) ok_X_keep rfl (inW2 (i := 7) rfl rfl) (inW2 (i := 8) rfl rfl) (inW2 (i := 9) rfl rfl) (Nat.le_of_ble_eq_true rfl) hx (Nat.le_of_ble_eq_true rfl) (pr_keep (inI_x _) (inI_x _) S) (by decide +kernel) (fun v h1 P1 => ?_)
  obtain ⟨z, rfl, ⟨fm, hm⟩, C2⟩ := P1
  refine lj_st (st' := [.int z]) rfl ?_
  refine lj_m (by decide +kernel) ?_
  refine lj_arg 1 (by omega) (by decide +kernel) (by decide +kernel) (by decide +kernel) (by decide +kernel) (by decide +kernel) ?_
  refine lj_arg 2 (by omega) (by decide +kernel) (by decide +kernel) (by decide +kernel) (by decide +kernel) (by decide +kernel) ?_
  refine lj_call (Y := M_M_keep) (idx := 95) (r := 90) (bs := [.int (zI (xs (n + 1)).toInt), .int (zI (xs (n + 2)).toInt)]) (rest := [.int z]) ok_M_keep rfl (inW4 (i := 91) rfl rfl) (inW4 (i := 92) rfl rfl) (inW4 (i := 93) rfl rfl) (Nat.le_of_ble_eq_true rfl) hm (Nat.le_of_ble_eq_true rfl) C2 (by decide +kernel) (fun v' h2 P2 => ?_)
  obtain ⟨z', rfl, hz, S2⟩ := P2
  refine lj_st (st' := .int z' :: [.int z]) rfl ?_
  refine lj_eqI (off := 484) (tgt := 1183) (by decide +kernel) rfl (hz trivial) ?_
  exact ih _ S2
theorem lc_20 (hn : n + 5 ≤ L) (S : PS (n = 0) h) (ih : ∀ h', PS False h' → LJ F σ n 1183 [] h') : LJ F σ n 704 [] h := by
  have hL := F.2.2.2.1
  obtain ⟨fx, hx⟩ := S.c78
  refine lj_x (by decide +kernel) ?_
  refine lj_arg 1 (by omega) (by decide +kernel) (by decide +kernel) (by decide +kernel) (by decide +kernel) (by decide +kernel) ?_
  refine lj_call (Y := M_X_pairs) (idx := 96) (r := 78) (bs := [.int (zI (xs (n + 1)).toInt)]) (rest := []) ok_X_pairs rfl (inW2 (i := 18) rfl rfl) (inW2 (i := 19) rfl rfl) (inW2 (i := 20) rfl rfl) (Nat.le_of_ble_eq_true rfl) hx (Nat.le_of_ble_eq_true rfl) (pr_pairs (inI_x _) S) (by decide +kernel) (fun v h1 P1 => ?_)
  obtain ⟨z, rfl, ⟨fm, hm⟩, C2⟩ := P1
  refine lj_st (st' := [.int z]) rfl ?_
  refine lj_m (by decide +kernel) ?_
  refine lj_arg 1 (by omega) (by decide +kernel) (by decide +kernel) (by decide +kernel) (by decide +kernel) (by decide +kernel) ?_
  refine lj_call (Y := M_M_pairs) (idx := 99) (r := 90) (bs := [.int (zI (xs (n + 1)).toInt)]) (rest := [.int z]) ok_M_pairs rfl (inW4 (i := 95) rfl rfl) (inW4 (i := 96) rfl rfl) (inW4 (i := 97) rfl rfl) (Nat.le_of_ble_eq_true rfl) hm (Nat.le_of_ble_eq_true rfl) C2 (by decide +kernel) (fun v' h2 P2 => ?_)
  obtain ⟨z', rfl, hz, S2⟩ := P2
  refine lj_st (st' := .int z' :: [.int z]) rfl ?_
  refine lj_eqI (off := 461) (tgt := 1183) (by decide +kernel) rfl (hz trivial) ?_
  exact ih _ S2
theorem lc_21 (hn : n + 5 ≤ L) (S : PS (n = 0) h) (ih : ∀ h', PS False h' → LJ F σ n 1183 [] h') : LJ F σ n 727 [] h := by
  have hL := F.2.2.2.1
  obtain ⟨fx, hx⟩ := S.c78
  refine lj_x (by decide +kernel) ?_
  refine lj_call (Y := M_X_whoBore) (idx := 100) (r := 78) (bs := []) (rest := []) ok_X_whoBore rfl (inW2 (i := 46) rfl rfl) (inW2 (i := 47) rfl rfl) (inW2 (i := 48) rfl rfl) (Nat.le_of_ble_eq_true rfl) hx (Nat.le_of_ble_eq_true rfl) (pr_whoBore  S) (by decide +kernel) (fun v h1 P1 => ?_)
  obtain ⟨z, rfl, ⟨fm, hm⟩, C2⟩ := P1
  refine lj_st (st' := [.int z]) rfl ?_
  refine lj_m (by decide +kernel) ?_
  refine lj_call (Y := M_M_whoBore) (idx := 103) (r := 90) (bs := []) (rest := [.int z]) ok_M_whoBore rfl (inW4 (i := 120) rfl rfl) (inW4 (i := 121) rfl rfl) (inW4 (i := 122) rfl rfl) (Nat.le_of_ble_eq_true rfl) hm (Nat.le_of_ble_eq_true rfl) C2 (by decide +kernel) (fun v' h2 P2 => ?_)
  obtain ⟨z', rfl, hz, S2⟩ := P2
  refine lj_st (st' := .int z' :: [.int z]) rfl ?_
  refine lj_eqI (off := 448) (tgt := 1183) (by decide +kernel) rfl (hz trivial) ?_
  exact ih _ S2
theorem lc_22 (hn : n + 5 ≤ L) (S : PS (n = 0) h) (ih : ∀ h', PS False h' → LJ F σ n 1183 [] h') : LJ F σ n 740 [] h := by
  have hL := F.2.2.2.1
  obtain ⟨fx, hx⟩ := S.c78
  refine lj_x (by decide +kernel) ?_
  refine lj_arg 1 (by omega) (by decide +kernel) (by decide +kernel) (by decide +kernel) (by decide +kernel) (by decide +kernel) ?_
  refine lj_arg 2 (by omega) (by decide +kernel) (by decide +kernel) (by decide +kernel) (by decide +kernel) (by decide +kernel) ?_
  refine lj_call (Y := M_X_whatKind) (idx := 104) (r := 78) (bs := [.int (zI (xs (n + 1)).toInt), .int (zI (xs (n + 2)).toInt)]) (rest := []) ok_X_whatKind rfl (inW2 (i := 62) rfl rfl) (inW2 (i := 63) rfl rfl) (inW2 (i := 64) rfl rfl) (Nat.le_of_ble_eq_true rfl) hx (Nat.le_of_ble_eq_true rfl) (pr_whatKind (inI_x _) (inI_x _) S) (by decide +kernel) (fun v h1 P1 => ?_)
  obtain ⟨z, rfl, ⟨fm, hm⟩, C2⟩ := P1
  refine lj_st (st' := [.int z]) rfl ?_
  refine lj_m (by decide +kernel) ?_
  refine lj_arg 1 (by omega) (by decide +kernel) (by decide +kernel) (by decide +kernel) (by decide +kernel) (by decide +kernel) ?_
  refine lj_arg 2 (by omega) (by decide +kernel) (by decide +kernel) (by decide +kernel) (by decide +kernel) (by decide +kernel) ?_
  refine lj_call (Y := M_M_whatKind) (idx := 107) (r := 90) (bs := [.int (zI (xs (n + 1)).toInt), .int (zI (xs (n + 2)).toInt)]) (rest := [.int z]) ok_M_whatKind rfl (inW4 (i := 128) rfl rfl) (inW4 (i := 129) rfl rfl) (inW4 (i := 130) rfl rfl) (Nat.le_of_ble_eq_true rfl) hm (Nat.le_of_ble_eq_true rfl) C2 (by decide +kernel) (fun v' h2 P2 => ?_)
  obtain ⟨z', rfl, hz, S2⟩ := P2
  refine lj_st (st' := .int z' :: [.int z]) rfl ?_
  refine lj_eqI (off := 415) (tgt := 1183) (by decide +kernel) rfl (hz (by have := hL; unfold NN at this; omega)) ?_
  exact ih _ S2
theorem lc_23 (hn : n + 5 ≤ L) (S : PS (n = 0) h) (ih : ∀ h', PS False h' → LJ F σ n 1183 [] h') : LJ F σ n 773 [] h := by
  have hL := F.2.2.2.1
  obtain ⟨fx, hx⟩ := S.c78
  refine lj_x (by decide +kernel) ?_
  refine lj_arg 1 (by omega) (by decide +kernel) (by decide +kernel) (by decide +kernel) (by decide +kernel) (by decide +kernel) ?_
  refine lj_arg 2 (by omega) (by decide +kernel) (by decide +kernel) (by decide +kernel) (by decide +kernel) (by decide +kernel) ?_
  refine lj_arg 3 (by omega) (by decide +kernel) (by decide +kernel) (by decide +kernel) (by decide +kernel) (by decide +kernel) ?_
  refine lj_call (Y := M_X_two) (idx := 108) (r := 78) (bs := [.int (zI (xs (n + 1)).toInt), .int (zI (xs (n + 2)).toInt), .int (zI (xs (n + 3)).toInt)]) (rest := []) ok_X_two rfl (inW2 (i := 87) rfl rfl) (inW2 (i := 88) rfl rfl) (inW2 (i := 89) rfl rfl) (Nat.le_of_ble_eq_true rfl) hx (Nat.le_of_ble_eq_true rfl) (pr_two (inI_x _) (inI_x _) (inI_x _) S) (by decide +kernel) (fun v h1 P1 => ?_)
  obtain ⟨z, rfl, ⟨fm, hm⟩, C2⟩ := P1
  refine lj_st (st' := [.int z]) rfl ?_
  refine lj_m (by decide +kernel) ?_
  refine lj_arg 1 (by omega) (by decide +kernel) (by decide +kernel) (by decide +kernel) (by decide +kernel) (by decide +kernel) ?_
  refine lj_arg 2 (by omega) (by decide +kernel) (by decide +kernel) (by decide +kernel) (by decide +kernel) (by decide +kernel) ?_
  refine lj_arg 3 (by omega) (by decide +kernel) (by decide +kernel) (by decide +kernel) (by decide +kernel) (by decide +kernel) ?_
  refine lj_call (Y := M_M_two) (idx := 112) (r := 90) (bs := [.int (zI (xs (n + 1)).toInt), .int (zI (xs (n + 2)).toInt), .int (zI (xs (n + 3)).toInt)]) (rest := [.int z]) ok_M_two rfl (inW4 (i := 132) rfl rfl) (inW4 (i := 133) rfl rfl) (inW4 (i := 134) rfl rfl) (Nat.le_of_ble_eq_true rfl) hm (Nat.le_of_ble_eq_true rfl) C2 (by decide +kernel) (fun v' h2 P2 => ?_)
  obtain ⟨z', rfl, hz, S2⟩ := P2
  refine lj_st (st' := .int z' :: [.int z]) rfl ?_
  refine lj_eqI (off := 372) (tgt := 1183) (by decide +kernel) rfl (hz trivial) ?_
  exact ih _ S2
theorem lc_24 (hn : n + 5 ≤ L) (S : PS (n = 0) h) (ih : ∀ h', PS False h' → LJ F σ n 1183 [] h') : LJ F σ n 816 [] h := by
  have hL := F.2.2.2.1
  obtain ⟨fx, hx⟩ := S.c78
  refine lj_x (by decide +kernel) ?_
  refine lj_arg 1 (by omega) (by decide +kernel) (by decide +kernel) (by decide +kernel) (by decide +kernel) (by decide +kernel) ?_
  refine lj_arg 2 (by omega) (by decide +kernel) (by decide +kernel) (by decide +kernel) (by decide +kernel) (by decide +kernel) ?_
  refine lj_arg 3 (by omega) (by decide +kernel) (by decide +kernel) (by decide +kernel) (by decide +kernel) (by decide +kernel) ?_
  refine lj_arg 4 (by omega) (by decide +kernel) (by decide +kernel) (by decide +kernel) (by decide +kernel) (by decide +kernel) ?_
  refine lj_call (Y := M_X_falls) (idx := 113) (r := 78) (bs := [.int (zI (xs (n + 1)).toInt), .int (zI (xs (n + 2)).toInt), .int (zI (xs (n + 3)).toInt), .int (zI (xs (n + 4)).toInt)]) (rest := []) ok_X_falls rfl (inW2 (i := 95) rfl rfl) (inW2 (i := 96) rfl rfl) (inW2 (i := 97) rfl rfl) (Nat.le_of_ble_eq_true rfl) hx (Nat.le_of_ble_eq_true rfl) (pr_falls (inI_x _) (inI_x _) (inI_x _) (inI_x _) S) (by decide +kernel) (fun v h1 P1 => ?_)
  obtain ⟨z, rfl, ⟨fm, hm⟩, C2⟩ := P1
  refine lj_st (st' := [.long z]) rfl ?_
  refine lj_m (by decide +kernel) ?_
  refine lj_arg 1 (by omega) (by decide +kernel) (by decide +kernel) (by decide +kernel) (by decide +kernel) (by decide +kernel) ?_
  refine lj_arg 2 (by omega) (by decide +kernel) (by decide +kernel) (by decide +kernel) (by decide +kernel) (by decide +kernel) ?_
  refine lj_arg 3 (by omega) (by decide +kernel) (by decide +kernel) (by decide +kernel) (by decide +kernel) (by decide +kernel) ?_
  refine lj_arg 4 (by omega) (by decide +kernel) (by decide +kernel) (by decide +kernel) (by decide +kernel) (by decide +kernel) ?_
  refine lj_call (Y := M_M_falls) (idx := 117) (r := 90) (bs := [.int (zI (xs (n + 1)).toInt), .int (zI (xs (n + 2)).toInt), .int (zI (xs (n + 3)).toInt), .int (zI (xs (n + 4)).toInt)]) (rest := [.long z]) ok_M_falls rfl (inW4 (i := 136) rfl rfl) (inW4 (i := 137) rfl rfl) (inW4 (i := 138) rfl rfl) (Nat.le_of_ble_eq_true rfl) hm (Nat.le_of_ble_eq_true rfl) C2 (by decide +kernel) (fun v' h2 P2 => ?_)
  obtain ⟨z', rfl, hz, S2⟩ := P2
  refine lj_st (st' := .long z' :: [.long z]) rfl ?_
  refine lj_eqJ (off := 318) (tgt := 1183) (by decide +kernel) (by decide +kernel) rfl (hz trivial) ?_
  exact ih _ S2
theorem lc_25 (hn : n + 5 ≤ L) (S : PS (n = 0) h) (ih : ∀ h', PS False h' → LJ F σ n 1183 [] h') : LJ F σ n 870 [] h := by
  have hL := F.2.2.2.1
  obtain ⟨fx, hx⟩ := S.c78
  refine lj_x (by decide +kernel) ?_
  refine lj_arg 1 (by omega) (by decide +kernel) (by decide +kernel) (by decide +kernel) (by decide +kernel) (by decide +kernel) ?_
  refine lj_arg 2 (by omega) (by decide +kernel) (by decide +kernel) (by decide +kernel) (by decide +kernel) (by decide +kernel) ?_
  refine lj_call (Y := M_X_shares) (idx := 118) (r := 78) (bs := [.int (zI (xs (n + 1)).toInt), .int (zI (xs (n + 2)).toInt)]) (rest := []) ok_X_shares rfl (inW2 (i := 121) rfl rfl) (inW2 (i := 122) rfl rfl) (inW2 (i := 123) rfl rfl) (Nat.le_of_ble_eq_true rfl) hx (Nat.le_of_ble_eq_true rfl) (pr_shares (inI_x _) (inI_x _) S) (by decide +kernel) (fun v h1 P1 => ?_)
  obtain ⟨z, rfl, ⟨fm, hm⟩, C2⟩ := P1
  refine lj_st (st' := [.int z]) rfl ?_
  refine lj_m (by decide +kernel) ?_
  refine lj_arg 1 (by omega) (by decide +kernel) (by decide +kernel) (by decide +kernel) (by decide +kernel) (by decide +kernel) ?_
  refine lj_arg 2 (by omega) (by decide +kernel) (by decide +kernel) (by decide +kernel) (by decide +kernel) (by decide +kernel) ?_
  refine lj_call (Y := M_M_shares) (idx := 121) (r := 90) (bs := [.int (zI (xs (n + 1)).toInt), .int (zI (xs (n + 2)).toInt)]) (rest := [.int z]) ok_M_shares rfl (inW4 (i := 147) rfl rfl) (inW4 (i := 148) rfl rfl) (inW4 (i := 149) rfl rfl) (Nat.le_of_ble_eq_true rfl) hm (Nat.le_of_ble_eq_true rfl) C2 (by decide +kernel) (fun v' h2 P2 => ?_)
  obtain ⟨z', rfl, hz, S2⟩ := P2
  refine lj_st (st' := .int z' :: [.int z]) rfl ?_
  refine lj_eqI (off := 285) (tgt := 1183) (by decide +kernel) rfl (hz trivial) ?_
  exact ih _ S2
theorem lc_26 (hn : n + 5 ≤ L) (S : PS (n = 0) h) (ih : ∀ h', PS False h' → LJ F σ n 1183 [] h') : LJ F σ n 903 [] h := by
  have hL := F.2.2.2.1
  obtain ⟨fx, hx⟩ := S.c78
  refine lj_x (by decide +kernel) ?_
  refine lj_arg 1 (by omega) (by decide +kernel) (by decide +kernel) (by decide +kernel) (by decide +kernel) (by decide +kernel) ?_
  refine lj_call (Y := M_X_strongest) (idx := 122) (r := 78) (bs := [.int (zI (xs (n + 1)).toInt)]) (rest := []) ok_X_strongest rfl (inW2 (i := 125) rfl rfl) (inW2 (i := 126) rfl rfl) (inW2 (i := 127) rfl rfl) (Nat.le_of_ble_eq_true rfl) hx (Nat.le_of_ble_eq_true rfl) (pr_strongest (inI_x _) S) (by decide +kernel) (fun v h1 P1 => ?_)
  obtain ⟨z, rfl, ⟨fm, hm⟩, C2⟩ := P1
  refine lj_st (st' := [.int z]) rfl ?_
  refine lj_m (by decide +kernel) ?_
  refine lj_arg 1 (by omega) (by decide +kernel) (by decide +kernel) (by decide +kernel) (by decide +kernel) (by decide +kernel) ?_
  refine lj_call (Y := M_M_strongest) (idx := 125) (r := 90) (bs := [.int (zI (xs (n + 1)).toInt)]) (rest := [.int z]) ok_M_strongest rfl (inW4 (i := 151) rfl rfl) (inW4 (i := 152) rfl rfl) (inW4 (i := 153) rfl rfl) (Nat.le_of_ble_eq_true rfl) hm (Nat.le_of_ble_eq_true rfl) C2 (by decide +kernel) (fun v' h2 P2 => ?_)
  obtain ⟨z', rfl, hz, S2⟩ := P2
  refine lj_st (st' := .int z' :: [.int z]) rfl ?_
  refine lj_eqI (off := 262) (tgt := 1183) (by decide +kernel) rfl (hz trivial) ?_
  exact ih _ S2
theorem lc_27 (hn : n + 5 ≤ L) (S : PS (n = 0) h) (ih : ∀ h', PS False h' → LJ F σ n 1183 [] h') : LJ F σ n 926 [] h := by
  have hL := F.2.2.2.1
  obtain ⟨fx, hx⟩ := S.c78
  refine lj_x (by decide +kernel) ?_
  refine lj_arg 1 (by omega) (by decide +kernel) (by decide +kernel) (by decide +kernel) (by decide +kernel) (by decide +kernel) ?_
  refine lj_call (Y := M_X_mean) (idx := 126) (r := 78) (bs := [.int (zI (xs (n + 1)).toInt)]) (rest := []) ok_X_mean rfl (inW2 (i := 135) rfl rfl) (inW2 (i := 136) rfl rfl) (inW2 (i := 137) rfl rfl) (Nat.le_of_ble_eq_true rfl) hx (Nat.le_of_ble_eq_true rfl) (pr_mean (inI_x _) S) (by decide +kernel) (fun v h1 P1 => ?_)
  obtain ⟨z, rfl, ⟨fm, hm⟩, C2⟩ := P1
  refine lj_st (st' := [.long z]) rfl ?_
  refine lj_m (by decide +kernel) ?_
  refine lj_arg 1 (by omega) (by decide +kernel) (by decide +kernel) (by decide +kernel) (by decide +kernel) (by decide +kernel) ?_
  refine lj_call (Y := M_M_mean) (idx := 130) (r := 90) (bs := [.int (zI (xs (n + 1)).toInt)]) (rest := [.long z]) ok_M_mean rfl (inW4 (i := 159) rfl rfl) (inW4 (i := 160) rfl rfl) (inW4 (i := 161) rfl rfl) (Nat.le_of_ble_eq_true rfl) hm (Nat.le_of_ble_eq_true rfl) C2 (by decide +kernel) (fun v' h2 P2 => ?_)
  obtain ⟨z', rfl, hz, S2⟩ := P2
  refine lj_st (st' := .long z' :: [.long z]) rfl ?_
  refine lj_eqJ (off := 238) (tgt := 1183) (by decide +kernel) (by decide +kernel) rfl (hz trivial) ?_
  exact ih _ S2
theorem lc_28 (hn : n + 5 ≤ L) (S : PS (n = 0) h) (ih : ∀ h', PS False h' → LJ F σ n 1183 [] h') : LJ F σ n 950 [] h := by
  have hL := F.2.2.2.1
  obtain ⟨fx, hx⟩ := S.c78
  refine lj_x (by decide +kernel) ?_
  refine lj_arg 1 (by omega) (by decide +kernel) (by decide +kernel) (by decide +kernel) (by decide +kernel) (by decide +kernel) ?_
  refine lj_call (Y := M_X_spare) (idx := 131) (r := 78) (bs := [.int (zI (xs (n + 1)).toInt)]) (rest := []) ok_X_spare rfl (inW2 (i := 143) rfl rfl) (inW2 (i := 144) rfl rfl) (inW2 (i := 145) rfl rfl) (Nat.le_of_ble_eq_true rfl) hx (Nat.le_of_ble_eq_true rfl) (pr_spare (inI_x _) S) (by decide +kernel) (fun v h1 P1 => ?_)
  obtain ⟨z, rfl, ⟨fm, hm⟩, C2⟩ := P1
  refine lj_st (st' := [.int z]) rfl ?_
  refine lj_m (by decide +kernel) ?_
  refine lj_arg 1 (by omega) (by decide +kernel) (by decide +kernel) (by decide +kernel) (by decide +kernel) (by decide +kernel) ?_
  refine lj_call (Y := M_M_spare) (idx := 134) (r := 90) (bs := [.int (zI (xs (n + 1)).toInt)]) (rest := [.int z]) ok_M_spare rfl (inW4 (i := 167) rfl rfl) (inW4 (i := 168) rfl rfl) (inW4 (i := 169) rfl rfl) (Nat.le_of_ble_eq_true rfl) hm (Nat.le_of_ble_eq_true rfl) C2 (by decide +kernel) (fun v' h2 P2 => ?_)
  obtain ⟨z', rfl, hz, S2⟩ := P2
  refine lj_st (st' := .int z' :: [.int z]) rfl ?_
  refine lj_eqI (off := 215) (tgt := 1183) (by decide +kernel) rfl (hz trivial) ?_
  exact ih _ S2
theorem lc_29 (hn : n + 5 ≤ L) (S : PS (n = 0) h) (ih : ∀ h', PS False h' → LJ F σ n 1183 [] h') : LJ F σ n 973 [] h := by
  have hL := F.2.2.2.1
  obtain ⟨fx, hx⟩ := S.c78
  refine lj_x (by decide +kernel) ?_
  refine lj_arg 1 (by omega) (by decide +kernel) (by decide +kernel) (by decide +kernel) (by decide +kernel) (by decide +kernel) ?_
  refine lj_call (Y := M_X_height) (idx := 135) (r := 78) (bs := [.int (zI (xs (n + 1)).toInt)]) (rest := []) ok_X_height rfl (inW2 (i := 148) rfl rfl) (inW2 (i := 149) rfl rfl) (inW2 (i := 150) rfl rfl) (Nat.le_of_ble_eq_true rfl) hx (Nat.le_of_ble_eq_true rfl) (pr_height (inI_x _) S) (by decide +kernel) (fun v h1 P1 => ?_)
  obtain ⟨z, rfl, ⟨fm, hm⟩, C2⟩ := P1
  refine lj_st (st' := [.int z]) rfl ?_
  refine lj_m (by decide +kernel) ?_
  refine lj_arg 1 (by omega) (by decide +kernel) (by decide +kernel) (by decide +kernel) (by decide +kernel) (by decide +kernel) ?_
  refine lj_call (Y := M_M_height) (idx := 138) (r := 90) (bs := [.int (zI (xs (n + 1)).toInt)]) (rest := [.int z]) ok_M_height rfl (inW4 (i := 171) rfl rfl) (inW4 (i := 172) rfl rfl) (inW4 (i := 173) rfl rfl) (Nat.le_of_ble_eq_true rfl) hm (Nat.le_of_ble_eq_true rfl) C2 (by decide +kernel) (fun v' h2 P2 => ?_)
  obtain ⟨z', rfl, hz, S2⟩ := P2
  refine lj_st (st' := .int z' :: [.int z]) rfl ?_
  refine lj_eqI (off := 192) (tgt := 1183) (by decide +kernel) rfl (hz trivial) ?_
  exact ih _ S2
theorem lc_30 (hn : n + 5 ≤ L) (S : PS (n = 0) h) (ih : ∀ h', PS False h' → LJ F σ n 1183 [] h') : LJ F σ n 996 [] h := by
  have hL := F.2.2.2.1
  obtain ⟨fx, hx⟩ := S.c78
  refine lj_x (by decide +kernel) ?_
  refine lj_arg 1 (by omega) (by decide +kernel) (by decide +kernel) (by decide +kernel) (by decide +kernel) (by decide +kernel) ?_
  refine lj_call (Y := M_X_eased) (idx := 139) (r := 78) (bs := [.int (zI (xs (n + 1)).toInt)]) (rest := []) ok_X_eased rfl (inW2 (i := 163) rfl rfl) (inW2 (i := 164) rfl rfl) (inW2 (i := 165) rfl rfl) (Nat.le_of_ble_eq_true rfl) hx (Nat.le_of_ble_eq_true rfl) (pr_eased (inI_x _) S) (by decide +kernel) (fun v h1 P1 => ?_)
  obtain ⟨z, rfl, ⟨fm, hm⟩, C2⟩ := P1
  refine lj_st (st' := [.int z]) rfl ?_
  refine lj_m (by decide +kernel) ?_
  refine lj_arg 1 (by omega) (by decide +kernel) (by decide +kernel) (by decide +kernel) (by decide +kernel) (by decide +kernel) ?_
  refine lj_call (Y := M_M_eased) (idx := 142) (r := 90) (bs := [.int (zI (xs (n + 1)).toInt)]) (rest := [.int z]) ok_M_eased rfl (inW4 (i := 183) rfl rfl) (inW4 (i := 184) rfl rfl) (inW4 (i := 185) rfl rfl) (Nat.le_of_ble_eq_true rfl) hm (Nat.le_of_ble_eq_true rfl) C2 (by decide +kernel) (fun v' h2 P2 => ?_)
  obtain ⟨z', rfl, hz, S2⟩ := P2
  refine lj_st (st' := .int z' :: [.int z]) rfl ?_
  refine lj_eqI (off := 169) (tgt := 1183) (by decide +kernel) rfl (hz trivial) ?_
  exact ih _ S2
theorem lc_31 (hn : n + 5 ≤ L) (S : PS (n = 0) h) (ih : ∀ h', PS False h' → LJ F σ n 1183 [] h') : LJ F σ n 1019 [] h := by
  have hL := F.2.2.2.1
  obtain ⟨fx, hx⟩ := S.c78
  refine lj_x (by decide +kernel) ?_
  refine lj_arg 1 (by omega) (by decide +kernel) (by decide +kernel) (by decide +kernel) (by decide +kernel) (by decide +kernel) ?_
  refine lj_call (Y := M_X_shoulders) (idx := 143) (r := 78) (bs := [.int (zI (xs (n + 1)).toInt)]) (rest := []) ok_X_shoulders rfl (inW2 (i := 171) rfl rfl) (inW2 (i := 172) rfl rfl) (inW2 (i := 173) rfl rfl) (Nat.le_of_ble_eq_true rfl) hx (Nat.le_of_ble_eq_true rfl) (pr_shoulders (inI_x _) S) (by decide +kernel) (fun v h1 P1 => ?_)
  obtain ⟨z, rfl, ⟨fm, hm⟩, C2⟩ := P1
  refine lj_st (st' := [.int z]) rfl ?_
  refine lj_m (by decide +kernel) ?_
  refine lj_arg 1 (by omega) (by decide +kernel) (by decide +kernel) (by decide +kernel) (by decide +kernel) (by decide +kernel) ?_
  refine lj_call (Y := M_M_shoulders) (idx := 146) (r := 90) (bs := [.int (zI (xs (n + 1)).toInt)]) (rest := [.int z]) ok_M_shoulders rfl (inW4 (i := 187) rfl rfl) (inW4 (i := 188) rfl rfl) (inW4 (i := 189) rfl rfl) (Nat.le_of_ble_eq_true rfl) hm (Nat.le_of_ble_eq_true rfl) C2 (by decide +kernel) (fun v' h2 P2 => ?_)
  obtain ⟨z', rfl, hz, S2⟩ := P2
  refine lj_st (st' := .int z' :: [.int z]) rfl ?_
  refine lj_eqI (off := 146) (tgt := 1183) (by decide +kernel) rfl (hz trivial) ?_
  exact ih _ S2
theorem lc_32 (hn : n + 5 ≤ L) (S : PS (n = 0) h) (ih : ∀ h', PS False h' → LJ F σ n 1183 [] h') : LJ F σ n 1042 [] h := by
  have hL := F.2.2.2.1
  obtain ⟨fx, hx⟩ := S.c78
  refine lj_x (by decide +kernel) ?_
  refine lj_arg 1 (by omega) (by decide +kernel) (by decide +kernel) (by decide +kernel) (by decide +kernel) (by decide +kernel) ?_
  refine lj_call (Y := M_X_row) (idx := 147) (r := 78) (bs := [.int (zI (xs (n + 1)).toInt)]) (rest := []) ok_X_row rfl (inW2 (i := 179) rfl rfl) (inW2 (i := 180) rfl rfl) (inW2 (i := 181) rfl rfl) (Nat.le_of_ble_eq_true rfl) hx (Nat.le_of_ble_eq_true rfl) (pr_row (inI_x _) S) (by decide +kernel) (fun v h1 P1 => ?_)
  obtain ⟨z, rfl, ⟨fm, hm⟩, C2⟩ := P1
  refine lj_st (st' := [.int z]) rfl ?_
  refine lj_m (by decide +kernel) ?_
  refine lj_arg 1 (by omega) (by decide +kernel) (by decide +kernel) (by decide +kernel) (by decide +kernel) (by decide +kernel) ?_
  refine lj_call (Y := M_M_row) (idx := 150) (r := 90) (bs := [.int (zI (xs (n + 1)).toInt)]) (rest := [.int z]) ok_M_row rfl (inW4 (i := 191) rfl rfl) (inW4 (i := 192) rfl rfl) (inW4 (i := 193) rfl rfl) (Nat.le_of_ble_eq_true rfl) hm (Nat.le_of_ble_eq_true rfl) C2 (by decide +kernel) (fun v' h2 P2 => ?_)
  obtain ⟨z', rfl, hz, S2⟩ := P2
  refine lj_st (st' := .int z' :: [.int z]) rfl ?_
  refine lj_eqI (off := 123) (tgt := 1183) (by decide +kernel) rfl (hz trivial) ?_
  exact ih _ S2
theorem lc_33 (hn : n + 5 ≤ L) (S : PS (n = 0) h) (ih : ∀ h', PS False h' → LJ F σ n 1183 [] h') : LJ F σ n 1065 [] h := by
  have hL := F.2.2.2.1
  obtain ⟨fx, hx⟩ := S.c78
  refine lj_x (by decide +kernel) ?_
  refine lj_call (Y := M_X_judge) (idx := 151) (r := 78) (bs := []) (rest := []) ok_X_judge rfl (inW2 (i := 191) rfl rfl) (inW2 (i := 192) rfl rfl) (inW2 (i := 193) rfl rfl) (Nat.le_of_ble_eq_true rfl) hx (Nat.le_of_ble_eq_true rfl) (pr_judge  S) (by decide +kernel) (fun v h1 P1 => ?_)
  obtain ⟨z, rfl, ⟨fm, hm⟩, C2⟩ := P1
  refine lj_st (st' := [.int z]) rfl ?_
  refine lj_m (by decide +kernel) ?_
  refine lj_call (Y := M_M_judge) (idx := 154) (r := 90) (bs := []) (rest := [.int z]) ok_M_judge rfl (inW4 (i := 195) rfl rfl) (inW4 (i := 196) rfl rfl) (inW4 (i := 197) rfl rfl) (Nat.le_of_ble_eq_true rfl) hm (Nat.le_of_ble_eq_true rfl) C2 (by decide +kernel) (fun v' h2 P2 => ?_)
  obtain ⟨z', rfl, hz, S2⟩ := P2
  refine lj_st (st' := .int z' :: [.int z]) rfl ?_
  refine lj_eqI (off := 110) (tgt := 1183) (by decide +kernel) rfl (hz trivial) ?_
  exact ih _ S2
theorem lc_34 (hn : n + 5 ≤ L) (S : PS (n = 0) h) (ih : ∀ h', PS False h' → LJ F σ n 1183 [] h') : LJ F σ n 1078 [] h := by
  have hL := F.2.2.2.1
  obtain ⟨fx, hx⟩ := S.c78
  refine lj_x (by decide +kernel) ?_
  refine lj_call (Y := M_X_clear) (idx := 155) (r := 78) (bs := []) (rest := []) ok_X_clear rfl (inW2 (i := 200) rfl rfl) (inW2 (i := 201) rfl rfl) (inW2 (i := 202) rfl rfl) (Nat.le_of_ble_eq_true rfl) hx (Nat.le_of_ble_eq_true rfl) (pr_clear  S) (by decide +kernel) (fun v h1 P1 => ?_)
  obtain ⟨z, rfl, ⟨fm, hm⟩, C2⟩ := P1
  refine lj_st (st' := [.int z]) rfl ?_
  refine lj_m (by decide +kernel) ?_
  refine lj_call (Y := M_M_clear) (idx := 158) (r := 90) (bs := []) (rest := [.int z]) ok_M_clear rfl (inW4 (i := 199) rfl rfl) (inW4 (i := 200) rfl rfl) (inW4 (i := 201) rfl rfl) (Nat.le_of_ble_eq_true rfl) hm (Nat.le_of_ble_eq_true rfl) C2 (by decide +kernel) (fun v' h2 P2 => ?_)
  obtain ⟨z', rfl, hz, S2⟩ := P2
  refine lj_st (st' := .int z' :: [.int z]) rfl ?_
  refine lj_eqI (off := 97) (tgt := 1183) (by decide +kernel) rfl (hz trivial) ?_
  exact ih _ S2
theorem lc_35 (hn : n + 5 ≤ L) (S : PS (n = 0) h) (ih : ∀ h', PS False h' → LJ F σ n 1183 [] h') : LJ F σ n 1091 [] h := by
  have hL := F.2.2.2.1
  obtain ⟨fx, hx⟩ := S.c78
  refine lj_x (by decide +kernel) ?_
  refine lj_arg 1 (by omega) (by decide +kernel) (by decide +kernel) (by decide +kernel) (by decide +kernel) (by decide +kernel) ?_
  refine lj_arg 2 (by omega) (by decide +kernel) (by decide +kernel) (by decide +kernel) (by decide +kernel) (by decide +kernel) ?_
  refine lj_arg 3 (by omega) (by decide +kernel) (by decide +kernel) (by decide +kernel) (by decide +kernel) (by decide +kernel) ?_
  refine lj_call (Y := M_X_lots) (idx := 159) (r := 78) (bs := [.int (zI (xs (n + 1)).toInt), .int (zI (xs (n + 2)).toInt), .int (zI (xs (n + 3)).toInt)]) (rest := []) ok_X_lots rfl (inW2 (i := 204) rfl rfl) (inW2 (i := 205) rfl rfl) (inW2 (i := 206) rfl rfl) (Nat.le_of_ble_eq_true rfl) hx (Nat.le_of_ble_eq_true rfl) (pr_lots (inI_x _) (inI_x _) (inI_x _) S) (by decide +kernel) (fun v h1 P1 => ?_)
  obtain ⟨z, rfl, ⟨fm, hm⟩, C2⟩ := P1
  refine lj_st (st' := [.int z]) rfl ?_
  refine lj_m (by decide +kernel) ?_
  refine lj_arg 1 (by omega) (by decide +kernel) (by decide +kernel) (by decide +kernel) (by decide +kernel) (by decide +kernel) ?_
  refine lj_arg 2 (by omega) (by decide +kernel) (by decide +kernel) (by decide +kernel) (by decide +kernel) (by decide +kernel) ?_
  refine lj_arg 3 (by omega) (by decide +kernel) (by decide +kernel) (by decide +kernel) (by decide +kernel) (by decide +kernel) ?_
  refine lj_call (Y := M_M_lots) (idx := 162) (r := 90) (bs := [.int (zI (xs (n + 1)).toInt), .int (zI (xs (n + 2)).toInt), .int (zI (xs (n + 3)).toInt)]) (rest := [.int z]) ok_M_lots rfl (inW4 (i := 203) rfl rfl) (inW4 (i := 204) rfl rfl) (inW4 (i := 205) rfl rfl) (Nat.le_of_ble_eq_true rfl) hm (Nat.le_of_ble_eq_true rfl) C2 (by decide +kernel) (fun v' h2 P2 => ?_)
  obtain ⟨z', rfl, hz, S2⟩ := P2
  refine lj_st (st' := .int z' :: [.int z]) rfl ?_
  refine lj_eqI (off := 54) (tgt := 1183) (by decide +kernel) rfl (hz trivial) ?_
  exact ih _ S2
theorem lc_36 (hn : n + 5 ≤ L) (S : PS (n = 0) h) (ih : ∀ h', PS False h' → LJ F σ n 1183 [] h') : LJ F σ n 1134 [] h := by
  have hL := F.2.2.2.1
  obtain ⟨fx, hx⟩ := S.c78
  refine lj_x (by decide +kernel) ?_
  refine lj_call (Y := M_X_image) (idx := 163) (r := 78) (bs := []) (rest := []) ok_X_image rfl (inW2 (i := 222) rfl rfl) (inW2 (i := 223) rfl rfl) (inW2 (i := 224) rfl rfl) (Nat.le_of_ble_eq_true rfl) hx (Nat.le_of_ble_eq_true rfl) (pr_image  S) (by decide +kernel) (fun v h1 P1 => ?_)
  obtain ⟨z, rfl, ⟨fm, hm⟩, C2⟩ := P1
  refine lj_st (st' := [.int z]) rfl ?_
  refine lj_m (by decide +kernel) ?_
  refine lj_call (Y := M_M_image) (idx := 166) (r := 90) (bs := []) (rest := [.int z]) ok_M_image rfl (inW3 (i := 219) rfl rfl) (inW3 (i := 220) rfl rfl) (inW3 (i := 221) rfl rfl) (Nat.le_of_ble_eq_true rfl) hm (Nat.le_of_ble_eq_true rfl) C2 (by decide +kernel) (fun v' h2 P2 => ?_)
  obtain ⟨z', rfl, hz, S2⟩ := P2
  refine lj_st (st' := .int z' :: [.int z]) rfl ?_
  refine lj_eqI (off := 41) (tgt := 1183) (by decide +kernel) rfl (hz trivial) ?_
  exact ih _ S2
theorem lc_37 (hn : n + 5 ≤ L) (S : PS (n = 0) h) (ih : ∀ h', PS False h' → LJ F σ n 1183 [] h') : LJ F σ n 1147 [] h := by
  have hL := F.2.2.2.1
  obtain ⟨fx, hx⟩ := S.c78
  refine lj_x (by decide +kernel) ?_
  refine lj_call (Y := M_X_restore) (idx := 167) (r := 78) (bs := []) (rest := []) ok_X_restore rfl (inW2 (i := 226) rfl rfl) (inW2 (i := 227) rfl rfl) (inW2 (i := 228) rfl rfl) (Nat.le_of_ble_eq_true rfl) hx (Nat.le_of_ble_eq_true rfl) (pr_restore  S) (by decide +kernel) (fun v h1 P1 => ?_)
  obtain ⟨z, rfl, ⟨fm, hm⟩, C2⟩ := P1
  refine lj_st (st' := [.int z]) rfl ?_
  refine lj_m (by decide +kernel) ?_
  refine lj_call (Y := M_M_restore) (idx := 170) (r := 90) (bs := []) (rest := [.int z]) ok_M_restore rfl (inW3 (i := 223) rfl rfl) (inW3 (i := 224) rfl rfl) (inW3 (i := 225) rfl rfl) (Nat.le_of_ble_eq_true rfl) hm (Nat.le_of_ble_eq_true rfl) C2 (by decide +kernel) (fun v' h2 P2 => ?_)
  obtain ⟨z', rfl, hz, S2⟩ := P2
  refine lj_st (st' := .int z' :: [.int z]) rfl ?_
  refine lj_eqI (off := 28) (tgt := 1183) (by decide +kernel) rfl (hz trivial) ?_
  exact ih _ S2
theorem lc_38 (hn : n + 5 ≤ L) (S : PS (n = 0) h) (ih : ∀ h', PS False h' → LJ F σ n 1183 [] h') : LJ F σ n 1160 [] h := by
  have hL := F.2.2.2.1
  obtain ⟨fx, hx⟩ := S.c78
  refine lj_x (by decide +kernel) ?_
  refine lj_arg 1 (by omega) (by decide +kernel) (by decide +kernel) (by decide +kernel) (by decide +kernel) (by decide +kernel) ?_
  refine lj_call (Y := M_X_count) (idx := 171) (r := 78) (bs := [.int (zI (xs (n + 1)).toInt)]) (rest := []) ok_X_count rfl (inW2 (i := 230) rfl rfl) (inW2 (i := 231) rfl rfl) (inW2 (i := 232) rfl rfl) (Nat.le_of_ble_eq_true rfl) hx (Nat.le_of_ble_eq_true rfl) (pr_count (inI_x _) S) (by decide +kernel) (fun v h1 P1 => ?_)
  obtain ⟨z, rfl, ⟨fm, hm⟩, C2⟩ := P1
  refine lj_st (st' := [.int z]) rfl ?_
  refine lj_m (by decide +kernel) ?_
  refine lj_arg 1 (by omega) (by decide +kernel) (by decide +kernel) (by decide +kernel) (by decide +kernel) (by decide +kernel) ?_
  refine lj_call (Y := M_M_count) (idx := 174) (r := 90) (bs := [.int (zI (xs (n + 1)).toInt)]) (rest := [.int z]) ok_M_count rfl (inW4 (i := 214) rfl rfl) (inW4 (i := 215) rfl rfl) (inW4 (i := 216) rfl rfl) (Nat.le_of_ble_eq_true rfl) hm (Nat.le_of_ble_eq_true rfl) C2 (by decide +kernel) (fun v' h2 P2 => ?_)
  obtain ⟨z', rfl, hz, S2⟩ := P2
  refine lj_st (st' := .int z' :: [.int z]) rfl ?_
  refine lj_eqI (off := 5) (tgt := 1183) (by decide +kernel) rfl (hz trivial) ?_
  exact ih _ S2
theorem law_loop (k : Nat) : ∀ n : Nat, L + 10 ≤ n + 5 * k → n ≤ L + 5 → ∀ h, PS (n = 0) h → LJ F σ n 18 [] h := by
  have hL := F.2.2.2.1
  have hN := NN_le
  induction k with
  | zero => intro n h1 h2; omega
  | succ k ih =>
    intro n h1 h2 h S
    refine lj_head (off := 1166) (tgt := 1189) (by omega) (by decide +kernel) (by decide +kernel) (by decide +kernel) (by decide +kernel) (by decide +kernel) (by decide +kernel) rfl (fun _ => lj_ret (by decide +kernel) (by decide +kernel)) (fun hn => ?_)
    refine lj_key (by omega) (by decide +kernel) (by decide +kernel) (by decide +kernel) (by decide +kernel) (by decide +kernel) (fun x => ?_)
    have go : ∀ h', PS False h' → LJ F σ n 1183 [] h' := fun h' S' => lj_end (off := -1168) (tgt := 18) (by decide +kernel) (by decide +kernel) rfl (ih (n + 5) (by omega) (by omega) h' (S'.any (by omega)))
    have go2 : LJ F σ n 1183 [] h := by
      obtain ⟨R, I, im, P, pz, lt, lsz, tn, tsz, rf, WX, WM, hR, hI, hP, him, hL, hT, _⟩ := S
      exact go h ⟨R, I, im, P, pz, lt, lsz, tn, tsz, rf, WX, WM, hR, hI, hP, him, hL, hT, fun q => absurd q id⟩
    refine lj_table (d := 1151) (offs := #[172, 195, 208, 241, 264, 297, 320, 353, 376, 399, 422, 435, 468, 501, 524, 547, 570, 593, 616, 639, 672, 695, 708, 741, 784, 838, 871, 894, 918, 941, 964, 987, 1010, 1033, 1046, 1059, 1102, 1115, 1128]) (len := 172) (tg := 1183) (T := [204, 227, 240, 273, 296, 329, 352, 385, 408, 431, 454, 467, 500, 533, 556, 579, 602, 625, 648, 671, 704, 727, 740, 773, 816, 870, 903, 926, 950, 973, 996, 1019, 1042, 1065, 1078, 1091, 1134, 1147, 1160]) (by decide +kernel) (by decide +kernel) rfl go2 ?_
    exact all39 (P := fun t => LJ F σ n ([204, 227, 240, 273, 296, 329, 352, 385, 408, 431, 454, 467, 500, 533, 556, 579, 602, 625, 648, 671, 704, 727, 740, 773, 816, 870, 903, 926, 950, 973, 996, 1019, 1042, 1065, 1078, 1091, 1134, 1147, 1160].getD t 0) [] h) (lc_0 hn S go) (lc_1 hn S go) (lc_2 hn S go) (lc_3 hn S go) (lc_4 hn S go) (lc_5 hn S go) (lc_6 hn S go) (lc_7 hn S go) (lc_8 hn S go) (lc_9 hn S go) (lc_10 hn S go) (lc_11 hn S go) (lc_12 hn S go) (lc_13 hn S go) (lc_14 hn S go) (lc_15 hn S go) (lc_16 hn S go) (lc_17 hn S go) (lc_18 hn S go) (lc_19 hn S go) (lc_20 hn S go) (lc_21 hn S go) (lc_22 hn S go) (lc_23 hn S go) (lc_24 hn S go) (lc_25 hn S go) (lc_26 hn S go) (lc_27 hn S go) (lc_28 hn S go) (lc_29 hn S go) (lc_30 hn S go) (lc_31 hn S go) (lc_32 hn S go) (lc_33 hn S go) (lc_34 hn S go) (lc_35 hn S go) (lc_36 hn S go) (lc_37 hn S go) (lc_38 hn S go)
end LAWC
