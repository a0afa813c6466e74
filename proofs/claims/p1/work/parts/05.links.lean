theorem kx_0 : clsOk 0 := ⟨by decide +kernel, by decide +kernel, by decide +kernel, (inW0 (i := 7) rfl rfl)⟩
theorem kx_1 : clsOk 1 := ⟨by decide +kernel, by decide +kernel, by decide +kernel, (inW0 (i := 6) rfl rfl)⟩
theorem kx_2 : clsOk 2 := ⟨by decide +kernel, by decide +kernel, by decide +kernel, (inW0 (i := 4) rfl rfl)⟩
theorem kx_3 : clsOk 3 := ⟨by decide +kernel, by decide +kernel, by decide +kernel, (inW0 (i := 3) rfl rfl)⟩
theorem kx_4 : clsOk 4 := ⟨by decide +kernel, by decide +kernel, by decide +kernel, (inW0 (i := 2) rfl rfl)⟩
theorem kx_5 : clsOk 5 := ⟨by decide +kernel, by decide +kernel, by decide +kernel, (inW0 (i := 5) rfl rfl)⟩
theorem kx_6 : clsOk 6 := ⟨by decide +kernel, by decide +kernel, by decide +kernel, (inW0 (i := 1) rfl rfl)⟩
theorem kx_7 : clsOk 7 := ⟨by decide +kernel, by decide +kernel, by decide +kernel, (inW0 (i := 8) rfl rfl)⟩
theorem kx_8 : clsOk 8 := ⟨by decide +kernel, by decide +kernel, by decide +kernel, (inW0 (i := 11) rfl rfl)⟩
theorem kd_0 : descOk "()V" 0 := by unfold descOk; decide +kernel
theorem kd_1 : descOk "(I)I" 1 := by unfold descOk; decide +kernel
theorem kd_2 : descOk "()I" 0 := by unfold descOk; decide +kernel
theorem kd_3 : descOk "(I)Z" 1 := by unfold descOk; decide +kernel
theorem kd_4 : descOk "(II)I" 2 := by unfold descOk; decide +kernel
theorem kd_5 : descOk "(III)I" 3 := by unfold descOk; decide +kernel
theorem kd_6 : descOk "(IIII)J" 4 := by unfold descOk; decide +kernel
theorem kd_7 : descOk "(I)J" 1 := by unfold descOk; decide +kernel
theorem kd_8 : descOk "(JI)J" 2 := by unfold descOk; decide +kernel
theorem kd_9 : descOk "(JJI)J" 3 := by unfold descOk; decide +kernel
theorem kd_10 : descOk "(JJ)J" 2 := by unfold descOk; decide +kernel
theorem kd_11 : descOk "(JJJ)Z" 3 := by unfold descOk; decide +kernel
theorem kd_12 : descOk "(II)Z" 2 := by unfold descOk; decide +kernel
theorem kd_13 : descOk "(I)V" 1 := by unfold descOk; decide +kernel
theorem kd_14 : descOk "(II)V" 2 := by unfold descOk; decide +kernel
theorem kd_15 : descOk "([IZ)V" 2 := by unfold descOk; decide +kernel
theorem kd_16 : descOk "(LCarriedHome$Realm;III)J" 4 := by unfold descOk; decide +kernel
theorem kd_17 : descOk "(LCarriedHome$Realm;IIZ)I" 4 := by unfold descOk; decide +kernel
theorem kd_18 : descOk "(LCarriedHome$Realm;)I" 1 := by unfold descOk; decide +kernel
theorem kd_19 : descOk "(LCarriedHome$Realm;I)I" 2 := by unfold descOk; decide +kernel
theorem kd_20 : descOk "(LCarriedHome$Realm;IZ)I" 3 := by unfold descOk; decide +kernel
theorem kd_21 : descOk "(LCarriedHome$Realm;LCarriedHome$Row;)I" 2 := by unfold descOk; decide +kernel
theorem kd_22 : descOk "(LCarriedHome$Row;)Z" 1 := by unfold descOk; decide +kernel
theorem kd_23 : descOk "(LCarriedHome$Realm;LCarriedHome$Row;I)I" 3 := by unfold descOk; decide +kernel
theorem kd_24 : descOk "(LCarriedHome$Row;I)Z" 2 := by unfold descOk; decide +kernel
theorem kd_25 : descOk "(LCarriedHome$Realm;III)I" 4 := by unfold descOk; decide +kernel
theorem kd_26 : descOk "()Z" 0 := by unfold descOk; decide +kernel
theorem kd_27 : descOk "(LCarriedHome$Realm;)V" 1 := by unfold descOk; decide +kernel
theorem ok_X_init : okM M_X_init := ⟨(inW0 (i := 16) rfl rfl), rfl, kx_6, kd_0, Nat.le_of_ble_eq_true rfl⟩
theorem ok_X_feed : okM M_X_feed := ⟨(inW0 (i := 180) rfl rfl), rfl, kx_6, kd_1, Nat.le_of_ble_eq_true rfl⟩
theorem ok_X_reign : okM M_X_reign := ⟨(inW0 (i := 196) rfl rfl), rfl, kx_6, kd_2, Nat.le_of_ble_eq_true rfl⟩
theorem ok_X_obeys : okM M_X_obeys := ⟨(inW0 (i := 228) rfl rfl), rfl, kx_6, kd_3, Nat.le_of_ble_eq_true rfl⟩
theorem ok_X_manOf : okM M_X_manOf := ⟨(inW1 (i := 92) rfl rfl), rfl, kx_6, kd_4, Nat.le_of_ble_eq_true rfl⟩
theorem ok_X_slope : okM M_X_slope := ⟨(inW1 (i := 115) rfl rfl), rfl, kx_6, kd_1, Nat.le_of_ble_eq_true rfl⟩
theorem ok_X_man : okM M_X_man := ⟨(inW1 (i := 121) rfl rfl), rfl, kx_6, kd_4, Nat.le_of_ble_eq_true rfl⟩
theorem ok_X_pardons : okM M_X_pardons := ⟨(inW1 (i := 126) rfl rfl), rfl, kx_6, kd_1, Nat.le_of_ble_eq_true rfl⟩
theorem ok_X_slopes : okM M_X_slopes := ⟨(inW1 (i := 139) rfl rfl), rfl, kx_6, kd_4, Nat.le_of_ble_eq_true rfl⟩
theorem ok_X_loads : okM M_X_loads := ⟨(inW1 (i := 143) rfl rfl), rfl, kx_6, kd_1, Nat.le_of_ble_eq_true rfl⟩
theorem ok_X_snows : okM M_X_snows := ⟨(inW1 (i := 147) rfl rfl), rfl, kx_6, kd_1, Nat.le_of_ble_eq_true rfl⟩
theorem ok_X_days : okM M_X_days := ⟨(inW1 (i := 151) rfl rfl), rfl, kx_6, kd_1, Nat.le_of_ble_eq_true rfl⟩
theorem ok_X_back : okM M_X_back := ⟨(inW1 (i := 155) rfl rfl), rfl, kx_6, kd_2, Nat.le_of_ble_eq_true rfl⟩
theorem ok_X_then : okM M_X_then := ⟨(inW1 (i := 163) rfl rfl), rfl, kx_6, kd_4, Nat.le_of_ble_eq_true rfl⟩
theorem ok_X_wornIn : okM M_X_wornIn := ⟨(inW1 (i := 171) rfl rfl), rfl, kx_6, kd_4, Nat.le_of_ble_eq_true rfl⟩
theorem ok_X_home : okM M_X_home := ⟨(inW1 (i := 175) rfl rfl), rfl, kx_6, kd_1, Nat.le_of_ble_eq_true rfl⟩
theorem ok_X_dies : okM M_X_dies := ⟨(inW1 (i := 188) rfl rfl), rfl, kx_6, kd_1, Nat.le_of_ble_eq_true rfl⟩
theorem ok_X_mercy : okM M_X_mercy := ⟨(inW1 (i := 201) rfl rfl), rfl, kx_6, kd_1, Nat.le_of_ble_eq_true rfl⟩
theorem ok_X_fewest : okM M_X_fewest := ⟨(inW1 (i := 214) rfl rfl), rfl, kx_6, kd_1, Nat.le_of_ble_eq_true rfl⟩
theorem ok_X_crown : okM M_X_crown := ⟨(inW1 (i := 233) rfl rfl), rfl, kx_6, kd_1, Nat.le_of_ble_eq_true rfl⟩
theorem ok_X_dig : okM M_X_dig := ⟨(inW2 (i := 1) rfl rfl), rfl, kx_6, kd_1, Nat.le_of_ble_eq_true rfl⟩
theorem ok_X_keep : okM M_X_keep := ⟨(inW2 (i := 10) rfl rfl), rfl, kx_6, kd_4, Nat.le_of_ble_eq_true rfl⟩
theorem ok_X_pairs : okM M_X_pairs := ⟨(inW2 (i := 21) rfl rfl), rfl, kx_6, kd_1, Nat.le_of_ble_eq_true rfl⟩
theorem ok_X_whoBore : okM M_X_whoBore := ⟨(inW2 (i := 49) rfl rfl), rfl, kx_6, kd_2, Nat.le_of_ble_eq_true rfl⟩
theorem ok_X_whatKind : okM M_X_whatKind := ⟨(inW2 (i := 65) rfl rfl), rfl, kx_6, kd_4, Nat.le_of_ble_eq_true rfl⟩
theorem ok_X_two : okM M_X_two := ⟨(inW2 (i := 90) rfl rfl), rfl, kx_6, kd_5, Nat.le_of_ble_eq_true rfl⟩
theorem ok_X_falls : okM M_X_falls := ⟨(inW2 (i := 98) rfl rfl), rfl, kx_6, kd_6, Nat.le_of_ble_eq_true rfl⟩
theorem ok_X_shares : okM M_X_shares := ⟨(inW2 (i := 124) rfl rfl), rfl, kx_6, kd_4, Nat.le_of_ble_eq_true rfl⟩
theorem ok_X_strongest : okM M_X_strongest := ⟨(inW2 (i := 128) rfl rfl), rfl, kx_6, kd_1, Nat.le_of_ble_eq_true rfl⟩
theorem ok_X_mean : okM M_X_mean := ⟨(inW2 (i := 138) rfl rfl), rfl, kx_6, kd_7, Nat.le_of_ble_eq_true rfl⟩
theorem ok_X_spare : okM M_X_spare := ⟨(inW2 (i := 146) rfl rfl), rfl, kx_6, kd_1, Nat.le_of_ble_eq_true rfl⟩
theorem ok_X_height : okM M_X_height := ⟨(inW2 (i := 151) rfl rfl), rfl, kx_6, kd_1, Nat.le_of_ble_eq_true rfl⟩
theorem ok_X_eased : okM M_X_eased := ⟨(inW2 (i := 166) rfl rfl), rfl, kx_6, kd_1, Nat.le_of_ble_eq_true rfl⟩
theorem ok_X_shoulders : okM M_X_shoulders := ⟨(inW2 (i := 174) rfl rfl), rfl, kx_6, kd_1, Nat.le_of_ble_eq_true rfl⟩
theorem ok_X_row : okM M_X_row := ⟨(inW2 (i := 182) rfl rfl), rfl, kx_6, kd_1, Nat.le_of_ble_eq_true rfl⟩
theorem ok_X_judge : okM M_X_judge := ⟨(inW2 (i := 194) rfl rfl), rfl, kx_6, kd_2, Nat.le_of_ble_eq_true rfl⟩
theorem ok_X_clear : okM M_X_clear := ⟨(inW2 (i := 203) rfl rfl), rfl, kx_6, kd_2, Nat.le_of_ble_eq_true rfl⟩
theorem ok_X_lots : okM M_X_lots := ⟨(inW2 (i := 207) rfl rfl), rfl, kx_6, kd_5, Nat.le_of_ble_eq_true rfl⟩
theorem ok_X_image : okM M_X_image := ⟨(inW2 (i := 225) rfl rfl), rfl, kx_6, kd_2, Nat.le_of_ble_eq_true rfl⟩
theorem ok_X_restore : okM M_X_restore := ⟨(inW2 (i := 229) rfl rfl), rfl, kx_6, kd_2, Nat.le_of_ble_eq_true rfl⟩
theorem ok_X_count : okM M_X_count := ⟨(inW2 (i := 233) rfl rfl), rfl, kx_6, kd_1, Nat.le_of_ble_eq_true rfl⟩
theorem ok_X_refuse : okM M_X_refuse := ⟨(inW0 (i := 184) rfl rfl), rfl, kx_6, kd_1, Nat.le_of_ble_eq_true rfl⟩
theorem ok_X_outside : okM M_X_outside := ⟨(inW1 (i := 23) rfl rfl), rfl, kx_6, kd_5, Nat.le_of_ble_eq_true rfl⟩
theorem ok_X_isStage : okM M_X_isStage := ⟨(inW1 (i := 20) rfl rfl), rfl, kx_6, kd_3, Nat.le_of_ble_eq_true rfl⟩
theorem ok_X_isKind : okM M_X_isKind := ⟨(inW1 (i := 5) rfl rfl), rfl, kx_6, kd_3, Nat.le_of_ble_eq_true rfl⟩
theorem ok_X_isOneOfTwo : okM M_X_isOneOfTwo := ⟨(inW2 (i := 13) rfl rfl), rfl, kx_6, kd_3, Nat.le_of_ble_eq_true rfl⟩
theorem ok_X_power : okM M_X_power := ⟨(inW2 (i := 113) rfl rfl), rfl, kx_6, kd_8, Nat.le_of_ble_eq_true rfl⟩
theorem ok_X_inLowestTerms : okM M_X_inLowestTerms := ⟨(inW2 (i := 117) rfl rfl), rfl, kx_6, kd_9, Nat.le_of_ble_eq_true rfl⟩
theorem ok_X_commonDivisor : okM M_X_commonDivisor := ⟨(inW2 (i := 120) rfl rfl), rfl, kx_6, kd_10, Nat.le_of_ble_eq_true rfl⟩
theorem ok_M_init : okM M_M_init := ⟨(inW2 (i := 238) rfl rfl), rfl, kx_7, kd_0, Nat.le_of_ble_eq_true rfl⟩
theorem ok_M_in : okM M_M_in := ⟨(inW3 (i := 135) rfl rfl), rfl, kx_7, kd_11, Nat.le_of_ble_eq_true rfl⟩
theorem ok_M_refuse : okM M_M_refuse := ⟨(inW3 (i := 107) rfl rfl), rfl, kx_7, kd_1, Nat.le_of_ble_eq_true rfl⟩
theorem ok_M_isMan : okM M_M_isMan := ⟨(inW3 (i := 163) rfl rfl), rfl, kx_7, kd_3, Nat.le_of_ble_eq_true rfl⟩
theorem ok_M_wrongNumber : okM M_M_wrongNumber := ⟨(inW4 (i := 7) rfl rfl), rfl, kx_7, kd_5, Nat.le_of_ble_eq_true rfl⟩
theorem ok_M_wrongBit : okM M_M_wrongBit := ⟨(inW4 (i := 38) rfl rfl), rfl, kx_7, kd_5, Nat.le_of_ble_eq_true rfl⟩
theorem ok_M_hasBit : okM M_M_hasBit := ⟨(inW3 (i := 187) rfl rfl), rfl, kx_7, kd_12, Nat.le_of_ble_eq_true rfl⟩
theorem ok_M_onesOf : okM M_M_onesOf := ⟨(inW4 (i := 82) rfl rfl), rfl, kx_7, kd_1, Nat.le_of_ble_eq_true rfl⟩
theorem ok_M_held : okM M_M_held := ⟨(inW3 (i := 210) rfl rfl), rfl, kx_7, kd_4, Nat.le_of_ble_eq_true rfl⟩
theorem ok_M_bearsOf : okM M_M_bearsOf := ⟨(inW3 (i := 191) rfl rfl), rfl, kx_7, kd_1, Nat.le_of_ble_eq_true rfl⟩
theorem ok_M_lastsOf : okM M_M_lastsOf := ⟨(inW3 (i := 214) rfl rfl), rfl, kx_7, kd_1, Nat.le_of_ble_eq_true rfl⟩
theorem ok_M_isFeuding : okM M_M_isFeuding := ⟨(inW3 (i := 207) rfl rfl), rfl, kx_7, kd_3, Nat.le_of_ble_eq_true rfl⟩
theorem ok_M_feudingIn : okM M_M_feudingIn := ⟨(inW3 (i := 203) rfl rfl), rfl, kx_7, kd_1, Nat.le_of_ble_eq_true rfl⟩
theorem ok_M_wearsOf : okM M_M_wearsOf := ⟨(inW3 (i := 199) rfl rfl), rfl, kx_7, kd_5, Nat.le_of_ble_eq_true rfl⟩
theorem ok_M_neededHere : okM M_M_neededHere := ⟨(inW3 (i := 195) rfl rfl), rfl, kx_7, kd_2, Nat.le_of_ble_eq_true rfl⟩
theorem ok_M_strongestBut : okM M_M_strongestBut := ⟨(inW3 (i := 184) rfl rfl), rfl, kx_7, kd_1, Nat.le_of_ble_eq_true rfl⟩
theorem ok_M_bearersNow : okM M_M_bearersNow := ⟨(inW3 (i := 180) rfl rfl), rfl, kx_7, kd_2, Nat.le_of_ble_eq_true rfl⟩
theorem ok_M_dayOn : okM M_M_dayOn := ⟨(inW3 (i := 176) rfl rfl), rfl, kx_7, kd_0, Nat.le_of_ble_eq_true rfl⟩
theorem ok_M_goDays : okM M_M_goDays := ⟨(inW3 (i := 172) rfl rfl), rfl, kx_7, kd_13, Nat.le_of_ble_eq_true rfl⟩
theorem ok_M_bitsOf : okM M_M_bitsOf := ⟨(inW4 (i := 46) rfl rfl), rfl, kx_7, kd_1, Nat.le_of_ble_eq_true rfl⟩
theorem ok_M_allBear : okM M_M_allBear := ⟨(inW4 (i := 118) rfl rfl), rfl, kx_7, kd_2, Nat.le_of_ble_eq_true rfl⟩
theorem ok_M_manComes : okM M_M_manComes := ⟨(inW3 (i := 155) rfl rfl), rfl, kx_7, kd_12, Nat.le_of_ble_eq_true rfl⟩
theorem ok_M_feed : okM M_M_feed := ⟨(inW3 (i := 103) rfl rfl), rfl, kx_7, kd_1, Nat.le_of_ble_eq_true rfl⟩
theorem ok_M_here : okM M_M_here := ⟨(inW3 (i := 119) rfl rfl), rfl, kx_7, kd_2, Nat.le_of_ble_eq_true rfl⟩
theorem ok_M_readDigits : okM M_M_readDigits := ⟨(inW3 (i := 130) rfl rfl), rfl, kx_7, kd_1, Nat.le_of_ble_eq_true rfl⟩
theorem ok_M_isLetter : okM M_M_isLetter := ⟨(inW3 (i := 122) rfl rfl), rfl, kx_7, kd_3, Nat.le_of_ble_eq_true rfl⟩
theorem ok_M_readNumbers : okM M_M_readNumbers := ⟨(inW3 (i := 126) rfl rfl), rfl, kx_7, kd_14, Nat.le_of_ble_eq_true rfl⟩
theorem ok_M_readStatement : okM M_M_readStatement := ⟨(inW3 (i := 115) rfl rfl), rfl, kx_7, kd_0, Nat.le_of_ble_eq_true rfl⟩
theorem ok_M_pardonTold : okM M_M_pardonTold := ⟨(inW3 (i := 159) rfl rfl), rfl, kx_7, kd_3, Nat.le_of_ble_eq_true rfl⟩
theorem ok_M_daysTold : okM M_M_daysTold := ⟨(inW3 (i := 168) rfl rfl), rfl, kx_7, kd_3, Nat.le_of_ble_eq_true rfl⟩
theorem ok_M_comesTold : okM M_M_comesTold := ⟨(inW3 (i := 151) rfl rfl), rfl, kx_7, kd_3, Nat.le_of_ble_eq_true rfl⟩
theorem ok_M_reign : okM M_M_reign := ⟨(inW3 (i := 111) rfl rfl), rfl, kx_7, kd_2, Nat.le_of_ble_eq_true rfl⟩
theorem ok_M_carry : okM M_M_carry := ⟨(inW3 (i := 147) rfl rfl), rfl, kx_7, kd_1, Nat.le_of_ble_eq_true rfl⟩
theorem ok_M_carryAll : okM M_M_carryAll := ⟨(inW3 (i := 143) rfl rfl), rfl, kx_7, kd_15, Nat.le_of_ble_eq_true rfl⟩
theorem ok_M_think : okM M_M_think := ⟨(inW3 (i := 139) rfl rfl), rfl, kx_7, kd_0, Nat.le_of_ble_eq_true rfl⟩
theorem ok_M_again : okM M_M_again := ⟨(inW3 (i := 218) rfl rfl), rfl, kx_7, kd_0, Nat.le_of_ble_eq_true rfl⟩
theorem ok_M_image : okM M_M_image := ⟨(inW3 (i := 222) rfl rfl), rfl, kx_7, kd_2, Nat.le_of_ble_eq_true rfl⟩
theorem ok_M_restore : okM M_M_restore := ⟨(inW3 (i := 226) rfl rfl), rfl, kx_7, kd_2, Nat.le_of_ble_eq_true rfl⟩
theorem ok_M_keepTurn : okM M_M_keepTurn := ⟨(inW4 (i := 15) rfl rfl), rfl, kx_7, kd_0, Nat.le_of_ble_eq_true rfl⟩
theorem ok_M_back : okM M_M_back := ⟨(inW3 (i := 230) rfl rfl), rfl, kx_7, kd_2, Nat.le_of_ble_eq_true rfl⟩
theorem ok_M_manOf : okM M_M_manOf := ⟨(inW3 (i := 234) rfl rfl), rfl, kx_7, kd_4, Nat.le_of_ble_eq_true rfl⟩
theorem ok_M_slope : okM M_M_slope := ⟨(inW3 (i := 239) rfl rfl), rfl, kx_7, kd_1, Nat.le_of_ble_eq_true rfl⟩
theorem ok_M_man : okM M_M_man := ⟨(inW4 (i := 4) rfl rfl), rfl, kx_7, kd_4, Nat.le_of_ble_eq_true rfl⟩
theorem ok_M_pardons : okM M_M_pardons := ⟨(inW4 (i := 11) rfl rfl), rfl, kx_7, kd_1, Nat.le_of_ble_eq_true rfl⟩
theorem ok_M_slopes : okM M_M_slopes := ⟨(inW4 (i := 19) rfl rfl), rfl, kx_7, kd_4, Nat.le_of_ble_eq_true rfl⟩
theorem ok_M_loads : okM M_M_loads := ⟨(inW4 (i := 23) rfl rfl), rfl, kx_7, kd_1, Nat.le_of_ble_eq_true rfl⟩
theorem ok_M_snows : okM M_M_snows := ⟨(inW4 (i := 27) rfl rfl), rfl, kx_7, kd_1, Nat.le_of_ble_eq_true rfl⟩
theorem ok_M_days : okM M_M_days := ⟨(inW4 (i := 31) rfl rfl), rfl, kx_7, kd_1, Nat.le_of_ble_eq_true rfl⟩
theorem ok_M_waitsIn : okM M_M_waitsIn := ⟨(inW4 (i := 42) rfl rfl), rfl, kx_7, kd_1, Nat.le_of_ble_eq_true rfl⟩
theorem ok_M_then : okM M_M_then := ⟨(inW4 (i := 35) rfl rfl), rfl, kx_7, kd_4, Nat.le_of_ble_eq_true rfl⟩
theorem ok_M_wornIn : okM M_M_wornIn := ⟨(inW4 (i := 50) rfl rfl), rfl, kx_7, kd_4, Nat.le_of_ble_eq_true rfl⟩
theorem ok_M_homeIn : okM M_M_homeIn := ⟨(inW4 (i := 58) rfl rfl), rfl, kx_7, kd_2, Nat.le_of_ble_eq_true rfl⟩
theorem ok_M_home : okM M_M_home := ⟨(inW4 (i := 54) rfl rfl), rfl, kx_7, kd_1, Nat.le_of_ble_eq_true rfl⟩
theorem ok_M_diesIn : okM M_M_diesIn := ⟨(inW4 (i := 67) rfl rfl), rfl, kx_7, kd_1, Nat.le_of_ble_eq_true rfl⟩
theorem ok_M_dies : okM M_M_dies := ⟨(inW4 (i := 62) rfl rfl), rfl, kx_7, kd_1, Nat.le_of_ble_eq_true rfl⟩
theorem ok_M_kingThen : okM M_M_kingThen := ⟨(inW4 (i := 75) rfl rfl), rfl, kx_7, kd_1, Nat.le_of_ble_eq_true rfl⟩
theorem ok_M_mercy : okM M_M_mercy := ⟨(inW4 (i := 71) rfl rfl), rfl, kx_7, kd_1, Nat.le_of_ble_eq_true rfl⟩
theorem ok_M_fewest : okM M_M_fewest := ⟨(inW4 (i := 79) rfl rfl), rfl, kx_7, kd_1, Nat.le_of_ble_eq_true rfl⟩
theorem ok_M_crown : okM M_M_crown := ⟨(inW4 (i := 86) rfl rfl), rfl, kx_7, kd_1, Nat.le_of_ble_eq_true rfl⟩
theorem ok_M_dig : okM M_M_dig := ⟨(inW4 (i := 90) rfl rfl), rfl, kx_7, kd_1, Nat.le_of_ble_eq_true rfl⟩
theorem ok_M_keep : okM M_M_keep := ⟨(inW4 (i := 94) rfl rfl), rfl, kx_7, kd_4, Nat.le_of_ble_eq_true rfl⟩
theorem ok_M_pairsNow : okM M_M_pairsNow := ⟨(inW4 (i := 102) rfl rfl), rfl, kx_7, kd_2, Nat.le_of_ble_eq_true rfl⟩
theorem ok_M_bearIn : okM M_M_bearIn := ⟨(inW4 (i := 110) rfl rfl), rfl, kx_7, kd_1, Nat.le_of_ble_eq_true rfl⟩
theorem ok_M_leastPoles : okM M_M_leastPoles := ⟨(inW4 (i := 106) rfl rfl), rfl, kx_7, kd_2, Nat.le_of_ble_eq_true rfl⟩
theorem ok_M_owing : okM M_M_owing := ⟨(inW4 (i := 114) rfl rfl), rfl, kx_7, kd_2, Nat.le_of_ble_eq_true rfl⟩
theorem ok_M_pairs : okM M_M_pairs := ⟨(inW4 (i := 98) rfl rfl), rfl, kx_7, kd_1, Nat.le_of_ble_eq_true rfl⟩
theorem ok_M_isRow : okM M_M_isRow := ⟨(inW4 (i := 127) rfl rfl), rfl, kx_7, kd_3, Nat.le_of_ble_eq_true rfl⟩
theorem ok_M_whoBore : okM M_M_whoBore := ⟨(inW4 (i := 123) rfl rfl), rfl, kx_7, kd_2, Nat.le_of_ble_eq_true rfl⟩
theorem ok_M_whatKind : okM M_M_whatKind := ⟨(inW4 (i := 131) rfl rfl), rfl, kx_7, kd_4, Nat.le_of_ble_eq_true rfl⟩
theorem ok_M_two : okM M_M_two := ⟨(inW4 (i := 135) rfl rfl), rfl, kx_7, kd_5, Nat.le_of_ble_eq_true rfl⟩
theorem ok_M_divisor : okM M_M_divisor := ⟨(inW4 (i := 146) rfl rfl), rfl, kx_7, kd_10, Nat.le_of_ble_eq_true rfl⟩
theorem ok_M_partOf : okM M_M_partOf := ⟨(inW4 (i := 143) rfl rfl), rfl, kx_7, kd_9, Nat.le_of_ble_eq_true rfl⟩
theorem ok_M_falls : okM M_M_falls := ⟨(inW4 (i := 139) rfl rfl), rfl, kx_7, kd_6, Nat.le_of_ble_eq_true rfl⟩
theorem ok_M_shares : okM M_M_shares := ⟨(inW4 (i := 150) rfl rfl), rfl, kx_7, kd_4, Nat.le_of_ble_eq_true rfl⟩
theorem ok_M_steepestStage : okM M_M_steepestStage := ⟨(inW4 (i := 158) rfl rfl), rfl, kx_7, kd_2, Nat.le_of_ble_eq_true rfl⟩
theorem ok_M_strongest : okM M_M_strongest := ⟨(inW4 (i := 154) rfl rfl), rfl, kx_7, kd_1, Nat.le_of_ble_eq_true rfl⟩
theorem ok_M_slopesLeft : okM M_M_slopesLeft := ⟨(inW4 (i := 166) rfl rfl), rfl, kx_7, kd_2, Nat.le_of_ble_eq_true rfl⟩
theorem ok_M_mean : okM M_M_mean := ⟨(inW4 (i := 162) rfl rfl), rfl, kx_7, kd_7, Nat.le_of_ble_eq_true rfl⟩
theorem ok_M_spare : okM M_M_spare := ⟨(inW4 (i := 170) rfl rfl), rfl, kx_7, kd_1, Nat.le_of_ble_eq_true rfl⟩
theorem ok_M_stuckAt : okM M_M_stuckAt := ⟨(inW4 (i := 178) rfl rfl), rfl, kx_7, kd_2, Nat.le_of_ble_eq_true rfl⟩
theorem ok_M_lameDays : okM M_M_lameDays := ⟨(inW4 (i := 182) rfl rfl), rfl, kx_7, kd_2, Nat.le_of_ble_eq_true rfl⟩
theorem ok_M_height : okM M_M_height := ⟨(inW4 (i := 174) rfl rfl), rfl, kx_7, kd_1, Nat.le_of_ble_eq_true rfl⟩
theorem ok_M_eased : okM M_M_eased := ⟨(inW4 (i := 186) rfl rfl), rfl, kx_7, kd_1, Nat.le_of_ble_eq_true rfl⟩
theorem ok_M_shoulders : okM M_M_shoulders := ⟨(inW4 (i := 190) rfl rfl), rfl, kx_7, kd_1, Nat.le_of_ble_eq_true rfl⟩
theorem ok_M_row : okM M_M_row := ⟨(inW4 (i := 194) rfl rfl), rfl, kx_7, kd_1, Nat.le_of_ble_eq_true rfl⟩
theorem ok_M_judge : okM M_M_judge := ⟨(inW4 (i := 198) rfl rfl), rfl, kx_7, kd_2, Nat.le_of_ble_eq_true rfl⟩
theorem ok_M_clear : okM M_M_clear := ⟨(inW4 (i := 202) rfl rfl), rfl, kx_7, kd_2, Nat.le_of_ble_eq_true rfl⟩
theorem ok_M_drawBelow : okM M_M_drawBelow := ⟨(inW4 (i := 210) rfl rfl), rfl, kx_7, kd_1, Nat.le_of_ble_eq_true rfl⟩
theorem ok_M_lots : okM M_M_lots := ⟨(inW4 (i := 206) rfl rfl), rfl, kx_7, kd_5, Nat.le_of_ble_eq_true rfl⟩
theorem ok_M_count : okM M_M_count := ⟨(inW4 (i := 217) rfl rfl), rfl, kx_7, kd_1, Nat.le_of_ble_eq_true rfl⟩
theorem ok_Ch_init : okM M_Ch_init := ⟨(inW0 (i := 135) rfl rfl), rfl, kx_0, kd_0, Nat.le_of_ble_eq_true rfl⟩
theorem ok_Ch_waysToBeAt : okM M_Ch_waysToBeAt := ⟨(inW2 (i := 103) rfl rfl), rfl, kx_0, kd_16, Nat.le_of_ble_eq_true rfl⟩
theorem ok_Ch_reignsByLot : okM M_Ch_reignsByLot := ⟨(inW2 (i := 211) rfl rfl), rfl, kx_0, kd_17, Nat.le_of_ble_eq_true rfl⟩
theorem ok_Ch_drawDigit : okM M_Ch_drawDigit := ⟨(inW2 (i := 215) rfl rfl), rfl, kx_0, kd_2, Nat.le_of_ble_eq_true rfl⟩
theorem ok_Co_init : okM M_Co_init := ⟨(inW0 (i := 117) rfl rfl), rfl, kx_1, kd_0, Nat.le_of_ble_eq_true rfl⟩
theorem ok_Co_daysToHome : okM M_Co_daysToHome := ⟨(inW1 (i := 179) rfl rfl), rfl, kx_1, kd_18, Nat.le_of_ble_eq_true rfl⟩
theorem ok_Co_daysToDeath : okM M_Co_daysToDeath := ⟨(inW1 (i := 197) rfl rfl), rfl, kx_1, kd_19, Nat.le_of_ble_eq_true rfl⟩
theorem ok_Co_firstToDie : okM M_Co_firstToDie := ⟨(inW1 (i := 192) rfl rfl), rfl, kx_1, kd_18, Nat.le_of_ble_eq_true rfl⟩
theorem ok_Co_whomToPardon : okM M_Co_whomToPardon := ⟨(inW1 (i := 205) rfl rfl), rfl, kx_1, kd_19, Nat.le_of_ble_eq_true rfl⟩
theorem ok_Co_fewestToPardon : okM M_Co_fewestToPardon := ⟨(inW1 (i := 218) rfl rfl), rfl, kx_1, kd_19, Nat.le_of_ble_eq_true rfl⟩
theorem ok_Co_pardonInMind : okM M_Co_pardonInMind := ⟨(inW1 (i := 229) rfl rfl), rfl, kx_1, kd_13, Nat.le_of_ble_eq_true rfl⟩
theorem ok_Co_greatestLoad : okM M_Co_greatestLoad := ⟨(inW1 (i := 237) rfl rfl), rfl, kx_1, kd_19, Nat.le_of_ble_eq_true rfl⟩
theorem ok_Co_whereToDig : okM M_Co_whereToDig := ⟨(inW2 (i := 5) rfl rfl), rfl, kx_1, kd_19, Nat.le_of_ble_eq_true rfl⟩
theorem ok_Co_cheapestToCondemn : okM M_Co_cheapestToCondemn := ⟨(inW2 (i := 17) rfl rfl), rfl, kx_1, kd_20, Nat.le_of_ble_eq_true rfl⟩
theorem ok_Co_fewestPoles : okM M_Co_fewestPoles := ⟨(inW2 (i := 33) rfl rfl), rfl, kx_1, kd_18, Nat.le_of_ble_eq_true rfl⟩
theorem ok_Co_whoFits : okM M_Co_whoFits := ⟨(inW2 (i := 53) rfl rfl), rfl, kx_1, kd_21, Nat.le_of_ble_eq_true rfl⟩
theorem ok_Co_kingGoesAs : okM M_Co_kingGoesAs := ⟨(inW2 (i := 57) rfl rfl), rfl, kx_1, kd_22, Nat.le_of_ble_eq_true rfl⟩
theorem ok_Co_kindsThatFit : okM M_Co_kindsThatFit := ⟨(inW2 (i := 69) rfl rfl), rfl, kx_1, kd_23, Nat.le_of_ble_eq_true rfl⟩
theorem ok_Co_figuresThatFit : okM M_Co_figuresThatFit := ⟨(inW2 (i := 82) rfl rfl), rfl, kx_1, kd_23, Nat.le_of_ble_eq_true rfl⟩
theorem ok_Co_isWornAs : okM M_Co_isWornAs := ⟨(inW2 (i := 77) rfl rfl), rfl, kx_1, kd_24, Nat.le_of_ble_eq_true rfl⟩
theorem ok_Co_choiceOfTwo : okM M_Co_choiceOfTwo := ⟨(inW2 (i := 94) rfl rfl), rfl, kx_1, kd_25, Nat.le_of_ble_eq_true rfl⟩
theorem ok_Co_longestWait : okM M_Co_longestWait := ⟨(inW2 (i := 161) rfl rfl), rfl, kx_1, kd_18, Nat.le_of_ble_eq_true rfl⟩
theorem ok_Co_gainWithoutSnow : okM M_Co_gainWithoutSnow := ⟨(inW2 (i := 170) rfl rfl), rfl, kx_1, kd_19, Nat.le_of_ble_eq_true rfl⟩
theorem ok_Le_init : okM M_Le_init := ⟨(inW0 (i := 88) rfl rfl), rfl, kx_2, kd_0, Nat.le_of_ble_eq_true rfl⟩
theorem ok_Le_isFull : okM M_Le_isFull := ⟨(inW0 (i := 188) rfl rfl), rfl, kx_2, kd_26, Nat.le_of_ble_eq_true rfl⟩
theorem ok_Le_add : okM M_Le_add := ⟨(inW0 (i := 192) rfl rfl), rfl, kx_2, kd_13, Nat.le_of_ble_eq_true rfl⟩
theorem ok_Le_forget : okM M_Le_forget := ⟨(inW1 (i := 88) rfl rfl), rfl, kx_2, kd_0, Nat.le_of_ble_eq_true rfl⟩
theorem ok_Le_at : okM M_Le_at := ⟨(inW0 (i := 204) rfl rfl), rfl, kx_2, kd_1, Nat.le_of_ble_eq_true rfl⟩
theorem ok_Le_isDigit : okM M_Le_isDigit := ⟨(inW0 (i := 217) rfl rfl), rfl, kx_2, kd_3, Nat.le_of_ble_eq_true rfl⟩
theorem ok_Le_digit : okM M_Le_digit := ⟨(inW0 (i := 232) rfl rfl), rfl, kx_2, kd_1, Nat.le_of_ble_eq_true rfl⟩
theorem ok_Le_twoDigits : okM M_Le_twoDigits := ⟨(inW0 (i := 236) rfl rfl), rfl, kx_2, kd_1, Nat.le_of_ble_eq_true rfl⟩
theorem ok_Le_digitsBehind : okM M_Le_digitsBehind := ⟨(inW0 (i := 207) rfl rfl), rfl, kx_2, kd_1, Nat.le_of_ble_eq_true rfl⟩
theorem ok_Le_lengthOf : okM M_Le_lengthOf := ⟨(inW0 (i := 210) rfl rfl), rfl, kx_2, kd_1, Nat.le_of_ble_eq_true rfl⟩
theorem ok_Le_faultOfForm : okM M_Le_faultOfForm := ⟨(inW0 (i := 200) rfl rfl), rfl, kx_2, kd_2, Nat.le_of_ble_eq_true rfl⟩
theorem ok_Pa_init : okM M_Pa_init := ⟨(inW0 (i := 71) rfl rfl), rfl, kx_3, kd_0, Nat.le_of_ble_eq_true rfl⟩
theorem ok_Pa_remember : okM M_Pa_remember := ⟨(inW1 (i := 130) rfl rfl), rfl, kx_3, kd_27, Nat.le_of_ble_eq_true rfl⟩
theorem ok_Pa_dropOldest : okM M_Pa_dropOldest := ⟨(inW1 (i := 134) rfl rfl), rfl, kx_3, kd_0, Nat.le_of_ble_eq_true rfl⟩
theorem ok_Pa_takeBack : okM M_Pa_takeBack := ⟨(inW1 (i := 159) rfl rfl), rfl, kx_3, kd_27, Nat.le_of_ble_eq_true rfl⟩
theorem ok_Pa_forget : okM M_Pa_forget := ⟨(inW1 (i := 84) rfl rfl), rfl, kx_3, kd_0, Nat.le_of_ble_eq_true rfl⟩
theorem ok_Re_init : okM M_Re_init := ⟨(inW0 (i := 24) rfl rfl), rfl, kx_4, kd_0, Nat.le_of_ble_eq_true rfl⟩
theorem ok_Re_become : okM M_Re_become := ⟨(inW0 (i := 221) rfl rfl), rfl, kx_4, kd_27, Nat.le_of_ble_eq_true rfl⟩
theorem ok_Re_has : okM M_Re_has := ⟨(inW1 (i := 13) rfl rfl), rfl, kx_4, kd_3, Nat.le_of_ble_eq_true rfl⟩
theorem ok_Re_kindOf : okM M_Re_kindOf := ⟨(inW1 (i := 97) rfl rfl), rfl, kx_4, kd_1, Nat.le_of_ble_eq_true rfl⟩
theorem ok_Re_figureOf : okM M_Re_figureOf := ⟨(inW1 (i := 101) rfl rfl), rfl, kx_4, kd_1, Nat.le_of_ble_eq_true rfl⟩
theorem ok_Re_fateOf : okM M_Re_fateOf := ⟨(inW1 (i := 105) rfl rfl), rfl, kx_4, kd_1, Nat.le_of_ble_eq_true rfl⟩
theorem ok_Re_wornOf : okM M_Re_wornOf := ⟨(inW1 (i := 109) rfl rfl), rfl, kx_4, kd_1, Nat.le_of_ble_eq_true rfl⟩
theorem ok_Re_slopeOf : okM M_Re_slopeOf := ⟨(inW1 (i := 47) rfl rfl), rfl, kx_4, kd_1, Nat.le_of_ble_eq_true rfl⟩
theorem ok_Re_makeKind : okM M_Re_makeKind := ⟨(inW2 (i := 73) rfl rfl), rfl, kx_4, kd_14, Nat.le_of_ble_eq_true rfl⟩
theorem ok_Re_makeFigure : okM M_Re_makeFigure := ⟨(inW2 (i := 86) rfl rfl), rfl, kx_4, kd_14, Nat.le_of_ble_eq_true rfl⟩
theorem ok_Re_makeFate : okM M_Re_makeFate := ⟨(inW1 (i := 210) rfl rfl), rfl, kx_4, kd_14, Nat.le_of_ble_eq_true rfl⟩
theorem ok_Re_isHome : okM M_Re_isHome := ⟨(inW1 (i := 35) rfl rfl), rfl, kx_4, kd_26, Nat.le_of_ble_eq_true rfl⟩
theorem ok_Re_takesIn : okM M_Re_takesIn := ⟨(inW1 (i := 2) rfl rfl), rfl, kx_4, kd_12, Nat.le_of_ble_eq_true rfl⟩
theorem ok_Re_turns : okM M_Re_turns := ⟨(inW1 (i := 9) rfl rfl), rfl, kx_4, kd_3, Nat.le_of_ble_eq_true rfl⟩
theorem ok_Re_levels : okM M_Re_levels := ⟨(inW1 (i := 17) rfl rfl), rfl, kx_4, kd_12, Nat.le_of_ble_eq_true rfl⟩
theorem ok_Re_menWhoAre : okM M_Re_menWhoAre := ⟨(inW1 (i := 167) rfl rfl), rfl, kx_4, kd_1, Nat.le_of_ble_eq_true rfl⟩
theorem ok_Re_bears : okM M_Re_bears := ⟨(inW1 (i := 55) rfl rfl), rfl, kx_4, kd_1, Nat.le_of_ble_eq_true rfl⟩
theorem ok_Re_wears : okM M_Re_wears := ⟨(inW1 (i := 63) rfl rfl), rfl, kx_4, kd_4, Nat.le_of_ble_eq_true rfl⟩
theorem ok_Re_isFeudAmong : okM M_Re_isFeudAmong := ⟨(inW1 (i := 67) rfl rfl), rfl, kx_4, kd_3, Nat.le_of_ble_eq_true rfl⟩
theorem ok_Re_lasts : okM M_Re_lasts := ⟨(inW1 (i := 78) rfl rfl), rfl, kx_4, kd_1, Nat.le_of_ble_eq_true rfl⟩
theorem ok_Re_needed : okM M_Re_needed := ⟨(inW1 (i := 43) rfl rfl), rfl, kx_4, kd_2, Nat.le_of_ble_eq_true rfl⟩
theorem ok_Re_strengthOf : okM M_Re_strengthOf := ⟨(inW2 (i := 37) rfl rfl), rfl, kx_4, kd_1, Nat.le_of_ble_eq_true rfl⟩
theorem ok_Re_strongestBut : okM M_Re_strongestBut := ⟨(inW1 (i := 51) rfl rfl), rfl, kx_4, kd_1, Nat.le_of_ble_eq_true rfl⟩
theorem ok_Re_bearers : okM M_Re_bearers := ⟨(inW1 (i := 39) rfl rfl), rfl, kx_4, kd_2, Nat.le_of_ble_eq_true rfl⟩
theorem ok_Re_waitsOneDay : okM M_Re_waitsOneDay := ⟨(inW1 (i := 31) rfl rfl), rfl, kx_4, kd_26, Nat.le_of_ble_eq_true rfl⟩
theorem ok_Re_passDays : okM M_Re_passDays := ⟨(inW1 (i := 27) rfl rfl), rfl, kx_4, kd_1, Nat.le_of_ble_eq_true rfl⟩
theorem ok_Re_wearOut : okM M_Re_wearOut := ⟨(inW1 (i := 59) rfl rfl), rfl, kx_4, kd_13, Nat.le_of_ble_eq_true rfl⟩
theorem ok_Re_buryTheWornOut : okM M_Re_buryTheWornOut := ⟨(inW1 (i := 74) rfl rfl), rfl, kx_4, kd_0, Nat.le_of_ble_eq_true rfl⟩
theorem ok_Re_snowMore : okM M_Re_snowMore := ⟨(inW2 (i := 108) rfl rfl), rfl, kx_4, kd_13, Nat.le_of_ble_eq_true rfl⟩
theorem ok_Re_slopesAhead : okM M_Re_slopesAhead := ⟨(inW2 (i := 142) rfl rfl), rfl, kx_4, kd_2, Nat.le_of_ble_eq_true rfl⟩
theorem ok_Re_steepest : okM M_Re_steepest := ⟨(inW2 (i := 133) rfl rfl), rfl, kx_4, kd_2, Nat.le_of_ble_eq_true rfl⟩
theorem ok_Re_firstTooSteep : okM M_Re_firstTooSteep := ⟨(inW2 (i := 155) rfl rfl), rfl, kx_4, kd_2, Nat.le_of_ble_eq_true rfl⟩
theorem ok_Re_twosInStep : okM M_Re_twosInStep := ⟨(inW2 (i := 25) rfl rfl), rfl, kx_4, kd_2, Nat.le_of_ble_eq_true rfl⟩
theorem ok_Re_oneWhoBears : okM M_Re_oneWhoBears := ⟨(inW2 (i := 29) rfl rfl), rfl, kx_4, kd_4, Nat.le_of_ble_eq_true rfl⟩
theorem ok_Re_howManyOwe : okM M_Re_howManyOwe := ⟨(inW2 (i := 42) rfl rfl), rfl, kx_4, kd_2, Nat.le_of_ble_eq_true rfl⟩
theorem ok_Re_pardonedOfKind : okM M_Re_pardonedOfKind := ⟨(inW2 (i := 178) rfl rfl), rfl, kx_4, kd_1, Nat.le_of_ble_eq_true rfl⟩
theorem ok_Ro_init : okM M_Ro_init := ⟨(inW0 (i := 102) rfl rfl), rfl, kx_5, kd_0, Nat.le_of_ble_eq_true rfl⟩
theorem ok_Ro_isFull : okM M_Ro_isFull := ⟨(inW2 (i := 186) rfl rfl), rfl, kx_5, kd_26, Nat.le_of_ble_eq_true rfl⟩
theorem ok_Ro_add : okM M_Ro_add := ⟨(inW2 (i := 190) rfl rfl), rfl, kx_5, kd_13, Nat.le_of_ble_eq_true rfl⟩
theorem ok_Ro_at : okM M_Ro_at := ⟨(inW2 (i := 61) rfl rfl), rfl, kx_5, kd_1, Nat.le_of_ble_eq_true rfl⟩
theorem ok_Ro_forget : okM M_Ro_forget := ⟨(inW2 (i := 199) rfl rfl), rfl, kx_5, kd_0, Nat.le_of_ble_eq_true rfl⟩
theorem ok_In_bitCount : okM M_In_bitCount := ⟨(inW1 (i := 222) rfl rfl), rfl, kx_8, kd_1, Nat.le_of_ble_eq_true rfl⟩
theorem kk_6_65 : linkV 6 65 M_X_refuse := ⟨ok_X_refuse, (inW0 (i := 181) rfl rfl), (inW0 (i := 183) rfl rfl), (inP (i := 0) rfl rfl)⟩
theorem kf_6_32 : linkF 6 32 6 4 := ⟨RX6, TX6, 10, rfl, Nat.le_of_ble_eq_true rfl, rfl, Or.inl (inW0 (i := 150) rfl rfl)⟩
theorem kk_6_69 : linkV 6 69 M_Le_isFull := ⟨ok_Le_isFull, (inW0 (i := 185) rfl rfl), (inW0 (i := 186) rfl rfl), (inW0 (i := 187) rfl rfl)⟩
theorem kk_6_73 : linkV 6 73 M_Le_add := ⟨ok_Le_add, (inW0 (i := 189) rfl rfl), (inW0 (i := 190) rfl rfl), (inW0 (i := 191) rfl rfl)⟩
theorem kf_6_77 : linkF 6 77 2 1 := ⟨RX2, TX2, 2, rfl, Nat.le_of_ble_eq_true rfl, rfl, Or.inr (inN0 (i := 92) rfl rfl)⟩
theorem kk_6_81 : linkV 6 81 M_Le_faultOfForm := ⟨ok_Le_faultOfForm, (inW0 (i := 197) rfl rfl), (inW0 (i := 198) rfl rfl), (inW0 (i := 199) rfl rfl)⟩
theorem kf_6_16 : linkF 6 16 6 1 := ⟨RX6, TX6, 10, rfl, Nat.le_of_ble_eq_true rfl, rfl, Or.inl (inW0 (i := 147) rfl rfl)⟩
theorem kf_6_10 : linkF 6 10 6 0 := ⟨RX6, TX6, 10, rfl, Nat.le_of_ble_eq_true rfl, rfl, Or.inl (inW0 (i := 146) rfl rfl)⟩
theorem kk_6_85 : linkV 6 85 M_Re_become := ⟨ok_Re_become, (inW0 (i := 218) rfl rfl), (inW0 (i := 219) rfl rfl), (inW0 (i := 220) rfl rfl)⟩
theorem kk_6_89 : linkV 6 89 M_X_obeys := ⟨ok_X_obeys, (inW0 (i := 225) rfl rfl), (inW0 (i := 227) rfl rfl), (inP (i := 1) rfl rfl)⟩
theorem kk_6_93 : linkV 6 93 M_Le_at := ⟨ok_Le_at, (inW0 (i := 238) rfl rfl), (inW0 (i := 202) rfl rfl), (inW0 (i := 203) rfl rfl)⟩
theorem kk_6_96 : linkS 6 96 M_Le_lengthOf := ⟨ok_Le_lengthOf, Or.inl (inW1 (i := 80) rfl rfl), (inW0 (i := 209) rfl rfl)⟩
theorem kf_6_25 : linkF 6 25 6 3 := ⟨RX6, TX6, 10, rfl, Nat.le_of_ble_eq_true rfl, rfl, Or.inl (inW0 (i := 149) rfl rfl)⟩
theorem kk_6_99 : linkV 6 99 M_Pa_forget := ⟨ok_Pa_forget, (inW1 (i := 81) rfl rfl), (inW1 (i := 82) rfl rfl), (inW1 (i := 83) rfl rfl)⟩
theorem kk_6_102 : linkV 6 102 M_Le_forget := ⟨ok_Le_forget, (inW1 (i := 85) rfl rfl), (inW1 (i := 86) rfl rfl), (inW1 (i := 87) rfl rfl)⟩
theorem kk_6_103 : linkV 6 103 M_Le_digit := ⟨ok_Le_digit, (inW0 (i := 229) rfl rfl), (inW0 (i := 230) rfl rfl), (inW0 (i := 231) rfl rfl)⟩
theorem kk_6_106 : linkV 6 106 M_Le_twoDigits := ⟨ok_Le_twoDigits, (inW0 (i := 233) rfl rfl), (inW0 (i := 234) rfl rfl), (inW0 (i := 235) rfl rfl)⟩
theorem kk_6_109 : linkV 6 109 M_Re_takesIn := ⟨ok_Re_takesIn, (inW0 (i := 239) rfl rfl), (inW1 (i := 0) rfl rfl), (inW1 (i := 1) rfl rfl)⟩
theorem kk_6_113 : linkV 6 113 M_Re_turns := ⟨ok_Re_turns, (inW1 (i := 6) rfl rfl), (inW1 (i := 7) rfl rfl), (inW1 (i := 8) rfl rfl)⟩
theorem kk_6_116 : linkV 6 116 M_Re_levels := ⟨ok_Re_levels, (inW1 (i := 14) rfl rfl), (inW1 (i := 15) rfl rfl), (inW1 (i := 16) rfl rfl)⟩
theorem kk_6_119 : linkS 6 119 M_X_outside := ⟨ok_X_outside, Or.inl (inW1 (i := 21) rfl rfl), (inW1 (i := 22) rfl rfl)⟩
theorem kf_6_123 : linkF 6 123 4 7 := ⟨RX4, TX4, 10, rfl, Nat.le_of_ble_eq_true rfl, rfl, Or.inr (inN0 (i := 38) rfl rfl)⟩
theorem kp_4_7 : linkP 4 7 0 := ⟨RX4, TX4, 10, rfl, rfl, by decide +kernel⟩
theorem kf_6_126 : linkF 6 126 4 6 := ⟨RX4, TX4, 10, rfl, Nat.le_of_ble_eq_true rfl, rfl, Or.inr (inN0 (i := 35) rfl rfl)⟩
theorem kp_4_6 : linkP 4 6 0 := ⟨RX4, TX4, 10, rfl, rfl, by decide +kernel⟩
theorem kf_6_129 : linkF 6 129 4 8 := ⟨RX4, TX4, 10, rfl, Nat.le_of_ble_eq_true rfl, rfl, Or.inr (inN0 (i := 41) rfl rfl)⟩
theorem kp_4_8 : linkP 4 8 0 := ⟨RX4, TX4, 10, rfl, rfl, by decide +kernel⟩
theorem kf_6_132 : linkF 6 132 4 9 := ⟨RX4, TX4, 10, rfl, Nat.le_of_ble_eq_true rfl, rfl, Or.inr (inN0 (i := 44) rfl rfl)⟩
theorem kk_6_135 : linkV 6 135 M_Re_passDays := ⟨ok_Re_passDays, (inW1 (i := 24) rfl rfl), (inW1 (i := 25) rfl rfl), (inW1 (i := 26) rfl rfl)⟩
theorem kk_6_138 : linkV 6 138 M_Re_has := ⟨ok_Re_has, (inW1 (i := 93) rfl rfl), (inW1 (i := 11) rfl rfl), (inW1 (i := 12) rfl rfl)⟩
theorem kk_6_141 : linkV 6 141 M_Re_kindOf := ⟨ok_Re_kindOf, (inW1 (i := 94) rfl rfl), (inW1 (i := 95) rfl rfl), (inW1 (i := 96) rfl rfl)⟩
theorem kk_6_144 : linkV 6 144 M_Re_figureOf := ⟨ok_Re_figureOf, (inW1 (i := 98) rfl rfl), (inW1 (i := 99) rfl rfl), (inW1 (i := 100) rfl rfl)⟩
theorem kk_6_147 : linkV 6 147 M_Re_fateOf := ⟨ok_Re_fateOf, (inW1 (i := 102) rfl rfl), (inW1 (i := 103) rfl rfl), (inW1 (i := 104) rfl rfl)⟩
theorem kk_6_150 : linkV 6 150 M_Re_wornOf := ⟨ok_Re_wornOf, (inW1 (i := 106) rfl rfl), (inW1 (i := 107) rfl rfl), (inW1 (i := 108) rfl rfl)⟩
theorem kk_6_153 : linkV 6 153 M_Re_bears := ⟨ok_Re_bears, (inW1 (i := 110) rfl rfl), (inW1 (i := 53) rfl rfl), (inW1 (i := 54) rfl rfl)⟩
theorem kk_6_156 : linkV 6 156 M_Re_lasts := ⟨ok_Re_lasts, (inW1 (i := 111) rfl rfl), (inW1 (i := 76) rfl rfl), (inW1 (i := 77) rfl rfl)⟩
theorem kk_6_159 : linkS 6 159 M_X_isStage := ⟨ok_X_isStage, Or.inl (inW1 (i := 116) rfl rfl), (inW1 (i := 19) rfl rfl)⟩
theorem kk_6_162 : linkV 6 162 M_Re_slopeOf := ⟨ok_Re_slopeOf, (inW1 (i := 117) rfl rfl), (inW1 (i := 45) rfl rfl), (inW1 (i := 46) rfl rfl)⟩
theorem kk_6_165 : linkS 6 165 M_X_isKind := ⟨ok_X_isKind, Or.inl (inW1 (i := 122) rfl rfl), (inW1 (i := 4) rfl rfl)⟩
theorem kf_6_168 : linkF 6 168 4 5 := ⟨RX4, TX4, 10, rfl, Nat.le_of_ble_eq_true rfl, rfl, Or.inr (inN0 (i := 32) rfl rfl)⟩
theorem kk_6_171 : linkV 6 171 M_Pa_remember := ⟨ok_Pa_remember, (inW1 (i := 127) rfl rfl), (inW1 (i := 128) rfl rfl), (inW1 (i := 129) rfl rfl)⟩
theorem kf_6_174 : linkF 6 174 3 1 := ⟨RX3, TX3, 2, rfl, Nat.le_of_ble_eq_true rfl, rfl, Or.inr (inN0 (i := 78) rfl rfl)⟩
theorem kk_6_175 : linkV 6 175 M_Pa_takeBack := ⟨ok_Pa_takeBack, (inW1 (i := 156) rfl rfl), (inW1 (i := 157) rfl rfl), (inW1 (i := 158) rfl rfl)⟩
theorem kk_6_178 : linkV 6 178 M_Re_menWhoAre := ⟨ok_Re_menWhoAre, (inW1 (i := 164) rfl rfl), (inW1 (i := 165) rfl rfl), (inW1 (i := 166) rfl rfl)⟩
theorem kf_6_46 : linkF 6 46 6 6 := ⟨RX6, TX6, 10, rfl, Nat.le_of_ble_eq_true rfl, rfl, Or.inl (inW0 (i := 152) rfl rfl)⟩
theorem kk_6_181 : linkV 6 181 M_Co_daysToHome := ⟨ok_Co_daysToHome, (inW1 (i := 176) rfl rfl), (inW1 (i := 177) rfl rfl), (inW1 (i := 178) rfl rfl)⟩
theorem kk_6_185 : linkV 6 185 M_Re_isHome := ⟨ok_Re_isHome, (inW1 (i := 183) rfl rfl), (inW1 (i := 33) rfl rfl), (inW1 (i := 34) rfl rfl)⟩
theorem kk_6_188 : linkV 6 188 M_Re_bearers := ⟨ok_Re_bearers, (inW1 (i := 184) rfl rfl), (inW1 (i := 37) rfl rfl), (inW1 (i := 38) rfl rfl)⟩
theorem kk_6_191 : linkV 6 191 M_Co_firstToDie := ⟨ok_Co_firstToDie, (inW1 (i := 189) rfl rfl), (inW1 (i := 190) rfl rfl), (inW1 (i := 191) rfl rfl)⟩
theorem kk_6_194 : linkV 6 194 M_Co_daysToDeath := ⟨ok_Co_daysToDeath, (inW1 (i := 194) rfl rfl), (inW1 (i := 195) rfl rfl), (inW1 (i := 196) rfl rfl)⟩
theorem kk_6_198 : linkV 6 198 M_Co_whomToPardon := ⟨ok_Co_whomToPardon, (inW1 (i := 202) rfl rfl), (inW1 (i := 203) rfl rfl), (inW1 (i := 204) rfl rfl)⟩
theorem kk_6_201 : linkV 6 201 M_Co_fewestToPardon := ⟨ok_Co_fewestToPardon, (inW1 (i := 215) rfl rfl), (inW1 (i := 216) rfl rfl), (inW1 (i := 217) rfl rfl)⟩
theorem kk_6_204 : linkV 6 204 M_Co_greatestLoad := ⟨ok_Co_greatestLoad, (inW1 (i := 234) rfl rfl), (inW1 (i := 235) rfl rfl), (inW1 (i := 236) rfl rfl)⟩
theorem kk_6_207 : linkV 6 207 M_Co_whereToDig := ⟨ok_Co_whereToDig, (inW2 (i := 2) rfl rfl), (inW2 (i := 3) rfl rfl), (inW2 (i := 4) rfl rfl)⟩
theorem kk_6_210 : linkS 6 210 M_X_isOneOfTwo := ⟨ok_X_isOneOfTwo, Or.inl (inW2 (i := 11) rfl rfl), (inW2 (i := 12) rfl rfl)⟩
theorem kk_6_213 : linkV 6 213 M_Co_cheapestToCondemn := ⟨ok_Co_cheapestToCondemn, (inW2 (i := 14) rfl rfl), (inW2 (i := 15) rfl rfl), (inW2 (i := 16) rfl rfl)⟩
theorem kk_6_217 : linkV 6 217 M_Re_twosInStep := ⟨ok_Re_twosInStep, (inW2 (i := 22) rfl rfl), (inW2 (i := 23) rfl rfl), (inW2 (i := 24) rfl rfl)⟩
theorem kk_6_220 : linkV 6 220 M_Co_fewestPoles := ⟨ok_Co_fewestPoles, (inW2 (i := 30) rfl rfl), (inW2 (i := 31) rfl rfl), (inW2 (i := 32) rfl rfl)⟩
theorem kk_6_223 : linkV 6 223 M_Re_howManyOwe := ⟨ok_Re_howManyOwe, (inW2 (i := 39) rfl rfl), (inW2 (i := 40) rfl rfl), (inW2 (i := 41) rfl rfl)⟩
theorem kk_6_226 : linkV 6 226 M_Re_strengthOf := ⟨ok_Re_strengthOf, (inW2 (i := 43) rfl rfl), (inW2 (i := 35) rfl rfl), (inW2 (i := 36) rfl rfl)⟩
theorem kk_6_229 : linkV 6 229 M_Re_needed := ⟨ok_Re_needed, (inW2 (i := 44) rfl rfl), (inW1 (i := 41) rfl rfl), (inW1 (i := 42) rfl rfl)⟩
theorem kc_6_232 : linkC 6 232 1000000000 := (inW2 (i := 45) rfl rfl)
theorem kf_6_39 : linkF 6 39 6 5 := ⟨RX6, TX6, 10, rfl, Nat.le_of_ble_eq_true rfl, rfl, Or.inl (inW0 (i := 151) rfl rfl)⟩
theorem kk_6_233 : linkV 6 233 M_Co_whoFits := ⟨ok_Co_whoFits, (inW2 (i := 50) rfl rfl), (inW2 (i := 51) rfl rfl), (inW2 (i := 52) rfl rfl)⟩
theorem kk_6_237 : linkV 6 237 M_Co_kindsThatFit := ⟨ok_Co_kindsThatFit, (inW2 (i := 66) rfl rfl), (inW2 (i := 67) rfl rfl), (inW2 (i := 68) rfl rfl)⟩
theorem kk_6_241 : linkV 6 241 M_Co_figuresThatFit := ⟨ok_Co_figuresThatFit, (inW2 (i := 79) rfl rfl), (inW2 (i := 80) rfl rfl), (inW2 (i := 81) rfl rfl)⟩
theorem kk_6_244 : linkV 6 244 M_Co_choiceOfTwo := ⟨ok_Co_choiceOfTwo, (inW2 (i := 91) rfl rfl), (inW2 (i := 92) rfl rfl), (inW2 (i := 93) rfl rfl)⟩
theorem kj_6_248 : linkJ 6 248 4000000000000000000 := (inW2 (i := 99) rfl rfl)
theorem kf_6_53 : linkF 6 53 6 7 := ⟨RX6, TX6, 10, rfl, Nat.le_of_ble_eq_true rfl, rfl, Or.inl (inW0 (i := 153) rfl rfl)⟩
theorem kk_6_250 : linkV 6 250 M_Ch_waysToBeAt := ⟨ok_Ch_waysToBeAt, (inW2 (i := 100) rfl rfl), (inW2 (i := 101) rfl rfl), (inW2 (i := 102) rfl rfl)⟩
theorem kk_6_254 : linkS 6 254 M_X_power := ⟨ok_X_power, Or.inl (inW2 (i := 114) rfl rfl), (inW2 (i := 112) rfl rfl)⟩
theorem kk_6_258 : linkS 6 258 M_X_inLowestTerms := ⟨ok_X_inLowestTerms, Or.inl (inW2 (i := 115) rfl rfl), (inW2 (i := 116) rfl rfl)⟩
theorem kk_6_262 : linkV 6 262 M_Re_strongestBut := ⟨ok_Re_strongestBut, (inW2 (i := 129) rfl rfl), (inW1 (i := 49) rfl rfl), (inW1 (i := 50) rfl rfl)⟩
theorem kk_6_265 : linkV 6 265 M_Re_steepest := ⟨ok_Re_steepest, (inW2 (i := 130) rfl rfl), (inW2 (i := 131) rfl rfl), (inW2 (i := 132) rfl rfl)⟩
theorem kk_6_268 : linkS 6 268 M_In_bitCount := ⟨ok_In_bitCount, Or.inl (inW2 (i := 134) rfl rfl), (inW1 (i := 221) rfl rfl)⟩
theorem kk_6_273 : linkV 6 273 M_Re_slopesAhead := ⟨ok_Re_slopesAhead, (inW2 (i := 139) rfl rfl), (inW2 (i := 140) rfl rfl), (inW2 (i := 141) rfl rfl)⟩
theorem kn_6_276 : linkN 6 276 1 := ⟨(inW2 (i := 147) rfl rfl), (inW0 (i := 212) rfl rfl), (inW0 (i := 9) rfl rfl), (inW0 (i := 213) rfl rfl)⟩
theorem kk_6_282 : linkV 6 282 M_Re_firstTooSteep := ⟨ok_Re_firstTooSteep, (inW2 (i := 152) rfl rfl), (inW2 (i := 153) rfl rfl), (inW2 (i := 154) rfl rfl)⟩
theorem kk_6_285 : linkV 6 285 M_Co_longestWait := ⟨ok_Co_longestWait, (inW2 (i := 158) rfl rfl), (inW2 (i := 159) rfl rfl), (inW2 (i := 160) rfl rfl)⟩
theorem kk_6_288 : linkV 6 288 M_Co_gainWithoutSnow := ⟨ok_Co_gainWithoutSnow, (inW2 (i := 167) rfl rfl), (inW2 (i := 168) rfl rfl), (inW2 (i := 169) rfl rfl)⟩
theorem kk_6_291 : linkV 6 291 M_Re_pardonedOfKind := ⟨ok_Re_pardonedOfKind, (inW2 (i := 175) rfl rfl), (inW2 (i := 176) rfl rfl), (inW2 (i := 177) rfl rfl)⟩
theorem kk_6_294 : linkV 6 294 M_Ro_isFull := ⟨ok_Ro_isFull, (inW2 (i := 183) rfl rfl), (inW2 (i := 184) rfl rfl), (inW2 (i := 185) rfl rfl)⟩
theorem kk_6_295 : linkV 6 295 M_Ro_add := ⟨ok_Ro_add, (inW2 (i := 187) rfl rfl), (inW2 (i := 188) rfl rfl), (inW2 (i := 189) rfl rfl)⟩
theorem kf_6_296 : linkF 6 296 5 1 := ⟨RX5, TX5, 2, rfl, Nat.le_of_ble_eq_true rfl, rfl, Or.inr (inN0 (i := 107) rfl rfl)⟩
theorem kk_6_297 : linkV 6 297 M_Ro_at := ⟨ok_Ro_at, (inW2 (i := 195) rfl rfl), (inW2 (i := 59) rfl rfl), (inW2 (i := 60) rfl rfl)⟩
theorem kk_6_298 : linkV 6 298 M_Ro_forget := ⟨ok_Ro_forget, (inW2 (i := 196) rfl rfl), (inW2 (i := 197) rfl rfl), (inW2 (i := 198) rfl rfl)⟩
theorem kk_6_299 : linkV 6 299 M_Ch_reignsByLot := ⟨ok_Ch_reignsByLot, (inW2 (i := 208) rfl rfl), (inW2 (i := 209) rfl rfl), (inW2 (i := 210) rfl rfl)⟩
theorem kf_6_19 : linkF 6 19 6 2 := ⟨RX6, TX6, 10, rfl, Nat.le_of_ble_eq_true rfl, rfl, Or.inl (inW0 (i := 148) rfl rfl)⟩
theorem kf_6_61 : linkF 6 61 6 9 := ⟨RX6, TX6, 10, rfl, Nat.le_of_ble_eq_true rfl, rfl, Or.inl (inW0 (i := 155) rfl rfl)⟩
theorem kp_6_9 : linkP 6 9 1 := ⟨RX6, TX6, 10, rfl, rfl, by decide +kernel⟩
theorem kf_6_57 : linkF 6 57 6 8 := ⟨RX6, TX6, 10, rfl, Nat.le_of_ble_eq_true rfl, rfl, Or.inl (inW0 (i := 154) rfl rfl)⟩
theorem kk_6_303 : linkS 6 303 M_X_commonDivisor := ⟨ok_X_commonDivisor, Or.inl (inW2 (i := 118) rfl rfl), (inW2 (i := 119) rfl rfl)⟩
theorem kf_7_25 : linkF 7 25 7 11 := ⟨RX7, TX7, 33, rfl, Nat.le_of_ble_eq_true rfl, rfl, Or.inl (inW3 (i := 11) rfl rfl)⟩
theorem kf_7_65 : linkF 7 65 7 3 := ⟨RX7, TX7, 33, rfl, Nat.le_of_ble_eq_true rfl, rfl, Or.inl (inW3 (i := 3) rfl rfl)⟩
theorem kk_7_68 : linkS 7 68 M_M_in := ⟨ok_M_in, Or.inl (inW3 (i := 133) rfl rfl), (inW3 (i := 134) rfl rfl)⟩
theorem kf_7_16 : linkF 7 16 7 5 := ⟨RX7, TX7, 33, rfl, Nat.le_of_ble_eq_true rfl, rfl, Or.inl (inW3 (i := 5) rfl rfl)⟩
theorem kf_7_13 : linkF 7 13 7 4 := ⟨RX7, TX7, 33, rfl, Nat.le_of_ble_eq_true rfl, rfl, Or.inl (inW3 (i := 4) rfl rfl)⟩
theorem kf_7_22 : linkF 7 22 7 7 := ⟨RX7, TX7, 33, rfl, Nat.le_of_ble_eq_true rfl, rfl, Or.inl (inW3 (i := 7) rfl rfl)⟩
theorem kk_7_72 : linkS 7 72 M_M_hasBit := ⟨ok_M_hasBit, Or.inl (inW3 (i := 185) rfl rfl), (inW3 (i := 186) rfl rfl)⟩
theorem kk_7_76 : linkV 7 76 M_M_isFeuding := ⟨ok_M_isFeuding, (inW3 (i := 204) rfl rfl), (inW3 (i := 206) rfl rfl), (inP (i := 23) rfl rfl)⟩
theorem kk_7_80 : linkV 7 80 M_M_feudingIn := ⟨ok_M_feudingIn, (inW3 (i := 200) rfl rfl), (inW3 (i := 202) rfl rfl), (inP (i := 22) rfl rfl)⟩
theorem kf_7_62 : linkF 7 62 7 2 := ⟨RX7, TX7, 33, rfl, Nat.le_of_ble_eq_true rfl, rfl, Or.inl (inW3 (i := 2) rfl rfl)⟩
theorem kf_7_84 : linkF 7 84 7 8 := ⟨RX7, TX7, 33, rfl, Nat.le_of_ble_eq_true rfl, rfl, Or.inl (inW3 (i := 8) rfl rfl)⟩
theorem kf_7_87 : linkF 7 87 7 1 := ⟨RX7, TX7, 33, rfl, Nat.le_of_ble_eq_true rfl, rfl, Or.inl (inW3 (i := 1) rfl rfl)⟩
theorem kf_7_7 : linkF 7 7 7 0 := ⟨RX7, TX7, 33, rfl, Nat.le_of_ble_eq_true rfl, rfl, Or.inl (inW3 (i := 0) rfl rfl)⟩
theorem kf_7_19 : linkF 7 19 7 6 := ⟨RX7, TX7, 33, rfl, Nat.le_of_ble_eq_true rfl, rfl, Or.inl (inW3 (i := 6) rfl rfl)⟩
theorem kk_7_90 : linkV 7 90 M_M_bearsOf := ⟨ok_M_bearsOf, (inW3 (i := 188) rfl rfl), (inW3 (i := 190) rfl rfl), (inP (i := 19) rfl rfl)⟩
theorem kk_7_93 : linkV 7 93 M_M_strongestBut := ⟨ok_M_strongestBut, (inW3 (i := 181) rfl rfl), (inW3 (i := 183) rfl rfl), (inP (i := 18) rfl rfl)⟩
theorem kk_7_96 : linkV 7 96 M_M_neededHere := ⟨ok_M_neededHere, (inW3 (i := 192) rfl rfl), (inW3 (i := 194) rfl rfl), (inP (i := 20) rfl rfl)⟩
theorem kf_7_100 : linkF 7 100 7 9 := ⟨RX7, TX7, 33, rfl, Nat.le_of_ble_eq_true rfl, rfl, Or.inl (inW3 (i := 9) rfl rfl)⟩
theorem kp_7_9 : linkP 7 9 0 := ⟨RX7, TX7, 33, rfl, rfl, by decide +kernel⟩
theorem kk_7_103 : linkV 7 103 M_M_bearersNow := ⟨ok_M_bearersNow, (inW3 (i := 177) rfl rfl), (inW3 (i := 179) rfl rfl), (inP (i := 17) rfl rfl)⟩
theorem kk_7_106 : linkV 7 106 M_M_wearsOf := ⟨ok_M_wearsOf, (inW3 (i := 196) rfl rfl), (inW3 (i := 198) rfl rfl), (inP (i := 21) rfl rfl)⟩
theorem kk_7_110 : linkS 7 110 M_M_held := ⟨ok_M_held, Or.inl (inW3 (i := 208) rfl rfl), (inW3 (i := 209) rfl rfl)⟩
theorem kk_7_114 : linkV 7 114 M_M_lastsOf := ⟨ok_M_lastsOf, (inW3 (i := 211) rfl rfl), (inW3 (i := 213) rfl rfl), (inP (i := 24) rfl rfl)⟩
theorem kp_7_1 : linkP 7 1 0 := ⟨RX7, TX7, 33, rfl, rfl, by decide +kernel⟩
theorem kp_7_8 : linkP 7 8 0 := ⟨RX7, TX7, 33, rfl, rfl, by decide +kernel⟩
theorem kk_7_117 : linkV 7 117 M_M_dayOn := ⟨ok_M_dayOn, (inW3 (i := 173) rfl rfl), (inW3 (i := 175) rfl rfl), (inP (i := 16) rfl rfl)⟩
theorem kp_7_3 : linkP 7 3 0 := ⟨RX7, TX7, 33, rfl, rfl, by decide +kernel⟩
theorem kf_7_58 : linkF 7 58 7 10 := ⟨RX7, TX7, 33, rfl, Nat.le_of_ble_eq_true rfl, rfl, Or.inl (inW3 (i := 10) rfl rfl)⟩
theorem kp_7_10 : linkP 7 10 0 := ⟨RX7, TX7, 33, rfl, rfl, by decide +kernel⟩
theorem kk_7_120 : linkV 7 120 M_M_refuse := ⟨ok_M_refuse, (inW3 (i := 104) rfl rfl), (inW3 (i := 106) rfl rfl), (inP (i := 2) rfl rfl)⟩
theorem kf_7_123 : linkF 7 123 7 13 := ⟨RX7, TX7, 33, rfl, Nat.le_of_ble_eq_true rfl, rfl, Or.inl (inW3 (i := 13) rfl rfl)⟩
theorem kf_7_28 : linkF 7 28 7 12 := ⟨RX7, TX7, 33, rfl, Nat.le_of_ble_eq_true rfl, rfl, Or.inl (inW3 (i := 12) rfl rfl)⟩
theorem kp_7_13 : linkP 7 13 0 := ⟨RX7, TX7, 33, rfl, rfl, by decide +kernel⟩
theorem kf_7_126 : linkF 7 126 7 14 := ⟨RX7, TX7, 33, rfl, Nat.le_of_ble_eq_true rfl, rfl, Or.inl (inW3 (i := 14) rfl rfl)⟩
theorem kf_7_129 : linkF 7 129 7 15 := ⟨RX7, TX7, 33, rfl, Nat.le_of_ble_eq_true rfl, rfl, Or.inl (inW3 (i := 15) rfl rfl)⟩
theorem kk_7_133 : linkV 7 133 M_M_here := ⟨ok_M_here, (inW3 (i := 116) rfl rfl), (inW3 (i := 118) rfl rfl), (inP (i := 4) rfl rfl)⟩
theorem kj_7_136 : linkJ 7 136 48 := (inW3 (i := 131) rfl rfl)
theorem kj_7_138 : linkJ 7 138 57 := (inW3 (i := 132) rfl rfl)
theorem kp_7_15 : linkP 7 15 1 := ⟨RX7, TX7, 33, rfl, rfl, by decide +kernel⟩
theorem kp_7_14 : linkP 7 14 0 := ⟨RX7, TX7, 33, rfl, rfl, by decide +kernel⟩
theorem kf_7_37 : linkF 7 37 7 19 := ⟨RX7, TX7, 33, rfl, Nat.le_of_ble_eq_true rfl, rfl, Or.inl (inW3 (i := 19) rfl rfl)⟩
theorem kk_7_140 : linkV 7 140 M_M_readDigits := ⟨ok_M_readDigits, (inW3 (i := 127) rfl rfl), (inW3 (i := 129) rfl rfl), (inP (i := 6) rfl rfl)⟩
theorem kf_7_143 : linkF 7 143 7 16 := ⟨RX7, TX7, 33, rfl, Nat.le_of_ble_eq_true rfl, rfl, Or.inl (inW3 (i := 16) rfl rfl)⟩
theorem kf_7_31 : linkF 7 31 7 17 := ⟨RX7, TX7, 33, rfl, Nat.le_of_ble_eq_true rfl, rfl, Or.inl (inW3 (i := 17) rfl rfl)⟩
theorem kf_7_34 : linkF 7 34 7 18 := ⟨RX7, TX7, 33, rfl, Nat.le_of_ble_eq_true rfl, rfl, Or.inl (inW3 (i := 18) rfl rfl)⟩
theorem kk_7_146 : linkS 7 146 M_M_isLetter := ⟨ok_M_isLetter, Or.inl (inW3 (i := 120) rfl rfl), (inW3 (i := 121) rfl rfl)⟩
theorem kk_7_149 : linkV 7 149 M_M_readNumbers := ⟨ok_M_readNumbers, (inW3 (i := 123) rfl rfl), (inW3 (i := 125) rfl rfl), (inP (i := 5) rfl rfl)⟩
theorem kp_7_16 : linkP 7 16 0 := ⟨RX7, TX7, 33, rfl, rfl, by decide +kernel⟩
theorem kk_7_153 : linkV 7 153 M_M_isMan := ⟨ok_M_isMan, (inW3 (i := 160) rfl rfl), (inW3 (i := 162) rfl rfl), (inP (i := 13) rfl rfl)⟩
theorem kj_7_156 : linkJ 7 156 60 := (inW3 (i := 164) rfl rfl)
theorem kk_7_158 : linkV 7 158 M_M_goDays := ⟨ok_M_goDays, (inW3 (i := 169) rfl rfl), (inW3 (i := 171) rfl rfl), (inP (i := 15) rfl rfl)⟩
theorem kk_7_162 : linkV 7 162 M_M_manComes := ⟨ok_M_manComes, (inW3 (i := 152) rfl rfl), (inW3 (i := 154) rfl rfl), (inP (i := 11) rfl rfl)⟩
theorem kk_7_165 : linkV 7 165 M_M_pardonTold := ⟨ok_M_pardonTold, (inW3 (i := 156) rfl rfl), (inW3 (i := 158) rfl rfl), (inP (i := 12) rfl rfl)⟩
theorem kp_7_2 : linkP 7 2 0 := ⟨RX7, TX7, 33, rfl, rfl, by decide +kernel⟩
theorem kk_7_168 : linkV 7 168 M_M_daysTold := ⟨ok_M_daysTold, (inW3 (i := 165) rfl rfl), (inW3 (i := 167) rfl rfl), (inP (i := 14) rfl rfl)⟩
theorem kk_7_171 : linkV 7 171 M_M_readStatement := ⟨ok_M_readStatement, (inW3 (i := 112) rfl rfl), (inW3 (i := 114) rfl rfl), (inP (i := 3) rfl rfl)⟩
theorem kk_7_174 : linkV 7 174 M_M_think := ⟨ok_M_think, (inW3 (i := 136) rfl rfl), (inW3 (i := 138) rfl rfl), (inP (i := 7) rfl rfl)⟩
theorem kk_7_177 : linkV 7 177 M_M_comesTold := ⟨ok_M_comesTold, (inW3 (i := 148) rfl rfl), (inW3 (i := 150) rfl rfl), (inP (i := 10) rfl rfl)⟩
theorem kk_7_180 : linkV 7 180 M_M_again := ⟨ok_M_again, (inW3 (i := 215) rfl rfl), (inW3 (i := 217) rfl rfl), (inP (i := 25) rfl rfl)⟩
theorem kf_7_183 : linkF 7 183 7 28 := ⟨RX7, TX7, 33, rfl, Nat.le_of_ble_eq_true rfl, rfl, Or.inl (inW3 (i := 28) rfl rfl)⟩
theorem kp_7_28 : linkP 7 28 0 := ⟨RX7, TX7, 33, rfl, rfl, by decide +kernel⟩
theorem kf_7_186 : linkF 7 186 7 24 := ⟨RX7, TX7, 33, rfl, Nat.le_of_ble_eq_true rfl, rfl, Or.inl (inW3 (i := 24) rfl rfl)⟩
theorem kf_7_189 : linkF 7 189 7 25 := ⟨RX7, TX7, 33, rfl, Nat.le_of_ble_eq_true rfl, rfl, Or.inl (inW3 (i := 25) rfl rfl)⟩
theorem kf_7_192 : linkF 7 192 7 23 := ⟨RX7, TX7, 33, rfl, Nat.le_of_ble_eq_true rfl, rfl, Or.inl (inW3 (i := 23) rfl rfl)⟩
theorem kp_7_23 : linkP 7 23 0 := ⟨RX7, TX7, 33, rfl, rfl, by decide +kernel⟩
theorem kp_7_25 : linkP 7 25 2 := ⟨RX7, TX7, 33, rfl, rfl, by decide +kernel⟩
theorem kp_7_24 : linkP 7 24 1 := ⟨RX7, TX7, 33, rfl, rfl, by decide +kernel⟩
theorem kk_7_195 : linkV 7 195 M_M_carry := ⟨ok_M_carry, (inW3 (i := 144) rfl rfl), (inW3 (i := 146) rfl rfl), (inP (i := 9) rfl rfl)⟩
theorem kf_7_40 : linkF 7 40 7 20 := ⟨RX7, TX7, 33, rfl, Nat.le_of_ble_eq_true rfl, rfl, Or.inl (inW3 (i := 20) rfl rfl)⟩
theorem kk_7_198 : linkV 7 198 M_M_carryAll := ⟨ok_M_carryAll, (inW3 (i := 140) rfl rfl), (inW3 (i := 142) rfl rfl), (inP (i := 8) rfl rfl)⟩
theorem kf_7_202 : linkF 7 202 7 22 := ⟨RX7, TX7, 33, rfl, Nat.le_of_ble_eq_true rfl, rfl, Or.inl (inW3 (i := 22) rfl rfl)⟩
theorem kp_7_22 : linkP 7 22 1 := ⟨RX7, TX7, 33, rfl, rfl, by decide +kernel⟩
theorem kf_7_43 : linkF 7 43 7 21 := ⟨RX7, TX7, 33, rfl, Nat.le_of_ble_eq_true rfl, rfl, Or.inl (inW3 (i := 21) rfl rfl)⟩
theorem kf_7_46 : linkF 7 46 7 26 := ⟨RX7, TX7, 33, rfl, Nat.le_of_ble_eq_true rfl, rfl, Or.inl (inW3 (i := 26) rfl rfl)⟩
theorem kf_7_49 : linkF 7 49 7 27 := ⟨RX7, TX7, 33, rfl, Nat.le_of_ble_eq_true rfl, rfl, Or.inl (inW3 (i := 27) rfl rfl)⟩
theorem kj_7_205 : linkJ 7 205 5 := (inW3 (i := 235) rfl rfl)
theorem kj_7_207 : linkJ 7 207 11 := (inW4 (i := 0) rfl rfl)
theorem kk_7_209 : linkS 7 209 M_M_wrongNumber := ⟨ok_M_wrongNumber, Or.inl (inW4 (i := 5) rfl rfl), (inW4 (i := 6) rfl rfl)⟩
theorem kk_7_212 : linkV 7 212 M_M_keepTurn := ⟨ok_M_keepTurn, (inW4 (i := 12) rfl rfl), (inW4 (i := 14) rfl rfl), (inP (i := 26) rfl rfl)⟩
theorem kk_7_215 : linkS 7 215 M_M_wrongBit := ⟨ok_M_wrongBit, Or.inl (inW4 (i := 36) rfl rfl), (inW4 (i := 37) rfl rfl)⟩
theorem kk_7_218 : linkV 7 218 M_M_waitsIn := ⟨ok_M_waitsIn, (inW4 (i := 39) rfl rfl), (inW4 (i := 41) rfl rfl), (inP (i := 27) rfl rfl)⟩
theorem kk_7_221 : linkV 7 221 M_M_bitsOf := ⟨ok_M_bitsOf, (inW4 (i := 43) rfl rfl), (inW4 (i := 45) rfl rfl), (inP (i := 28) rfl rfl)⟩
theorem kk_7_224 : linkV 7 224 M_M_homeIn := ⟨ok_M_homeIn, (inW4 (i := 55) rfl rfl), (inW4 (i := 57) rfl rfl), (inP (i := 29) rfl rfl)⟩
theorem kj_7_227 : linkJ 7 227 (-1) := (inW4 (i := 63) rfl rfl)
theorem kk_7_229 : linkV 7 229 M_M_diesIn := ⟨ok_M_diesIn, (inW4 (i := 64) rfl rfl), (inW4 (i := 66) rfl rfl), (inP (i := 30) rfl rfl)⟩
theorem kk_7_232 : linkV 7 232 M_M_kingThen := ⟨ok_M_kingThen, (inW4 (i := 72) rfl rfl), (inW4 (i := 74) rfl rfl), (inP (i := 31) rfl rfl)⟩
theorem kk_7_235 : linkS 7 235 M_M_onesOf := ⟨ok_M_onesOf, Or.inl (inW4 (i := 80) rfl rfl), (inW4 (i := 81) rfl rfl)⟩
theorem kk_7_238 : linkV 7 238 M_M_bearIn := ⟨ok_M_bearIn, (inW4 (i := 107) rfl rfl), (inW4 (i := 109) rfl rfl), (inP (i := 34) rfl rfl)⟩
theorem kk_7_241 : linkV 7 241 M_M_pairsNow := ⟨ok_M_pairsNow, (inW4 (i := 99) rfl rfl), (inW4 (i := 101) rfl rfl), (inP (i := 32) rfl rfl)⟩
theorem kk_7_244 : linkV 7 244 M_M_leastPoles := ⟨ok_M_leastPoles, (inW4 (i := 103) rfl rfl), (inW4 (i := 105) rfl rfl), (inP (i := 33) rfl rfl)⟩
theorem kk_7_247 : linkV 7 247 M_M_owing := ⟨ok_M_owing, (inW4 (i := 111) rfl rfl), (inW4 (i := 113) rfl rfl), (inP (i := 35) rfl rfl)⟩
theorem kk_7_250 : linkV 7 250 M_M_allBear := ⟨ok_M_allBear, (inW4 (i := 115) rfl rfl), (inW4 (i := 117) rfl rfl), (inP (i := 36) rfl rfl)⟩
theorem kc_7_253 : linkC 7 253 1000000000 := (inW4 (i := 119) rfl rfl)
theorem kf_7_254 : linkF 7 254 7 30 := ⟨RX7, TX7, 33, rfl, Nat.le_of_ble_eq_true rfl, rfl, Or.inl (inW3 (i := 30) rfl rfl)⟩
theorem kf_7_52 : linkF 7 52 7 29 := ⟨RX7, TX7, 33, rfl, Nat.le_of_ble_eq_true rfl, rfl, Or.inl (inW3 (i := 29) rfl rfl)⟩
theorem kk_7_257 : linkV 7 257 M_M_isRow := ⟨ok_M_isRow, (inW4 (i := 124) rfl rfl), (inW4 (i := 126) rfl rfl), (inP (i := 37) rfl rfl)⟩
theorem kf_7_55 : linkF 7 55 7 31 := ⟨RX7, TX7, 33, rfl, Nat.le_of_ble_eq_true rfl, rfl, Or.inl (inW3 (i := 31) rfl rfl)⟩
theorem kk_7_260 : linkS 7 260 M_M_divisor := ⟨ok_M_divisor, Or.inl (inW4 (i := 144) rfl rfl), (inW4 (i := 145) rfl rfl)⟩
theorem kj_7_264 : linkJ 7 264 4000000000000000000 := (inW4 (i := 140) rfl rfl)
theorem kk_7_266 : linkS 7 266 M_M_partOf := ⟨ok_M_partOf, Or.inl (inW4 (i := 141) rfl rfl), (inW4 (i := 142) rfl rfl)⟩
theorem kk_7_270 : linkV 7 270 M_M_steepestStage := ⟨ok_M_steepestStage, (inW4 (i := 155) rfl rfl), (inW4 (i := 157) rfl rfl), (inP (i := 38) rfl rfl)⟩
theorem kk_7_273 : linkV 7 273 M_M_slopesLeft := ⟨ok_M_slopesLeft, (inW4 (i := 163) rfl rfl), (inW4 (i := 165) rfl rfl), (inP (i := 39) rfl rfl)⟩
theorem kk_7_276 : linkV 7 276 M_M_stuckAt := ⟨ok_M_stuckAt, (inW4 (i := 175) rfl rfl), (inW4 (i := 177) rfl rfl), (inP (i := 40) rfl rfl)⟩
theorem kk_7_279 : linkV 7 279 M_M_lameDays := ⟨ok_M_lameDays, (inW4 (i := 179) rfl rfl), (inW4 (i := 181) rfl rfl), (inP (i := 41) rfl rfl)⟩
theorem kp_7_30 : linkP 7 30 0 := ⟨RX7, TX7, 33, rfl, rfl, by decide +kernel⟩
theorem kf_7_282 : linkF 7 282 7 32 := ⟨RX7, TX7, 33, rfl, Nat.le_of_ble_eq_true rfl, rfl, Or.inl (inW3 (i := 32) rfl rfl)⟩
theorem kc_7_285 : linkC 7 285 1103515245 := (inW4 (i := 211) rfl rfl)
theorem kp_7_32 : linkP 7 32 0 := ⟨RX7, TX7, 33, rfl, rfl, by decide +kernel⟩
theorem kc_7_286 : linkC 7 286 2147483647 := (inW4 (i := 212) rfl rfl)
theorem kc_7_287 : linkC 7 287 65536 := (inW4 (i := 213) rfl rfl)
theorem kk_7_288 : linkV 7 288 M_M_drawBelow := ⟨ok_M_drawBelow, (inW4 (i := 207) rfl rfl), (inW4 (i := 209) rfl rfl), (inP (i := 42) rfl rfl)⟩
theorem kj_7_291 : linkJ 7 291 16 := (inW4 (i := 218) rfl rfl)
theorem kf_0_12 : linkF 0 12 0 0 := ⟨RX0, TX0, 2, rfl, Nat.le_of_ble_eq_true rfl, rfl, Or.inl (inW0 (i := 139) rfl rfl)⟩
theorem kk_0_22 : linkV 0 22 M_Re_become := ⟨ok_Re_become, (inW2 (i := 104) rfl rfl), (inW0 (i := 219) rfl rfl), (inW0 (i := 220) rfl rfl)⟩
theorem kk_0_26 : linkV 0 26 M_Re_snowMore := ⟨ok_Re_snowMore, (inW2 (i := 105) rfl rfl), (inW2 (i := 106) rfl rfl), (inW2 (i := 107) rfl rfl)⟩
theorem kk_0_30 : linkV 0 30 M_Re_waitsOneDay := ⟨ok_Re_waitsOneDay, (inW2 (i := 109) rfl rfl), (inW1 (i := 29) rfl rfl), (inW1 (i := 30) rfl rfl)⟩
theorem kf_0_34 : linkF 0 34 4 6 := ⟨RX4, TX4, 10, rfl, Nat.le_of_ble_eq_true rfl, rfl, Or.inr (inN0 (i := 34) rfl rfl)⟩
theorem kk_0_37 : linkS 0 37 M_In_bitCount := ⟨ok_In_bitCount, Or.inl (inW2 (i := 110) rfl rfl), (inW1 (i := 221) rfl rfl)⟩
theorem kk_0_43 : linkS 0 43 M_X_power := ⟨ok_X_power, Or.inr (inN2 (i := 111) rfl rfl), (inW2 (i := 112) rfl rfl)⟩
theorem kf_0_18 : linkF 0 18 0 1 := ⟨RX0, TX0, 2, rfl, Nat.le_of_ble_eq_true rfl, rfl, Or.inl (inW0 (i := 140) rfl rfl)⟩
theorem kp_0_1 : linkP 0 1 0 := ⟨RX0, TX0, 2, rfl, rfl, by decide +kernel⟩
theorem kk_0_47 : linkV 0 47 M_Ch_drawDigit := ⟨ok_Ch_drawDigit, (inW2 (i := 212) rfl rfl), (inW2 (i := 213) rfl rfl), (inW2 (i := 214) rfl rfl)⟩
theorem kk_0_51 : linkV 0 51 M_Re_levels := ⟨ok_Re_levels, (inW2 (i := 219) rfl rfl), (inW1 (i := 15) rfl rfl), (inW1 (i := 16) rfl rfl)⟩
theorem kk_0_55 : linkV 0 55 M_Re_passDays := ⟨ok_Re_passDays, (inW2 (i := 220) rfl rfl), (inW1 (i := 25) rfl rfl), (inW1 (i := 26) rfl rfl)⟩
theorem kk_0_58 : linkV 0 58 M_Re_menWhoAre := ⟨ok_Re_menWhoAre, (inW2 (i := 221) rfl rfl), (inW1 (i := 165) rfl rfl), (inW1 (i := 166) rfl rfl)⟩
theorem kc_0_61 : linkC 0 61 1103515245 := (inW2 (i := 216) rfl rfl)
theorem kc_0_62 : linkC 0 62 2147483647 := (inW2 (i := 217) rfl rfl)
theorem kc_0_63 : linkC 0 63 65536 := (inW2 (i := 218) rfl rfl)
theorem kf_1_12 : linkF 1 12 1 0 := ⟨RX1, TX1, 3, rfl, Nat.le_of_ble_eq_true rfl, rfl, Or.inl (inW0 (i := 121) rfl rfl)⟩
theorem kk_1_25 : linkV 1 25 M_Re_become := ⟨ok_Re_become, (inW1 (i := 180) rfl rfl), (inW0 (i := 219) rfl rfl), (inW0 (i := 220) rfl rfl)⟩
theorem kk_1_29 : linkV 1 29 M_Re_isHome := ⟨ok_Re_isHome, (inW1 (i := 181) rfl rfl), (inW1 (i := 33) rfl rfl), (inW1 (i := 34) rfl rfl)⟩
theorem kk_1_33 : linkV 1 33 M_Re_waitsOneDay := ⟨ok_Re_waitsOneDay, (inW1 (i := 182) rfl rfl), (inW1 (i := 29) rfl rfl), (inW1 (i := 30) rfl rfl)⟩
theorem kk_1_36 : linkV 1 36 M_Re_fateOf := ⟨ok_Re_fateOf, (inW1 (i := 193) rfl rfl), (inW1 (i := 103) rfl rfl), (inW1 (i := 104) rfl rfl)⟩
theorem kk_1_40 : linkV 1 40 M_Re_passDays := ⟨ok_Re_passDays, (inW1 (i := 206) rfl rfl), (inW1 (i := 25) rfl rfl), (inW1 (i := 26) rfl rfl)⟩
theorem kf_1_43 : linkF 1 43 4 6 := ⟨RX4, TX4, 10, rfl, Nat.le_of_ble_eq_true rfl, rfl, Or.inr (inN0 (i := 36) rfl rfl)⟩
theorem kk_1_47 : linkV 1 47 M_Re_makeFate := ⟨ok_Re_makeFate, (inW1 (i := 207) rfl rfl), (inW1 (i := 208) rfl rfl), (inW1 (i := 209) rfl rfl)⟩
theorem kk_1_51 : linkV 1 51 M_Re_menWhoAre := ⟨ok_Re_menWhoAre, (inW1 (i := 219) rfl rfl), (inW1 (i := 165) rfl rfl), (inW1 (i := 166) rfl rfl)⟩
theorem kk_1_54 : linkS 1 54 M_In_bitCount := ⟨ok_In_bitCount, Or.inl (inW1 (i := 220) rfl rfl), (inW1 (i := 221) rfl rfl)⟩
theorem kk_1_59 : linkV 1 59 M_Co_pardonInMind := ⟨ok_Co_pardonInMind, (inW1 (i := 226) rfl rfl), (inW1 (i := 227) rfl rfl), (inW1 (i := 228) rfl rfl)⟩
theorem kf_1_63 : linkF 1 63 4 7 := ⟨RX4, TX4, 10, rfl, Nat.le_of_ble_eq_true rfl, rfl, Or.inr (inN0 (i := 39) rfl rfl)⟩
theorem kk_1_66 : linkV 1 66 M_Re_levels := ⟨ok_Re_levels, (inW2 (i := 6) rfl rfl), (inW1 (i := 15) rfl rfl), (inW1 (i := 16) rfl rfl)⟩
theorem kk_1_70 : linkV 1 70 M_Re_strengthOf := ⟨ok_Re_strengthOf, (inW2 (i := 34) rfl rfl), (inW2 (i := 35) rfl rfl), (inW2 (i := 36) rfl rfl)⟩
theorem kk_1_73 : linkV 1 73 M_Re_needed := ⟨ok_Re_needed, (inW2 (i := 38) rfl rfl), (inW1 (i := 41) rfl rfl), (inW1 (i := 42) rfl rfl)⟩
theorem kk_1_77 : linkV 1 77 M_Co_kingGoesAs := ⟨ok_Co_kingGoesAs, (inW2 (i := 54) rfl rfl), (inW2 (i := 55) rfl rfl), (inW2 (i := 56) rfl rfl)⟩
theorem kf_1_81 : linkF 1 81 5 1 := ⟨RX5, TX5, 2, rfl, Nat.le_of_ble_eq_true rfl, rfl, Or.inr (inN0 (i := 106) rfl rfl)⟩
theorem kk_1_86 : linkV 1 86 M_Ro_at := ⟨ok_Ro_at, (inW2 (i := 58) rfl rfl), (inW2 (i := 59) rfl rfl), (inW2 (i := 60) rfl rfl)⟩
theorem kk_1_89 : linkV 1 89 M_Re_makeKind := ⟨ok_Re_makeKind, (inW2 (i := 70) rfl rfl), (inW2 (i := 71) rfl rfl), (inW2 (i := 72) rfl rfl)⟩
theorem kk_1_92 : linkV 1 92 M_Co_isWornAs := ⟨ok_Co_isWornAs, (inW2 (i := 74) rfl rfl), (inW2 (i := 75) rfl rfl), (inW2 (i := 76) rfl rfl)⟩
theorem kk_1_96 : linkV 1 96 M_Re_makeFigure := ⟨ok_Re_makeFigure, (inW2 (i := 83) rfl rfl), (inW2 (i := 84) rfl rfl), (inW2 (i := 85) rfl rfl)⟩
theorem kk_1_99 : linkV 1 99 M_Re_wornOf := ⟨ok_Re_wornOf, (inW2 (i := 78) rfl rfl), (inW1 (i := 107) rfl rfl), (inW1 (i := 108) rfl rfl)⟩
theorem kf_1_18 : linkF 1 18 1 1 := ⟨RX1, TX1, 3, rfl, Nat.le_of_ble_eq_true rfl, rfl, Or.inl (inW0 (i := 122) rfl rfl)⟩
theorem kf_1_22 : linkF 1 22 1 2 := ⟨RX1, TX1, 3, rfl, Nat.le_of_ble_eq_true rfl, rfl, Or.inl (inW0 (i := 123) rfl rfl)⟩
theorem kn_1_102 : linkN 1 102 1 := ⟨(inW2 (i := 162) rfl rfl), (inW0 (i := 212) rfl rfl), (inW0 (i := 9) rfl rfl), (inW0 (i := 213) rfl rfl)⟩
theorem kf_1_108 : linkF 1 108 4 8 := ⟨RX4, TX4, 10, rfl, Nat.le_of_ble_eq_true rfl, rfl, Or.inr (inN0 (i := 42) rfl rfl)⟩
theorem kf_2_15 : linkF 2 15 2 1 := ⟨RX2, TX2, 2, rfl, Nat.le_of_ble_eq_true rfl, rfl, Or.inl (inW0 (i := 91) rfl rfl)⟩
theorem kf_2_9 : linkF 2 9 2 0 := ⟨RX2, TX2, 2, rfl, Nat.le_of_ble_eq_true rfl, rfl, Or.inl (inW0 (i := 90) rfl rfl)⟩
theorem kp_2_1 : linkP 2 1 0 := ⟨RX2, TX2, 2, rfl, rfl, by decide +kernel⟩
theorem kk_2_19 : linkV 2 19 M_Le_at := ⟨ok_Le_at, (inW0 (i := 201) rfl rfl), (inW0 (i := 202) rfl rfl), (inW0 (i := 203) rfl rfl)⟩
theorem kk_2_23 : linkV 2 23 M_Le_isDigit := ⟨ok_Le_isDigit, (inW0 (i := 214) rfl rfl), (inW0 (i := 215) rfl rfl), (inW0 (i := 216) rfl rfl)⟩
theorem kk_2_27 : linkV 2 27 M_Le_digit := ⟨ok_Le_digit, (inW0 (i := 237) rfl rfl), (inW0 (i := 230) rfl rfl), (inW0 (i := 231) rfl rfl)⟩
theorem kk_2_30 : linkS 2 30 M_Le_digitsBehind := ⟨ok_Le_digitsBehind, Or.inl (inW0 (i := 205) rfl rfl), (inW0 (i := 206) rfl rfl)⟩
theorem kn_2_33 : linkN 2 33 1 := ⟨(inW0 (i := 211) rfl rfl), (inW0 (i := 212) rfl rfl), (inW0 (i := 9) rfl rfl), (inW0 (i := 213) rfl rfl)⟩
theorem kk_2_39 : linkS 2 39 M_Le_lengthOf := ⟨ok_Le_lengthOf, Or.inl (inW0 (i := 208) rfl rfl), (inW0 (i := 209) rfl rfl)⟩
theorem kf_3_17 : linkF 3 17 3 1 := ⟨RX3, TX3, 2, rfl, Nat.le_of_ble_eq_true rfl, rfl, Or.inl (inW0 (i := 77) rfl rfl)⟩
theorem kk_3_22 : linkV 3 22 M_Pa_dropOldest := ⟨ok_Pa_dropOldest, (inW1 (i := 131) rfl rfl), (inW1 (i := 132) rfl rfl), (inW1 (i := 133) rfl rfl)⟩
theorem kf_3_11 : linkF 3 11 3 0 := ⟨RX3, TX3, 2, rfl, Nat.le_of_ble_eq_true rfl, rfl, Or.inl (inW0 (i := 76) rfl rfl)⟩
theorem kk_3_25 : linkV 3 25 M_Re_become := ⟨ok_Re_become, (inW1 (i := 135) rfl rfl), (inW0 (i := 219) rfl rfl), (inW0 (i := 220) rfl rfl)⟩
theorem kp_3_1 : linkP 3 1 0 := ⟨RX3, TX3, 2, rfl, rfl, by decide +kernel⟩
theorem kf_4_9 : linkF 4 9 4 0 := ⟨RX4, TX4, 10, rfl, Nat.le_of_ble_eq_true rfl, rfl, Or.inl (inW0 (i := 26) rfl rfl)⟩
theorem kn_4_43 : linkN 4 43 3 := ⟨(inW0 (i := 222) rfl rfl), (inW0 (i := 223) rfl rfl), (inW0 (i := 10) rfl rfl), (inW0 (i := 224) rfl rfl)⟩
theorem kf_4_15 : linkF 4 15 4 1 := ⟨RX4, TX4, 10, rfl, Nat.le_of_ble_eq_true rfl, rfl, Or.inl (inW0 (i := 27) rfl rfl)⟩
theorem kf_4_18 : linkF 4 18 4 2 := ⟨RX4, TX4, 10, rfl, Nat.le_of_ble_eq_true rfl, rfl, Or.inl (inW0 (i := 28) rfl rfl)⟩
theorem kf_4_21 : linkF 4 21 4 3 := ⟨RX4, TX4, 10, rfl, Nat.le_of_ble_eq_true rfl, rfl, Or.inl (inW0 (i := 29) rfl rfl)⟩
theorem kf_4_24 : linkF 4 24 4 4 := ⟨RX4, TX4, 10, rfl, Nat.le_of_ble_eq_true rfl, rfl, Or.inl (inW0 (i := 30) rfl rfl)⟩
theorem kf_4_27 : linkF 4 27 4 5 := ⟨RX4, TX4, 10, rfl, Nat.le_of_ble_eq_true rfl, rfl, Or.inl (inW0 (i := 31) rfl rfl)⟩
theorem kp_4_5 : linkP 4 5 0 := ⟨RX4, TX4, 10, rfl, rfl, by decide +kernel⟩
theorem kf_4_31 : linkF 4 31 4 6 := ⟨RX4, TX4, 10, rfl, Nat.le_of_ble_eq_true rfl, rfl, Or.inl (inW0 (i := 33) rfl rfl)⟩
theorem kf_4_34 : linkF 4 34 4 7 := ⟨RX4, TX4, 10, rfl, Nat.le_of_ble_eq_true rfl, rfl, Or.inl (inW0 (i := 37) rfl rfl)⟩
theorem kf_4_37 : linkF 4 37 4 8 := ⟨RX4, TX4, 10, rfl, Nat.le_of_ble_eq_true rfl, rfl, Or.inl (inW0 (i := 40) rfl rfl)⟩
theorem kf_4_40 : linkF 4 40 4 9 := ⟨RX4, TX4, 10, rfl, Nat.le_of_ble_eq_true rfl, rfl, Or.inl (inW0 (i := 43) rfl rfl)⟩
theorem kp_4_9 : linkP 4 9 0 := ⟨RX4, TX4, 10, rfl, rfl, by decide +kernel⟩
theorem kk_4_49 : linkV 4 49 M_Re_has := ⟨ok_Re_has, (inW1 (i := 10) rfl rfl), (inW1 (i := 11) rfl rfl), (inW1 (i := 12) rfl rfl)⟩
theorem kk_4_53 : linkS 4 53 M_X_isKind := ⟨ok_X_isKind, Or.inr (inN1 (i := 3) rfl rfl), (inW1 (i := 4) rfl rfl)⟩
theorem kk_4_56 : linkS 4 56 M_X_isStage := ⟨ok_X_isStage, Or.inr (inN1 (i := 18) rfl rfl), (inW1 (i := 19) rfl rfl)⟩
theorem kk_4_59 : linkV 4 59 M_Re_slopeOf := ⟨ok_Re_slopeOf, (inW1 (i := 44) rfl rfl), (inW1 (i := 45) rfl rfl), (inW1 (i := 46) rfl rfl)⟩
theorem kk_4_63 : linkV 4 63 M_Re_isFeudAmong := ⟨ok_Re_isFeudAmong, (inW1 (i := 64) rfl rfl), (inW1 (i := 65) rfl rfl), (inW1 (i := 66) rfl rfl)⟩
theorem kk_4_66 : linkV 4 66 M_Re_bears := ⟨ok_Re_bears, (inW1 (i := 52) rfl rfl), (inW1 (i := 53) rfl rfl), (inW1 (i := 54) rfl rfl)⟩
theorem kk_4_69 : linkV 4 69 M_Re_needed := ⟨ok_Re_needed, (inW1 (i := 40) rfl rfl), (inW1 (i := 41) rfl rfl), (inW1 (i := 42) rfl rfl)⟩
theorem kk_4_73 : linkV 4 73 M_Re_strongestBut := ⟨ok_Re_strongestBut, (inW1 (i := 48) rfl rfl), (inW1 (i := 49) rfl rfl), (inW1 (i := 50) rfl rfl)⟩
theorem kk_4_76 : linkV 4 76 M_Re_isHome := ⟨ok_Re_isHome, (inW1 (i := 32) rfl rfl), (inW1 (i := 33) rfl rfl), (inW1 (i := 34) rfl rfl)⟩
theorem kk_4_80 : linkV 4 80 M_Re_bearers := ⟨ok_Re_bearers, (inW1 (i := 36) rfl rfl), (inW1 (i := 37) rfl rfl), (inW1 (i := 38) rfl rfl)⟩
theorem kk_4_83 : linkV 4 83 M_Re_wearOut := ⟨ok_Re_wearOut, (inW1 (i := 56) rfl rfl), (inW1 (i := 57) rfl rfl), (inW1 (i := 58) rfl rfl)⟩
theorem kk_4_87 : linkV 4 87 M_Re_buryTheWornOut := ⟨ok_Re_buryTheWornOut, (inW1 (i := 71) rfl rfl), (inW1 (i := 72) rfl rfl), (inW1 (i := 73) rfl rfl)⟩
theorem kn_4_90 : linkN 4 90 1 := ⟨(inW1 (i := 79) rfl rfl), (inW0 (i := 212) rfl rfl), (inW0 (i := 9) rfl rfl), (inW0 (i := 213) rfl rfl)⟩
theorem kk_4_96 : linkV 4 96 M_Re_waitsOneDay := ⟨ok_Re_waitsOneDay, (inW1 (i := 28) rfl rfl), (inW1 (i := 29) rfl rfl), (inW1 (i := 30) rfl rfl)⟩
theorem kk_4_99 : linkV 4 99 M_Re_wears := ⟨ok_Re_wears, (inW1 (i := 60) rfl rfl), (inW1 (i := 61) rfl rfl), (inW1 (i := 62) rfl rfl)⟩
theorem kn_4_102 : linkN 4 102 2 := ⟨(inW1 (i := 68) rfl rfl), (inW1 (i := 69) rfl rfl), (inW0 (i := 9) rfl rfl), (inW1 (i := 70) rfl rfl)⟩
theorem kk_4_105 : linkV 4 105 M_Re_lasts := ⟨ok_Re_lasts, (inW1 (i := 75) rfl rfl), (inW1 (i := 76) rfl rfl), (inW1 (i := 77) rfl rfl)⟩
theorem kk_4_108 : linkV 4 108 M_Re_menWhoAre := ⟨ok_Re_menWhoAre, (inW2 (i := 156) rfl rfl), (inW1 (i := 165) rfl rfl), (inW1 (i := 166) rfl rfl)⟩
theorem kk_4_111 : linkV 4 111 M_Re_strengthOf := ⟨ok_Re_strengthOf, (inW2 (i := 157) rfl rfl), (inW2 (i := 35) rfl rfl), (inW2 (i := 36) rfl rfl)⟩
theorem kk_4_114 : linkV 4 114 M_Re_oneWhoBears := ⟨ok_Re_oneWhoBears, (inW2 (i := 26) rfl rfl), (inW2 (i := 27) rfl rfl), (inW2 (i := 28) rfl rfl)⟩
theorem kf_5_15 : linkF 5 15 5 1 := ⟨RX5, TX5, 2, rfl, Nat.le_of_ble_eq_true rfl, rfl, Or.inl (inW0 (i := 105) rfl rfl)⟩
theorem kf_5_9 : linkF 5 9 5 0 := ⟨RX5, TX5, 2, rfl, Nat.le_of_ble_eq_true rfl, rfl, Or.inl (inW0 (i := 104) rfl rfl)⟩
theorem kp_5_1 : linkP 5 1 0 := ⟨RX5, TX5, 2, rfl, rfl, by decide +kernel⟩
theorem kc_8_265 : linkC 8 265 1431655765 := (inW1 (i := 223) rfl rfl)
theorem kc_8_266 : linkC 8 266 858993459 := (inW1 (i := 224) rfl rfl)
theorem kc_8_267 : linkC 8 267 252645135 := (inW1 (i := 225) rfl rfl)
