/-! ===== the law's start: both objects are made; what they are is the world at its start ===== -/
section LAWS
variable {p : Program} {l : Launch} {e : Env} {s : State} {m : MethodId} {below : List Frame} {meth : Method} {c : Code} {b L : Nat} {xs : Nat → Int32} {G : va_G} {cI cR : ClassId}
theorem la_obj {Y : MD} {i1 i2 d c0 k0 o N pc cc ss : Nat} {C : String} {T : u_T} {fs : List Value} {Sh2 : SHP} {ws : va_W} {H : Heap} {locs : List Loc} {ls : Array Slot} {lv : List (Nat × Value)} (F : LF p l e s m below meth c b L xs G cI cR) (hao : va_AO RX4 s) (hcl : vwCl[o]? = some (C, T, N)) (h1 : (.classLink R_law i1 C : Cond) ∈ WT) (h2 : (.instantiable C N : Cond) ∈ WT) (h3 : (.initialized C : Cond) ∈ WT) (hlink : (.methodLink R_law i2 (mY Y) : Cond) ∈ WT) (hinst : (.instanceMethod (mY Y) : Cond) ∈ WT) (ty : Nat → FieldType) (hty : ∀ k, k < N → parseFieldDescriptor (T k).2.2.1 = some (ty k)) (hfs : ∀ j, j < N → defaultValue (ty j) = vp_V fs j)
    (hY : Ctr Y d c0 k0 o fs Sh2) (hok : okM Y) (hname : (mY Y).name = "<init>") (hret : mR Y = none) (hpar : mN Y = 0) (hfr : d + 1 ≤ 10) (hlo : 8 + (mL Y + 11) + 40 * d ≤ 364) (hd0 : decode code pc = .ok (.new i1, 3)) (hd1 : decode code (pc + 3) = .ok (.dup, 1)) (hd2 : decode code (pc + 4) = .ok (.invokespecial i2, 3)) (hc : cc + 1 + c0 ≤ 600000) (hs : ss + N + k0 ≤ 7302250)
    (hP : va_P G vwCl ws H) (hD : va_D (fun q => s.heap.size ≤ q) ws) (hS : va_S (fun q => s.heap.size ≤ q) s.heap H locs) (E : lv_has ls 4 lv)
    (K : ∀ (q : Nat) (w1 : va_W) (H1 : Heap) (locs1 : List Loc), Sh2 q cI cR w1 → va_P G vwCl (ws ++ w1) H1 → va_D (fun q => s.heap.size ≤ q) (ws ++ w1) → va_S (fun q => s.heap.size ≤ q) s.heap H1 locs1 → W p l e room_1 s m #[Value.ref b] below meth c H1 locs1 (cc + 1 + c0) (ss + N + k0) (lw_Z below #[Value.ref b] s) (F0 m (pc + 7) ls [.ref q])) : W p l e room_1 s m #[Value.ref b] below meth c H locs cc ss (lw_Z below #[Value.ref b] s) (F0 m pc ls []) := by
  obtain ⟨x1, x2, x3, x4, x5, x6, x7, x8, x9, x10⟩ := id F.1
  have hK := F.2.1
  have hNW := F.2.2.1
  have hw : ∀ w ∈ WT, w.before #[Value.ref b] s = true := fun w q => x6 w (WT_lw q)
  have hA : ∀ q : Nat, s.heap.size ≤ q → (fun q : Nat => s.heap.size ≤ q) q := fun _ h => h
  obtain ⟨hu, _, _⟩ := clsF hcl
  obtain ⟨g1, g2, g3, g4, g5, g6, g7⟩ := okM_sp hok
  rw [hpar] at g6
  refine va_new (Ts := WT) x1 x2 hw hu ty hty x5 (hw _ h1) (hw _ h2) (hw _ h3) hK hP hD hS hA hcl hfs (show cc + 1 ≤ 600000 by omega) (show ss + N ≤ 7302250 by omega) hd0 (fun q H hP hD hS => ?_)
  refine lv_dup x1 x2 hd1 rfl ?_
  have hC : [ws.length].map (fun i => (ws ++ [(q, (.inr (o, fs) : va_E))])[i]?) = [(q, (.inr (o, fs) : va_E))].map some := by simp
  have hF := va_free hD hS hA [ws.length] hC
  have hPc : va_P G vwCl [(q, .inr (o, fs))] H := hP.sub [ws.length] (by simp)
  have hDc : va_D (fun q => s.heap.size ≤ q) [(q, (.inr (o, fs) : va_E))] := hD.sub [ws.length] (by simp [va_nd]) hC
  have hGI : GoodIn WT (wsM Y) := by
    intro w hw
    rcases List.mem_cons.mp hw with rfl | hw
    · exact WT_good _ g1
    · exact WT_good _ hw
  have hret' : wsM Y = .code (mY Y) (mB Y) (mL Y) none :: WT := by rw [← hret]; rfl
  have pre : PreS s H (va_Pc [.ref q] (preW G cI cR H.size [(q, .inr (o, fs))])) (.ref q :: []) := ⟨preW_blind, fun U hU hW => ⟨rfl, by rw [hU], by rw [hU]; exact hPc, va_K.moved hW.alike hK, hDc.weaken (fun _ _ _ _ => trivial), hNW.warm hW, hao.moved hW.alike⟩⟩
  have run : va_Run p l e room_1 s m #[Value.ref b] below meth c H locs (cc + 1) (ss + N) c0 k0 (F0 m (pc + 3 + 1) ls (.ref q :: .ref q :: [])) (.ref q :: []) (QW G cI cR (va_A [(q, .inr (o, fs))] H.size) (Sh2 q cI cR) (Value.ref q :: []).toArray) (va_A [(q, .inr (o, fs))] H.size) :=
    va_runI (As := []) (rest := .ref q :: []) ⟨x1, x2, x4, x5, hw⟩ (hY l G cI cR H.size q) (cwI 0 hw hGI hret' rfl rfl (hw _ g2) (hw _ hlink) (hw _ hinst) hname ⟨g5.1, g5.2, g6⟩ ⟨hfr, hlo⟩) pre rfl rfl E.1 rfl (lv_room (Nat.le_of_ble_eq_true rfl)) hd2 ⟨hc, hs⟩
  refine va_callv run hS (fun x _ h => hF x h) hF (fun w1 t H1 locs1 ht hvm hsh hB hz1 hk1 hS1 => ?_)
  obtain ⟨hP1, hK1, hD1⟩ := hB
  rw [ht] at hP1
  obtain ⟨hP2, hD2⟩ := va_join (wr := ws) (w1 := w1) hP hD [ws.length] (List.range ws.length) hC (range_map ws _) (va_nd_of List.nodup_range) (fun i hi hj => by
    rw [List.mem_range] at hi
    rw [List.mem_singleton] at hj
    omega) hk1 hF hP1 hD1
  exact K q w1 H1 locs1 hsh hP2 hD2 hS1
end LAWS
theorem gr0 : GR R0 := by
  refine ⟨by rw [R0_men]; omega, by rw [R0_king]; omega, by rw [R0_load]; omega, by rw [R0_snow]; omega, fun k => ?_, fun k => ?_, fun k => ?_, fun k => ?_, fun k => ?_⟩
  · show 0 ≤ (if k < 12 then (1 : Int) else 0) ∧ (if k < 12 then (1 : Int) else 0) ≤ 9
    split <;> omega
  all_goals exact ⟨Int.le_refl 0, by show (0 : Int) ≤ _; omega⟩
theorem gd0 : GD R0 := by
  refine ⟨⟨gr0, fun k hk => ?_, fun j hj => ?_, fun j _ => rfl, fun j _ => rfl, fun j _ => rfl, fun j _ => rfl⟩, ?_⟩
  · exact absurd hk (by show ¬ k < (rMen R0).toNat; rw [R0_men]; omega)
  · show (if j < 12 then (1 : Int) else 0) = 0
    rw [if_neg (by omega)]
  · rw [R0_day]; omega
theorem ps0 (f : Prop) : PS f hI0 := by
  have hX : XW R0 R0 0 (fun _ => R0) 0 nul 0 nul 0 nul (hM0 (fun _ => none)) hI0 := ⟨fun _ => R0, id, nul, nul, 0, rfl, fun _ => gr0, rfl, rfl, fun _ _ => rfl, ⟨by omega, by omega⟩, fun j hj => hj, fun i j _ _ hij => hij⟩
  have hM1 : MW R0 R0 0 (fun _ => R0) 0 nul 0 nul 0 nul (fun _ => none) (hM0 (fun _ => none)) := ⟨0, 0, 0, nul, nul, nul, nul, nul, 0, 0, .null, nul, nul, nul, 0, rfl, fun q => absurd rfl q, fun i hi => absurd hi (by omega), by omega, by omega⟩
  refine ⟨R0, R0, 0, fun _ => R0, 0, nul, 0, nul, 0, nul, ⟨_, hX⟩, ⟨_, hM1.mv (g := hI0) (fun k hk => hI0_hi (by omega))⟩, gd0, gd0, fun _ _ => gd0, Or.inl rfl, ⟨by omega, fun k => ?_⟩, ⟨by omega, fun k => ?_⟩, fun _ => R0_men⟩
  · show (0 : Int) ≤ 0 ∧ (0 : Int) ≤ 255
    omega
  · show (0 : Int) ≤ 0 ∧ (0 : Int) ≤ 99
    omega
theorem hb0 : hB 107 hI0 := by
  intro k hk
  rw [hI0_hi (by omega)]
  show HM _ _ _ _ _ _ _ _ _ _ _ _ _ _ _ _ _ _ _ _ _ _ _ _ k = none
  simp only [HM]
  repeat rw [if_neg (by omega)]
set_option maxHeartbeats 4000000 in
set_option maxRecDepth 100000 in
theorem whole_start {p : Program} {e : Env} {s : State} {m : MethodId} {below : List Frame} {meth : Method} {c : Code} (l : Launch) (hflags : l.flags = flags0) {b L : Nat} {xs : Nat → Int32} (hL : L ≤ 2560) (C0 : lw_At p s m meth c b L xs) : W p l e room_1 s m #[Value.ref b] below meth c s.heap [] 0 0 (lw_Z below #[Value.ref b] s) (entryFrame m ([Value.ref b] : List Value).toArray 4) := by
  obtain ⟨hx, hb, hr, hml, hown, hts, hX, hbl, hlocks, hgv⟩ := id C0
  have hw : ∀ w ∈ WT, w.before #[Value.ref b] s = true := fun w q => hts w (WT_lw q)
  obtain ⟨c0, i0, k0⟩ := u_known (C := RX0) (T := TX0) (N := 2) (n := 2) hw u_in0 (hw _ (g9_ (i := 132) rfl rfl))
  obtain ⟨c1, i1, k1⟩ := u_known (C := RX1) (T := TX1) (N := 3) (n := 3) hw u_in1 (hw _ (g9_ (i := 114) rfl rfl))
  obtain ⟨c2, i2, k2⟩ := u_known (C := RX2) (T := TX2) (N := 2) (n := 2) hw u_in2 (hw _ (g9_ (i := 85) rfl rfl))
  obtain ⟨c3, i3, k3⟩ := u_known (C := RX3) (T := TX3) (N := 2) (n := 2) hw u_in3 (hw _ (g9_ (i := 68) rfl rfl))
  obtain ⟨c4, i4, k4⟩ := u_known (C := RX4) (T := TX4) (N := 10) (n := 10) hw u_in4 (hw _ (g9_ (i := 21) rfl rfl))
  obtain ⟨c5, i5, k5⟩ := u_known (C := RX5) (T := TX5) (N := 2) (n := 2) hw u_in5 (hw _ (g9_ (i := 99) rfl rfl))
  obtain ⟨c6, i6, k6⟩ := u_known (C := RX6) (T := TX6) (N := 10) (n := 10) hw u_in6 (hw _ (g9_ (i := 13) rfl rfl))
  obtain ⟨c7, i7, k7⟩ := u_known (C := RX7) (T := TX7) (N := 33) (n := 33) hw u_in7 (hw _ (hc_ (i := 235) rfl rfl))
  obtain ⟨G, hKc⟩ : ∃ G : va_G, ∀ (k : Nat) (q : vw_C), vwCl[k]? = some q → u_Kn s q.1 q.2.1 q.2.2 (G.1 k) (G.2 k) := by
    refine ⟨(fun k => match k with | 0 => c0 | 1 => c1 | 2 => c2 | 3 => c3 | 4 => c4 | 5 => c5 | 6 => c6 | _ => c7, fun k => match k with | 0 => i0 | 1 => i1 | 2 => i2 | 3 => i3 | 4 => i4 | 5 => i5 | 6 => i6 | _ => i7), ?_⟩
    intro k q hq
    match k, hq with
    | 0, hq => cases hq; exact k0
    | 1, hq => cases hq; exact k1
    | 2, hq => cases hq; exact k2
    | 3, hq => cases hq; exact k3
    | 4, hq => cases hq; exact k4
    | 5, hq => cases hq; exact k5
    | 6, hq => cases hq; exact k6
    | 7, hq => cases hq; exact k7
    | k + 8, hq => simp [vwCl] at hq
  obtain ⟨cI, hI⟩ : ∃ cI, ArrOfT s cI .int ∧ va_RA s cI .int := by
    obtain ⟨cA, kA, comp, h1, h2, h3⟩ := Cond.arrayClass_spec (hw _ (g9_ (i := 66) rfl rfl))
    exact ⟨cA, fun N z => ⟨(fun k h => by cases h), kA, h2, comp, h3⟩, h1⟩
  have hAO : va_AO RX4 s := va_AO.of (hts _ (List.mem_append_right _ (List.mem_append_left _ (List.mem_of_getElem? (show tables_1_1[74]? = some _ from rfl)))))
  obtain ⟨cR, hR⟩ : ∃ cR, ArrOfT s cR (.object RX4) ∧ va_RA s cR (.object RX4) := by
    obtain ⟨comp, cA, kA, f1, f2, f3, f4, f5⟩ := Cond.arrayOver_spec hAO
    exact ⟨cA, fun N z => ⟨(fun k h => by cases h), kA, f3, comp, f4⟩, kA, comp, f3, f4, f1, f5⟩
  have hK : va_K G vwCl (tyz cI cR) s := by
    refine ⟨hKc, fun k q hq => ?_⟩
    match k, hq with
    | 0, hq => cases hq; exact hI
    | 1, hq => cases hq; exact hR
    | k + 2, hq => simp at hq
  have F : LF p l e s m below meth c b L xs G cI cR := ⟨C0, hK, NW.of hts, hL, rfl, rfl, rfl⟩
  have hN := NN_le
  have hLN : L ≤ NN := hL
  have hS : va_S (fun q : Nat => s.heap.size ≤ q) s.heap s.heap [] := va_S.rf
  have hP : va_P G vwCl [] s.heap := fun k q h => by simp at h
  have hD : va_D (fun q : Nat => s.heap.size ≤ q) [] := ⟨fun i j p q h => by simp at h, fun k q h => by simp at h⟩
  have hl := lv_entry ([.ref b]) (n := 4) (Nat.le_of_ble_eq_true rfl)
  rw [lg_entry_eq]
  generalize (lg_sl ([.ref b]) ++ List.replicate (4 - (lg_sl ([.ref b])).length) Slot.unset).toArray = ls at hl ⊢
  have hl : lv_has ls 4 [(0, .ref b)] := hl
  obtain ⟨x1, x2, x3, x4, x5⟩ := (⟨(g9_ (i := 12) rfl rfl), (g9_ (i := 13) rfl rfl), (g9_ (i := 1) rfl rfl), (g9_ (i := 14) rfl rfl), (g9_ (i := 15) rfl rfl)⟩ : (.classLink R_law 7 RX6 : Cond) ∈ WT ∧ (.instantiable RX6 10 : Cond) ∈ WT ∧ (.initialized RX6 : Cond) ∈ WT ∧ (.methodLink R_law 9 (mY M_X_init) : Cond) ∈ WT ∧ (.instanceMethod (mY M_X_init) : Cond) ∈ WT)
  obtain ⟨y1, y2, y3, y4, y5⟩ := (⟨(hc_ (i := 234) rfl rfl), (hc_ (i := 235) rfl rfl), (g9_ (i := 8) rfl rfl), (hc_ (i := 236) rfl rfl), (hc_ (i := 237) rfl rfl)⟩ : (.classLink R_law 10 RX7 : Cond) ∈ WT ∧ (.instantiable RX7 33 : Cond) ∈ WT ∧ (.initialized RX7 : Cond) ∈ WT ∧ (.methodLink R_law 12 (mY M_M_init) : Cond) ∈ WT ∧ (.instanceMethod (mY M_M_init) : Cond) ∈ WT)
  refine la_obj F hAO (o := 6) rfl x1 x2 x3 x4 x5 tyX6 tyX6_ok df6 ctr_6 ok_X_init rfl rfl rfl (Nat.le_of_ble_eq_true rfl) (Nat.le_of_ble_eq_true rfl) (by decide +kernel) (by decide +kernel) (by decide +kernel) (Nat.le_of_ble_eq_true rfl) (Nat.le_of_ble_eq_true rfl) hP hD hS hl (fun q0 wx H locs hx6 hP hD hS => ?_)
  refine lv_astore_n (lv' := [(1, .ref q0), (0, .ref b)]) hx hb (show decode code 7 = .ok (.astore_n 1, 1) from by decide +kernel) rfl hl (Nat.le_of_ble_eq_true rfl) rfl (fun ls hl => ?_)
  refine la_obj F hAO (o := 7) rfl y1 y2 y3 y4 y5 tyX7 tyX7_ok df7 ctr_7 ok_M_init rfl rfl rfl (Nat.le_of_ble_eq_true rfl) (Nat.le_of_ble_eq_true rfl) (by decide +kernel) (by decide +kernel) (by decide +kernel) (Nat.le_of_ble_eq_true rfl) (Nat.le_of_ble_eq_true rfl) hP hD hS hl (fun q1 wm H locs hm7 hP hD hS => ?_)
  refine lv_astore_n (lv' := [(2, .ref q1), (1, .ref q0), (0, .ref b)]) hx hb (show decode code 15 = .ok (.astore_n 2, 1) from by decide +kernel) rfl hl (Nat.le_of_ble_eq_true rfl) rfl (fun ls hl => ?_)
  refine lv_iconst (v := zI 0) hx hb (show decode code 16 = .ok (.iconst 0, 1) from by decide +kernel) rfl ?_
  refine lv_istore_n (lv' := [(3, .int (zI 0)), (2, .ref q1), (1, .ref q0), (0, .ref b)]) hx hb (show decode code 17 = .ok (.istore_n 3, 1) from by decide +kernel) rfl hl (Nat.le_of_ble_eq_true rfl) rfl (fun ls hl => ?_)
  obtain ⟨σ, e0, e1, hP2, hD2⟩ := world0 hx6 hm7 hP hD
  subst e0
  subst e1
  refine W.widen (k := 600000) (n := 7302250) (Nat.le_of_ble_eq_true rfl) (Nat.le_of_ble_eq_true rfl) ?_
  exact law_loop (F := F) (σ := σ) (L + 2) 0 (by omega) (by omega) hI0 (ps0 _) H locs ls hP2 hD2 hS hb0 (lv_sub hl [3, 2, 1, 0] rfl)
