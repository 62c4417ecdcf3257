theorem dX2_mixCode_0 : decode cX2_mixCode 0 = .ok (.aload_n 0, 1) := by decide +kernel
theorem dX2_mixCode_1 : decode cX2_mixCode 1 = .ok (.getfield 9, 3) := by decide +kernel
theorem dX2_mixCode_4 : decode cX2_mixCode 4 = .ok (.invokevirtual 109, 3) := by decide +kernel
theorem dX2_mixCode_7 : decode cX2_mixCode 7 = .ok (.aload_n 2, 1) := by decide +kernel
theorem dX2_mixCode_8 : decode cX2_mixCode 8 = .ok (.getfield 112, 3) := by decide +kernel
theorem dX2_mixCode_11 : decode cX2_mixCode 11 = .ok (.iconst 1, 1) := by decide +kernel
theorem dX2_mixCode_12 : decode cX2_mixCode 12 = .ok (.iadd, 1) := by decide +kernel
theorem dX2_mixCode_13 : decode cX2_mixCode 13 = .ok (.irem, 1) := by decide +kernel
theorem dX2_mixCode_14 : decode cX2_mixCode 14 = .ok (.istore 4, 2) := by decide +kernel
theorem dX2_mixCode_16 : decode cX2_mixCode 16 = .ok (.iload 4, 2) := by decide +kernel
theorem dX2_mixCode_18 : decode cX2_mixCode 18 = .ok (.aload_n 0, 1) := by decide +kernel
theorem dX2_mixCode_19 : decode cX2_mixCode 19 = .ok (.getfield 9, 3) := by decide +kernel
theorem dX2_mixCode_22 : decode cX2_mixCode 22 = .ok (.invokevirtual 109, 3) := by decide +kernel
theorem dX2_mixCode_25 : decode cX2_mixCode 25 = .ok (.bipush 8, 2) := by decide +kernel
theorem dX2_mixCode_27 : decode cX2_mixCode 27 = .ok (.irem, 1) := by decide +kernel
theorem dX2_mixCode_28 : decode cX2_mixCode 28 = .ok (.iadd, 1) := by decide +kernel
theorem dX2_mixCode_29 : decode cX2_mixCode 29 = .ok (.istore 5, 2) := by decide +kernel
theorem dX2_mixCode_31 : decode cX2_mixCode 31 = .ok (.aload_n 0, 1) := by decide +kernel
theorem dX2_mixCode_32 : decode cX2_mixCode 32 = .ok (.aload_n 1, 1) := by decide +kernel
theorem dX2_mixCode_33 : decode cX2_mixCode 33 = .ok (.aload_n 2, 1) := by decide +kernel
theorem dX2_mixCode_34 : decode cX2_mixCode 34 = .ok (.iconst 0, 1) := by decide +kernel
theorem dX2_mixCode_35 : decode cX2_mixCode 35 = .ok (.iload 4, 2) := by decide +kernel
theorem dX2_mixCode_37 : decode cX2_mixCode 37 = .ok (.invokevirtual 115, 3) := by decide +kernel
theorem dX2_mixCode_40 : decode cX2_mixCode 40 = .ok (.aload_n 0, 1) := by decide +kernel
theorem dX2_mixCode_41 : decode cX2_mixCode 41 = .ok (.aload_n 1, 1) := by decide +kernel
theorem dX2_mixCode_42 : decode cX2_mixCode 42 = .ok (.aload_n 3, 1) := by decide +kernel
theorem dX2_mixCode_43 : decode cX2_mixCode 43 = .ok (.iload 4, 2) := by decide +kernel
theorem dX2_mixCode_45 : decode cX2_mixCode 45 = .ok (.iload 5, 2) := by decide +kernel
theorem dX2_mixCode_47 : decode cX2_mixCode 47 = .ok (.invokevirtual 115, 3) := by decide +kernel
theorem dX2_mixCode_50 : decode cX2_mixCode 50 = .ok (.aload_n 0, 1) := by decide +kernel
theorem dX2_mixCode_51 : decode cX2_mixCode 51 = .ok (.aload_n 1, 1) := by decide +kernel
theorem dX2_mixCode_52 : decode cX2_mixCode 52 = .ok (.aload_n 2, 1) := by decide +kernel
theorem dX2_mixCode_53 : decode cX2_mixCode 53 = .ok (.iload 5, 2) := by decide +kernel
theorem dX2_mixCode_55 : decode cX2_mixCode 55 = .ok (.aload_n 2, 1) := by decide +kernel
theorem dX2_mixCode_56 : decode cX2_mixCode 56 = .ok (.getfield 112, 3) := by decide +kernel
theorem dX2_mixCode_59 : decode cX2_mixCode 59 = .ok (.invokevirtual 115, 3) := by decide +kernel
theorem dX2_mixCode_62 : decode cX2_mixCode 62 = .ok (.return_, 1) := by decide +kernel
def fn_X2_mixCode (L : cp_Lay) (q : Nat) (k0 : Nat) (k1 : Nat) (k2 : Nat) (k3 : Nat) (D : cp_Dt) : Option (cp_Dt) :=
  (cp_gR L k0 2 0).bind fun r1 =>
  (cp_fl L r1 4).bind fun f2 =>
  (fn_X4_nextNumber L q r1 D).bind fun y3 =>
  (cp_gI L y3.2 k2 1 9).bind fun v4 =>
  (cp_nz (v4 + (1 : Int32))).bind fun u5 =>
  (cp_gR L k0 2 0).bind fun r6 =>
  (cp_fl L r6 4).bind fun f7 =>
  (fn_X4_nextNumber L q r6 y3.2).bind fun y8 =>
  (cp_fl L k0 2).bind fun f9 =>
  (fn_X2_growFrom L q k0 k1 k2 (0 : Int32) (y3.1 - y3.1 / (v4 + (1 : Int32)) * (v4 + (1 : Int32))) y8.2).bind fun D10 =>
  (cp_fl L k0 2).bind fun f11 =>
  (fn_X2_growFrom L q k0 k1 k3 (y3.1 - y3.1 / (v4 + (1 : Int32)) * (v4 + (1 : Int32))) ((y3.1 - y3.1 / (v4 + (1 : Int32)) * (v4 + (1 : Int32))) + (y8.1 - y8.1 / (8 : Int32) * (8 : Int32))) D10).bind fun D12 =>
  (cp_gI L D12 k2 1 9).bind fun v13 =>
  (cp_fl L k0 2).bind fun f14 =>
  (fn_X2_growFrom L q k0 k1 k2 ((y3.1 - y3.1 / (v4 + (1 : Int32)) * (v4 + (1 : Int32))) + (y8.1 - y8.1 / (8 : Int32) * (8 : Int32))) v13 D12).bind fun D15 =>
  some D15
set_option maxHeartbeats 4000000 in
set_option maxRecDepth 100000 in
theorem ct_X2_mixCode (l : Launch) (G : va_G) (L : cp_Lay) (hJ : cp_J L) (q : Nat) (k0 : Nat) (k1 : Nat) (k2 : Nat) (k3 : Nat) (D : cp_Dt) (res : cp_Dt) (hF : fn_X2_mixCode L q k0 k1 k2 k3 D = some res) : cp_Met l G yX2_mixCode wsX2_mixCode ({ frames := 2, cells := 0, slots := 0, locals := 47 }) L ([.ref (L.2.1 k0), .ref (L.2.1 k1), .ref (L.2.1 k2), .ref (L.2.1 k3)] : List Value) D res none := by
  refine Met.ofW (cc := cX2_mixCode) (maxL := 6) (ret := none) (by decide) rfl ?_
  intro p e s m args below meth c s₁ B hml hv
  obtain ⟨rfl, hP, hK, hN, hZ⟩ := hv
  have hx := B.exec
  have hb := B.bytes
  have hr := B.returns
  have hts := atoms_spec (ws := wsX2_mixCode) B.pre
  have hown : s.vm.findClass "CreaturePond$Breeding" = some m.cls := findClass_of_methodNamed B.named
  have hlocks := B.notSynchronized
  have hS : va_S (cp_A L) s.heap s.heap [] := va_S.rf
  have htT : ∀ w ∈ cp_T, w.before ([.ref (L.2.1 k0), .ref (L.2.1 k1), .ref (L.2.1 k2), .ref (L.2.1 k3)] : List Value).toArray s = true := fun w h => hts w (List.mem_cons_of_mem _ h)
  have hl := lv_entry (([.ref (L.2.1 k0), .ref (L.2.1 k1), .ref (L.2.1 k2), .ref (L.2.1 k3)] : List Value)) (n := 6) (Nat.le_of_ble_eq_true rfl)
  rw [lg_entry_eq]
  generalize (lg_sl (([.ref (L.2.1 k0), .ref (L.2.1 k1), .ref (L.2.1 k2), .ref (L.2.1 k3)] : List Value)) ++ List.replicate (6 - (lg_sl (([.ref (L.2.1 k0), .ref (L.2.1 k1), .ref (L.2.1 k2), .ref (L.2.1 k3)] : List Value))).length) Slot.unset).toArray = ls at hl ⊢
  have hl : lv_has ls 6 [(0, .ref (L.2.1 k0)), (1, .ref (L.2.1 k1)), (2, .ref (L.2.1 k2)), (3, .ref (L.2.1 k3))] := hl
  unfold fn_X2_mixCode at hF
  refine lv_aload_n hx hb dX2_mixCode_0 rfl (lv_at hl 0 rfl) ?_
  obtain ⟨r1, er1, hF⟩ := cp_bind hF
  refine cp_getR (T := TX2) (N := 1) (ci := 2) (j := 0) hx hb htT hinX2 hown hK hP rfl (by decide) rfl (htT _ tw_133) er1 dX2_mixCode_1 ?_
  obtain ⟨f2, ef2, hF⟩ := cp_bind hF
  obtain ⟨y3, ey3, hF⟩ := cp_bind hF
  refine cp_call (st1 := [.int y3.1]) (va_runVN (As := []) (rest := []) ⟨hx, hb, hml, hown, htT⟩ (ct_X4_nextNumber l G L hJ q r1 D y3 ey3) ⟨va_cnB 0 htT gdX4_nextNumber rfl rfl rfl (hN _ (List.mem_of_getElem? (i := 82) rfl)) (htT _ tw_4) hdX4_nextNumber ⟨Nat.le_of_ble_eq_true rfl, Nat.le_of_ble_eq_true rfl⟩, (htT _ tw_328), (htT _ tw_566)⟩ ⟨cp_blind, cp_recv hK hP rfl ef2, cp_pre hP hK hN hZ hS⟩ rfl rfl hl.1 rfl (lv_room (Nat.le_of_ble_eq_true rfl)) dX2_mixCode_4 ⟨Nat.zero_le _, Nat.zero_le _⟩) hS (fun H locs hP hS => ?_)
  refine lv_aload_n hx hb dX2_mixCode_7 rfl (lv_at hl 2 rfl) ?_
  obtain ⟨v4, ev4, hF⟩ := cp_bind hF
  refine cp_getIN (T := TX1) (N := 14) (ci := 1) (j := 9) hx hb htT hinX1 hown hK hP rfl (by decide) rfl (hN _ (List.mem_of_getElem? (i := 30) rfl)) ev4 dX2_mixCode_8 ?_
  refine lv_iconst (v := (1 : Int32)) hx hb dX2_mixCode_11 (by decide) ?_
  refine lv_iadd hx hb dX2_mixCode_12 ?_
  obtain ⟨u5, eu5, hF⟩ := cp_bind hF
  refine lv_irem hx hb dX2_mixCode_13 (cp_nz_ne eu5) ?_
  refine lv_istore (lv' := [(4, .int (y3.1 - y3.1 / (v4 + (1 : Int32)) * (v4 + (1 : Int32)))), (0, .ref (L.2.1 k0)), (1, .ref (L.2.1 k1)), (2, .ref (L.2.1 k2)), (3, .ref (L.2.1 k3))]) hx hb dX2_mixCode_14 hl (by decide) rfl (fun ls hl => ?_)
  refine lv_iload hx hb dX2_mixCode_16 (lv_at hl 0 rfl) ?_
  refine lv_aload_n hx hb dX2_mixCode_18 rfl (lv_at hl 1 rfl) ?_
  obtain ⟨r6, er6, hF⟩ := cp_bind hF
  refine cp_getR (T := TX2) (N := 1) (ci := 2) (j := 0) hx hb htT hinX2 hown hK hP rfl (by decide) rfl (htT _ tw_133) er6 dX2_mixCode_19 ?_
  obtain ⟨f7, ef7, hF⟩ := cp_bind hF
  obtain ⟨y8, ey8, hF⟩ := cp_bind hF
  refine cp_call (st1 := [.int y8.1, .int (y3.1 - y3.1 / (v4 + (1 : Int32)) * (v4 + (1 : Int32)))]) (va_runVN (As := []) (rest := [.int (y3.1 - y3.1 / (v4 + (1 : Int32)) * (v4 + (1 : Int32)))]) ⟨hx, hb, hml, hown, htT⟩ (ct_X4_nextNumber l G L hJ q r6 y3.2 y8 ey8) ⟨va_cnB 0 htT gdX4_nextNumber rfl rfl rfl (hN _ (List.mem_of_getElem? (i := 82) rfl)) (htT _ tw_4) hdX4_nextNumber ⟨Nat.le_of_ble_eq_true rfl, Nat.le_of_ble_eq_true rfl⟩, (htT _ tw_328), (htT _ tw_566)⟩ ⟨cp_blind, cp_recv hK hP rfl ef7, cp_pre hP hK hN hZ hS⟩ rfl rfl hl.1 rfl (lv_room (Nat.le_of_ble_eq_true rfl)) dX2_mixCode_22 ⟨Nat.zero_le _, Nat.zero_le _⟩) hS (fun H locs hP hS => ?_)
  refine lv_bipush (v := (8 : Int32)) hx hb dX2_mixCode_25 (by decide) ?_
  refine lv_irem hx hb dX2_mixCode_27 (by decide) ?_
  refine lv_iadd hx hb dX2_mixCode_28 ?_
  refine lv_istore (lv' := [(5, .int ((y3.1 - y3.1 / (v4 + (1 : Int32)) * (v4 + (1 : Int32))) + (y8.1 - y8.1 / (8 : Int32) * (8 : Int32)))), (4, .int (y3.1 - y3.1 / (v4 + (1 : Int32)) * (v4 + (1 : Int32)))), (0, .ref (L.2.1 k0)), (1, .ref (L.2.1 k1)), (2, .ref (L.2.1 k2)), (3, .ref (L.2.1 k3))]) hx hb dX2_mixCode_29 hl (by decide) rfl (fun ls hl => ?_)
  refine lv_aload_n hx hb dX2_mixCode_31 rfl (lv_at hl 2 rfl) ?_
  refine lv_aload_n hx hb dX2_mixCode_32 rfl (lv_at hl 3 rfl) ?_
  refine lv_aload_n hx hb dX2_mixCode_33 rfl (lv_at hl 4 rfl) ?_
  refine lv_iconst (v := (0 : Int32)) hx hb dX2_mixCode_34 (by decide) ?_
  refine lv_iload hx hb dX2_mixCode_35 (lv_at hl 1 rfl) ?_
  obtain ⟨f9, ef9, hF⟩ := cp_bind hF
  obtain ⟨D10, eD10, hF⟩ := cp_bind hF
  refine cp_call (st1 := []) (va_runV (As := [.ref (L.2.1 k1), .ref (L.2.1 k2), .int (0 : Int32), .int (y3.1 - y3.1 / (v4 + (1 : Int32)) * (v4 + (1 : Int32)))]) (rest := []) ⟨hx, hb, hml, hown, htT⟩ (ct_X2_growFrom l G L hJ q k0 k1 k2 (0 : Int32) (y3.1 - y3.1 / (v4 + (1 : Int32)) * (v4 + (1 : Int32))) y8.2 D10 eD10) ⟨callB_of 4 htT gdX2_growFrom rfl rfl rfl (htT _ tw_7) (htT _ tw_331) hdX2_growFrom ⟨Nat.le_of_ble_eq_true rfl, Nat.le_of_ble_eq_true rfl⟩, (htT _ tw_332), (htT _ tw_567)⟩ ⟨cp_blind, cp_recv hK hP rfl ef9, cp_pre hP hK hN hZ hS⟩ rfl rfl hl.1 rfl (lv_room (Nat.le_of_ble_eq_true rfl)) dX2_mixCode_37 ⟨Nat.zero_le _, Nat.zero_le _⟩) hS (fun H locs hP hS => ?_)
  refine lv_aload_n hx hb dX2_mixCode_40 rfl (lv_at hl 2 rfl) ?_
  refine lv_aload_n hx hb dX2_mixCode_41 rfl (lv_at hl 3 rfl) ?_
  refine lv_aload_n hx hb dX2_mixCode_42 rfl (lv_at hl 5 rfl) ?_
  refine lv_iload hx hb dX2_mixCode_43 (lv_at hl 1 rfl) ?_
  refine lv_iload hx hb dX2_mixCode_45 (lv_at hl 0 rfl) ?_
  obtain ⟨f11, ef11, hF⟩ := cp_bind hF
  obtain ⟨D12, eD12, hF⟩ := cp_bind hF
  refine cp_call (st1 := []) (va_runV (As := [.ref (L.2.1 k1), .ref (L.2.1 k3), .int (y3.1 - y3.1 / (v4 + (1 : Int32)) * (v4 + (1 : Int32))), .int ((y3.1 - y3.1 / (v4 + (1 : Int32)) * (v4 + (1 : Int32))) + (y8.1 - y8.1 / (8 : Int32) * (8 : Int32)))]) (rest := []) ⟨hx, hb, hml, hown, htT⟩ (ct_X2_growFrom l G L hJ q k0 k1 k3 (y3.1 - y3.1 / (v4 + (1 : Int32)) * (v4 + (1 : Int32))) ((y3.1 - y3.1 / (v4 + (1 : Int32)) * (v4 + (1 : Int32))) + (y8.1 - y8.1 / (8 : Int32) * (8 : Int32))) D10 D12 eD12) ⟨callB_of 4 htT gdX2_growFrom rfl rfl rfl (htT _ tw_7) (htT _ tw_331) hdX2_growFrom ⟨Nat.le_of_ble_eq_true rfl, Nat.le_of_ble_eq_true rfl⟩, (htT _ tw_332), (htT _ tw_567)⟩ ⟨cp_blind, cp_recv hK hP rfl ef11, cp_pre hP hK hN hZ hS⟩ rfl rfl hl.1 rfl (lv_room (Nat.le_of_ble_eq_true rfl)) dX2_mixCode_47 ⟨Nat.zero_le _, Nat.zero_le _⟩) hS (fun H locs hP hS => ?_)
  refine lv_aload_n hx hb dX2_mixCode_50 rfl (lv_at hl 2 rfl) ?_
  refine lv_aload_n hx hb dX2_mixCode_51 rfl (lv_at hl 3 rfl) ?_
  refine lv_aload_n hx hb dX2_mixCode_52 rfl (lv_at hl 4 rfl) ?_
  refine lv_iload hx hb dX2_mixCode_53 (lv_at hl 0 rfl) ?_
  refine lv_aload_n hx hb dX2_mixCode_55 rfl (lv_at hl 4 rfl) ?_
  obtain ⟨v13, ev13, hF⟩ := cp_bind hF
  refine cp_getIN (T := TX1) (N := 14) (ci := 1) (j := 9) hx hb htT hinX1 hown hK hP rfl (by decide) rfl (hN _ (List.mem_of_getElem? (i := 30) rfl)) ev13 dX2_mixCode_56 ?_
  obtain ⟨f14, ef14, hF⟩ := cp_bind hF
  obtain ⟨D15, eD15, hF⟩ := cp_bind hF
  refine cp_call (st1 := []) (va_runV (As := [.ref (L.2.1 k1), .ref (L.2.1 k2), .int ((y3.1 - y3.1 / (v4 + (1 : Int32)) * (v4 + (1 : Int32))) + (y8.1 - y8.1 / (8 : Int32) * (8 : Int32))), .int v13]) (rest := []) ⟨hx, hb, hml, hown, htT⟩ (ct_X2_growFrom l G L hJ q k0 k1 k2 ((y3.1 - y3.1 / (v4 + (1 : Int32)) * (v4 + (1 : Int32))) + (y8.1 - y8.1 / (8 : Int32) * (8 : Int32))) v13 D12 D15 eD15) ⟨callB_of 4 htT gdX2_growFrom rfl rfl rfl (htT _ tw_7) (htT _ tw_331) hdX2_growFrom ⟨Nat.le_of_ble_eq_true rfl, Nat.le_of_ble_eq_true rfl⟩, (htT _ tw_332), (htT _ tw_567)⟩ ⟨cp_blind, cp_recv hK hP rfl ef14, cp_pre hP hK hN hZ hS⟩ rfl rfl hl.1 rfl (lv_room (Nat.le_of_ble_eq_true rfl)) dX2_mixCode_59 ⟨Nat.zero_le _, Nat.zero_le _⟩) hS (fun H locs hP hS => ?_)
  exact cp_vret hx hb hr hlocks hF hP hS dX2_mixCode_62
theorem dX0_differ_0 : decode cX0_differ 0 = .ok (.aload_n 0, 1) := by decide +kernel
theorem dX0_differ_1 : decode cX0_differ 1 = .ok (.getfield 188, 3) := by decide +kernel
theorem dX0_differ_4 : decode cX0_differ 4 = .ok (.ifCond .ne 13, 3) := by decide +kernel
theorem dX0_differ_7 : decode cX0_differ 7 = .ok (.new 87, 3) := by decide +kernel
theorem dX0_differ_10 : decode cX0_differ 10 = .ok (.dup, 1) := by decide +kernel
theorem dX0_differ_11 : decode cX0_differ 11 = .ok (.ldc 192, 2) := by decide +kernel
theorem dX0_differ_13 : decode cX0_differ 13 = .ok (.invokespecial 91, 3) := by decide +kernel
theorem dX0_differ_16 : decode cX0_differ 16 = .ok (.athrow, 1) := by decide +kernel
theorem dX0_differ_17 : decode cX0_differ 17 = .ok (.aload_n 0, 1) := by decide +kernel
theorem dX0_differ_18 : decode cX0_differ 18 = .ok (.getfield 32, 3) := by decide +kernel
theorem dX0_differ_21 : decode cX0_differ 21 = .ok (.aload_n 0, 1) := by decide +kernel
theorem dX0_differ_22 : decode cX0_differ 22 = .ok (.getfield 36, 3) := by decide +kernel
theorem dX0_differ_25 : decode cX0_differ 25 = .ok (.invokevirtual 194, 3) := by decide +kernel
theorem dX0_differ_28 : decode cX0_differ 28 = .ok (.ireturn, 1) := by decide +kernel
def fn_X0_differ (L : cp_Lay) (q : Nat) (k0 : Nat) (D : cp_Dt) : Option (Int32 × cp_Dt) :=
  (cp_gI L D k0 0 5).bind fun v1 =>
  if v1 = 0 then (none)
  else ((cp_gR L k0 0 1).bind fun r3 =>
  (cp_gR L k0 0 2).bind fun r4 =>
  (cp_fl L r3 4).bind fun f5 =>
  (fn_X4_firstOther L q r3 r4 D).bind fun y6 =>
  some (y6.1, y6.2))
set_option maxHeartbeats 4000000 in
set_option maxRecDepth 100000 in
theorem ct_X0_differ (l : Launch) (G : va_G) (L : cp_Lay) (hJ : cp_J L) (q : Nat) (k0 : Nat) (D : cp_Dt) (res : Int32 × cp_Dt) (hF : fn_X0_differ L q k0 D = some res) : cp_Met l G yX0_differ wsX0_differ ({ frames := 2, cells := 0, slots := 0, locals := 47 }) L ([.ref (L.2.1 k0)] : List Value) D res.2 (some (.int res.1)) := by
  refine Met.ofW (cc := cX0_differ) (maxL := 1) (ret := (some .int)) (by decide) rfl ?_
  intro p e s m args below meth c s₁ B hml hv
  obtain ⟨rfl, hP, hK, hN, hZ⟩ := hv
  have hx := B.exec
  have hb := B.bytes
  have hr := B.returns
  have hts := atoms_spec (ws := wsX0_differ) B.pre
  have hown : s.vm.findClass "CreaturePond" = some m.cls := findClass_of_methodNamed B.named
  have hlocks := B.notSynchronized
  have hS : va_S (cp_A L) s.heap s.heap [] := va_S.rf
  have htT : ∀ w ∈ cp_T, w.before ([.ref (L.2.1 k0)] : List Value).toArray s = true := fun w h => hts w (List.mem_cons_of_mem _ h)
  have hl := lv_entry (([.ref (L.2.1 k0)] : List Value)) (n := 1) (Nat.le_of_ble_eq_true rfl)
  rw [lg_entry_eq]
  generalize (lg_sl (([.ref (L.2.1 k0)] : List Value)) ++ List.replicate (1 - (lg_sl (([.ref (L.2.1 k0)] : List Value))).length) Slot.unset).toArray = ls at hl ⊢
  have hl : lv_has ls 1 [(0, .ref (L.2.1 k0))] := hl
  unfold fn_X0_differ at hF
  refine lv_aload_n hx hb dX0_differ_0 rfl (lv_at hl 0 rfl) ?_
  obtain ⟨v1, ev1, hF⟩ := cp_bind hF
  refine cp_getI (T := TX0) (N := 6) (ci := 0) (j := 5) hx hb htT hinX0 hown hK hP rfl (by decide) rfl (htT _ tw_140) ev1 dX0_differ_1 ?_
  refine lv_if_ne (tgt := 17) hx hb dX0_differ_4 (by decide) (fun hc2 => ?_) (fun hc2 => ?_)
  · rw [if_neg hc2] at hF
    refine lv_aload_n hx hb dX0_differ_17 rfl (lv_at hl 0 rfl) ?_
    obtain ⟨r3, er3, hF⟩ := cp_bind hF
    refine cp_getR (T := TX0) (N := 6) (ci := 0) (j := 1) hx hb htT hinX0 hown hK hP rfl (by decide) rfl (htT _ tw_136) er3 dX0_differ_18 ?_
    refine lv_aload_n hx hb dX0_differ_21 rfl (lv_at hl 0 rfl) ?_
    obtain ⟨r4, er4, hF⟩ := cp_bind hF
    refine cp_getR (T := TX0) (N := 6) (ci := 0) (j := 2) hx hb htT hinX0 hown hK hP rfl (by decide) rfl (htT _ tw_137) er4 dX0_differ_22 ?_
    obtain ⟨f5, ef5, hF⟩ := cp_bind hF
    obtain ⟨y6, ey6, hF⟩ := cp_bind hF
    refine cp_call (st1 := [.int y6.1]) (va_runVN (As := [.ref (L.2.1 r4)]) (rest := []) ⟨hx, hb, hml, hown, htT⟩ (ct_X4_firstOther l G L hJ q r3 r4 D y6 ey6) ⟨va_cnB 1 htT gdX4_firstOther rfl rfl rfl (hN _ (List.mem_of_getElem? (i := 86) rfl)) (htT _ tw_4) hdX4_firstOther ⟨Nat.le_of_ble_eq_true rfl, Nat.le_of_ble_eq_true rfl⟩, (htT _ tw_364), (htT _ tw_571)⟩ ⟨cp_blind, cp_recv hK hP rfl ef5, cp_pre hP hK hN hZ hS⟩ rfl rfl hl.1 rfl (lv_room (Nat.le_of_ble_eq_true rfl)) dX0_differ_25 ⟨Nat.zero_le _, Nat.zero_le _⟩) hS (fun H locs hP hS => ?_)
    exact cp_iret hx hb hr hlocks hF hP hS dX0_differ_28
  · rw [if_pos hc2] at hF
    cases hF
theorem dX6_cellAt_0 : decode cX6_cellAt 0 = .ok (.iload_n 1, 1) := by decide +kernel
theorem dX6_cellAt_1 : decode cX6_cellAt 1 = .ok (.aload_n 0, 1) := by decide +kernel
theorem dX6_cellAt_2 : decode cX6_cellAt 2 = .ok (.getfield 16, 3) := by decide +kernel
theorem dX6_cellAt_5 : decode cX6_cellAt 5 = .ok (.invokestatic 26, 3) := by decide +kernel
theorem dX6_cellAt_8 : decode cX6_cellAt 8 = .ok (.iload_n 2, 1) := by decide +kernel
theorem dX6_cellAt_9 : decode cX6_cellAt 9 = .ok (.aload_n 0, 1) := by decide +kernel
theorem dX6_cellAt_10 : decode cX6_cellAt 10 = .ok (.getfield 20, 3) := by decide +kernel
theorem dX6_cellAt_13 : decode cX6_cellAt 13 = .ok (.invokestatic 26, 3) := by decide +kernel
theorem dX6_cellAt_16 : decode cX6_cellAt 16 = .ok (.aload_n 0, 1) := by decide +kernel
theorem dX6_cellAt_17 : decode cX6_cellAt 17 = .ok (.getfield 16, 3) := by decide +kernel
theorem dX6_cellAt_20 : decode cX6_cellAt 20 = .ok (.imul, 1) := by decide +kernel
theorem dX6_cellAt_21 : decode cX6_cellAt 21 = .ok (.iadd, 1) := by decide +kernel
theorem dX6_cellAt_22 : decode cX6_cellAt 22 = .ok (.ireturn, 1) := by decide +kernel
def fn_X6_cellAt (L : cp_Lay) (q : Nat) (k0 : Nat) (x1 : Int32) (x2 : Int32) (D : cp_Dt) : Option (Int32 × cp_Dt) :=
  (cp_gI L D k0 6 1).bind fun v1 =>
  (fn_X6_round L q x1 v1 D).bind fun y2 =>
  (cp_gI L y2.2 k0 6 2).bind fun v3 =>
  (fn_X6_round L q x2 v3 y2.2).bind fun y4 =>
  (cp_gI L y4.2 k0 6 1).bind fun v5 =>
  some ((y2.1 + (y4.1 * v5)), y4.2)
set_option maxHeartbeats 4000000 in
set_option maxRecDepth 100000 in
theorem ct_X6_cellAt (l : Launch) (G : va_G) (L : cp_Lay) (hJ : cp_J L) (q : Nat) (k0 : Nat) (x1 : Int32) (x2 : Int32) (D : cp_Dt) (res : Int32 × cp_Dt) (hF : fn_X6_cellAt L q k0 x1 x2 D = some res) : cp_Met l G yX6_cellAt wsX6_cellAt ({ frames := 1, cells := 0, slots := 0, locals := 22 }) L ([.ref (L.2.1 k0), .int x1, .int x2] : List Value) D res.2 (some (.int res.1)) := by
  refine Met.ofW (cc := cX6_cellAt) (maxL := 3) (ret := (some .int)) (by decide) rfl ?_
  intro p e s m args below meth c s₁ B hml hv
  obtain ⟨rfl, hP, hK, hN, hZ⟩ := hv
  have hx := B.exec
  have hb := B.bytes
  have hr := B.returns
  have hts := atoms_spec (ws := wsX6_cellAt) B.pre
  have hown : s.vm.findClass "CreaturePondModel" = some m.cls := findClass_of_methodNamed B.named
  have hlocks := B.notSynchronized
  have hS : va_S (cp_A L) s.heap s.heap [] := va_S.rf
  have htT : ∀ w ∈ cp_T, w.before ([.ref (L.2.1 k0), .int x1, .int x2] : List Value).toArray s = true := fun w h => hts w (List.mem_cons_of_mem _ h)
  have hl := lv_entry (([.ref (L.2.1 k0), .int x1, .int x2] : List Value)) (n := 3) (Nat.le_of_ble_eq_true rfl)
  rw [lg_entry_eq]
  generalize (lg_sl (([.ref (L.2.1 k0), .int x1, .int x2] : List Value)) ++ List.replicate (3 - (lg_sl (([.ref (L.2.1 k0), .int x1, .int x2] : List Value))).length) Slot.unset).toArray = ls at hl ⊢
  have hl : lv_has ls 3 [(0, .ref (L.2.1 k0)), (1, .int x1), (2, .int x2)] := hl
  unfold fn_X6_cellAt at hF
  refine lv_iload_n hx hb dX6_cellAt_0 rfl (lv_at hl 1 rfl) ?_
  refine lv_aload_n hx hb dX6_cellAt_1 rfl (lv_at hl 0 rfl) ?_
  obtain ⟨v1, ev1, hF⟩ := cp_bind hF
  refine cp_getI (T := TX6) (N := 6) (ci := 6) (j := 1) hx hb htT hinX6 hown hK hP rfl (by decide) rfl (htT _ tw_376) ev1 dX6_cellAt_2 ?_
  obtain ⟨y2, ey2, hF⟩ := cp_bind hF
  refine cp_call (st1 := [.int y2.1]) (va_runS (As := [.int x1, .int v1]) (rest := []) ⟨hx, hb, hml, hown, htT⟩ (ct_X6_round l G L hJ q x1 v1 D y2 ey2) ⟨callB_of 2 htT gdX6_round rfl rfl rfl (htT _ tw_8) (htT _ tw_407) hdX6_round ⟨Nat.le_of_ble_eq_true rfl, Nat.le_of_ble_eq_true rfl⟩, (htT _ tw_408)⟩ ⟨cp_blind, cp_pre hP hK hN hZ hS⟩ rfl rfl hl.1 rfl (lv_room (Nat.le_of_ble_eq_true rfl)) dX6_cellAt_5 ⟨Nat.zero_le _, Nat.zero_le _⟩) hS (fun H locs hP hS => ?_)
  refine lv_iload_n hx hb dX6_cellAt_8 rfl (lv_at hl 2 rfl) ?_
  refine lv_aload_n hx hb dX6_cellAt_9 rfl (lv_at hl 0 rfl) ?_
  obtain ⟨v3, ev3, hF⟩ := cp_bind hF
  refine cp_getI (T := TX6) (N := 6) (ci := 6) (j := 2) hx hb htT hinX6 hown hK hP rfl (by decide) rfl (htT _ tw_377) ev3 dX6_cellAt_10 ?_
  obtain ⟨y4, ey4, hF⟩ := cp_bind hF
  refine cp_call (st1 := [.int y4.1, .int y2.1]) (va_runS (As := [.int x2, .int v3]) (rest := [.int y2.1]) ⟨hx, hb, hml, hown, htT⟩ (ct_X6_round l G L hJ q x2 v3 y2.2 y4 ey4) ⟨callB_of 2 htT gdX6_round rfl rfl rfl (htT _ tw_8) (htT _ tw_407) hdX6_round ⟨Nat.le_of_ble_eq_true rfl, Nat.le_of_ble_eq_true rfl⟩, (htT _ tw_408)⟩ ⟨cp_blind, cp_pre hP hK hN hZ hS⟩ rfl rfl hl.1 rfl (lv_room (Nat.le_of_ble_eq_true rfl)) dX6_cellAt_13 ⟨Nat.zero_le _, Nat.zero_le _⟩) hS (fun H locs hP hS => ?_)
  refine lv_aload_n hx hb dX6_cellAt_16 rfl (lv_at hl 0 rfl) ?_
  obtain ⟨v5, ev5, hF⟩ := cp_bind hF
  refine cp_getI (T := TX6) (N := 6) (ci := 6) (j := 1) hx hb htT hinX6 hown hK hP rfl (by decide) rfl (htT _ tw_376) ev5 dX6_cellAt_17 ?_
  refine lv_imul hx hb dX6_cellAt_20 ?_
  refine lv_iadd hx hb dX6_cellAt_21 ?_
  exact cp_iret hx hb hr hlocks hF hP hS dX6_cellAt_22
theorem dX6_inCell_0 : decode cX6_inCell 0 = .ok (.iconst 0, 1) := by decide +kernel
theorem dX6_inCell_1 : decode cX6_inCell 1 = .ok (.istore_n 2, 1) := by decide +kernel
theorem dX6_inCell_2 : decode cX6_inCell 2 = .ok (.iload_n 2, 1) := by decide +kernel
theorem dX6_inCell_3 : decode cX6_inCell 3 = .ok (.bipush 16, 2) := by decide +kernel
theorem dX6_inCell_5 : decode cX6_inCell 5 = .ok (.if_icmp .ge 24, 3) := by decide +kernel
theorem dX6_inCell_8 : decode cX6_inCell 8 = .ok (.aload_n 0, 1) := by decide +kernel
theorem dX6_inCell_9 : decode cX6_inCell 9 = .ok (.getfield 7, 3) := by decide +kernel
theorem dX6_inCell_12 : decode cX6_inCell 12 = .ok (.iload_n 2, 1) := by decide +kernel
theorem dX6_inCell_13 : decode cX6_inCell 13 = .ok (.invokestatic 30, 3) := by decide +kernel
theorem dX6_inCell_16 : decode cX6_inCell 16 = .ok (.iaload, 1) := by decide +kernel
theorem dX6_inCell_17 : decode cX6_inCell 17 = .ok (.iload_n 1, 1) := by decide +kernel
theorem dX6_inCell_18 : decode cX6_inCell 18 = .ok (.if_icmp .ne 5, 3) := by decide +kernel
theorem dX6_inCell_21 : decode cX6_inCell 21 = .ok (.iload_n 2, 1) := by decide +kernel
theorem dX6_inCell_22 : decode cX6_inCell 22 = .ok (.ireturn, 1) := by decide +kernel
theorem dX6_inCell_23 : decode cX6_inCell 23 = .ok (.iinc 2 1, 3) := by decide +kernel
theorem dX6_inCell_26 : decode cX6_inCell 26 = .ok (.goto (-24), 3) := by decide +kernel
theorem dX6_inCell_29 : decode cX6_inCell 29 = .ok (.iconst (-1), 1) := by decide +kernel
theorem dX6_inCell_30 : decode cX6_inCell 30 = .ok (.ireturn, 1) := by decide +kernel
def fn_X6_inCell_L2 (L : cp_Lay) (q : Nat) : Nat → Nat → Int32 → Int32 → cp_Dt → Option (Int32 × cp_Dt)
  | 0, _, _, _, _ => none
  | n + 1, a0, i1, i2, D =>
    if (16 : Int32) ≤ i2 then (some ((-1 : Int32), D))
    else ((cp_gR L a0 6 3).bind fun r2 =>
    (fn_X6_at L q i2 D).bind fun y3 =>
    (cp_aI L y3.2 0 r2 y3.1).bind fun v4 =>
    if v4 = i1 then (some (i2, y3.2))
    else (fn_X6_inCell_L2 L q n a0 i1 (i2 + 1) y3.2))
def fn_X6_inCell (L : cp_Lay) (q : Nat) (k0 : Nat) (x1 : Int32) (D : cp_Dt) : Option (Int32 × cp_Dt) :=
  fn_X6_inCell_L2 L q q k0 x1 (0 : Int32) D
set_option maxHeartbeats 4000000 in
set_option maxRecDepth 100000 in
theorem ct_X6_inCell (l : Launch) (G : va_G) (L : cp_Lay) (hJ : cp_J L) (q : Nat) (k0 : Nat) (x1 : Int32) (D : cp_Dt) (res : Int32 × cp_Dt) (hF : fn_X6_inCell L q k0 x1 D = some res) : cp_Met l G yX6_inCell wsX6_inCell ({ frames := 1, cells := 0, slots := 0, locals := 20 }) L ([.ref (L.2.1 k0), .int x1] : List Value) D res.2 (some (.int res.1)) := by
  refine Met.ofW (cc := cX6_inCell) (maxL := 3) (ret := (some .int)) (by decide) rfl ?_
  intro p e s m args below meth c s₁ B hml hv
  obtain ⟨rfl, hP, hK, hN, hZ⟩ := hv
  have hx := B.exec
  have hb := B.bytes
  have hr := B.returns
  have hts := atoms_spec (ws := wsX6_inCell) B.pre
  have hown : s.vm.findClass "CreaturePondModel" = some m.cls := findClass_of_methodNamed B.named
  have hlocks := B.notSynchronized
  have hS : va_S (cp_A L) s.heap s.heap [] := va_S.rf
  have htT : ∀ w ∈ cp_T, w.before ([.ref (L.2.1 k0), .int x1] : List Value).toArray s = true := fun w h => hts w (List.mem_cons_of_mem _ h)
  have hl := lv_entry (([.ref (L.2.1 k0), .int x1] : List Value)) (n := 3) (Nat.le_of_ble_eq_true rfl)
  rw [lg_entry_eq]
  generalize (lg_sl (([.ref (L.2.1 k0), .int x1] : List Value)) ++ List.replicate (3 - (lg_sl (([.ref (L.2.1 k0), .int x1] : List Value))).length) Slot.unset).toArray = ls at hl ⊢
  have hl : lv_has ls 3 [(0, .ref (L.2.1 k0)), (1, .int x1)] := hl
  have hL2 : ∀ (n : Nat) (a0 : Nat) (i1 : Int32) (i2 : Int32) (D : cp_Dt) (H : Heap) (locs : List Loc) (ls : Array Slot), fn_X6_inCell_L2 L q n a0 i1 i2 D = some res → va_P G vwCl (cp_ws L D) H → va_S (cp_A L) s.heap H locs → lv_has ls 3 [(0, .ref (L.2.1 a0)), (1, .int i1), (2, .int i2)] → W p l e (headSpec wsX6_inCell ({ frames := 1, cells := 0, slots := 0, locals := 20 })).room s m ([.ref (L.2.1 k0), .int x1] : List Value).toArray below meth c H locs 0 0 (MQ below (cp_Q G L res.2 (some (.int res.1))) ([.ref (L.2.1 k0), .int x1] : List Value).toArray s 0 0 (cp_A L)) (F0 m 2 ls []) := by
    intro n
    induction n with
    | zero =>
      intro a0 i1 i2 D H locs ls hF
      cases hF
    | succ n ih =>
      intro a0 i1 i2 D H locs ls hF hP hS hl
      unfold fn_X6_inCell_L2 at hF
      refine lv_iload_n hx hb dX6_inCell_2 rfl (lv_at hl 2 rfl) ?_
      refine lv_bipush (v := (16 : Int32)) hx hb dX6_inCell_3 (by decide) ?_
      refine lv_icmp_ge (tgt := 29) hx hb dX6_inCell_5 (by decide) (fun hc1 => ?_) (fun hc1 => ?_)
      · rw [if_pos hc1] at hF
        refine lv_iconst (v := (-1 : Int32)) hx hb dX6_inCell_29 (by decide) ?_
        exact cp_iret hx hb hr hlocks hF hP hS dX6_inCell_30
      · rw [if_neg hc1] at hF
        refine lv_aload_n hx hb dX6_inCell_8 rfl (lv_at hl 0 rfl) ?_
        obtain ⟨r2, er2, hF⟩ := cp_bind hF
        refine cp_getR (T := TX6) (N := 6) (ci := 6) (j := 3) hx hb htT hinX6 hown hK hP rfl (by decide) rfl (htT _ tw_378) er2 dX6_inCell_9 ?_
        refine lv_iload_n hx hb dX6_inCell_12 rfl (lv_at hl 2 rfl) ?_
        obtain ⟨y3, ey3, hF⟩ := cp_bind hF
        refine cp_call (st1 := [.int y3.1, .ref (L.2.1 r2)]) (va_runS (As := [.int i2]) (rest := [.ref (L.2.1 r2)]) ⟨hx, hb, hml, hown, htT⟩ (ct_X6_at l G L hJ q i2 D y3 ey3) ⟨callB_of 1 htT gdX6_at rfl rfl rfl (htT _ tw_8) (htT _ tw_417) hdX6_at ⟨Nat.le_of_ble_eq_true rfl, Nat.le_of_ble_eq_true rfl⟩, (htT _ tw_418)⟩ ⟨cp_blind, cp_pre hP hK hN hZ hS⟩ rfl rfl hl.1 rfl (lv_room (Nat.le_of_ble_eq_true rfl)) dX6_inCell_13 ⟨Nat.zero_le _, Nat.zero_le _⟩) hS (fun H locs hP hS => ?_)
        obtain ⟨v4, ev4, hF⟩ := cp_bind hF
        refine cp_iald hx hb hK hP ev4 dX6_inCell_16 ?_
        refine lv_iload_n hx hb dX6_inCell_17 rfl (lv_at hl 1 rfl) ?_
        refine lv_icmp_ne (tgt := 23) hx hb dX6_inCell_18 (by decide) (fun hc5 => ?_) (fun hc5 => ?_)
        · rw [if_neg hc5] at hF
          refine lv_iinc (k := 2) (v := (i2 + 1)) (lv' := [(2, .int (i2 + 1)), (0, .ref (L.2.1 a0)), (1, .int i1)]) hx hb dX6_inCell_23 hl rfl (congrArg (fun z => i2 + z) (by decide)) (by decide) rfl (fun ls hl => ?_)
          refine lv_goto (tgt := 2) hx hb dX6_inCell_26 (by decide) ?_
          exact ih a0 i1 (i2 + 1) y3.2 _ _ _ hF hP hS (lv_sub hl [1, 2, 0] rfl)
        · rw [if_pos hc5] at hF
          refine lv_iload_n hx hb dX6_inCell_21 rfl (lv_at hl 2 rfl) ?_
          exact cp_iret hx hb hr hlocks hF hP hS dX6_inCell_22
  unfold fn_X6_inCell at hF
  refine lv_iconst (v := (0 : Int32)) hx hb dX6_inCell_0 (by decide) ?_
  refine lv_istore_n (lv' := [(2, .int (0 : Int32)), (0, .ref (L.2.1 k0)), (1, .int x1)]) hx hb dX6_inCell_1 rfl hl (by decide) rfl (fun ls hl => ?_)
  exact hL2 q k0 x1 (0 : Int32) D _ _ _ hF hP hS (lv_sub hl [1, 2, 0] rfl)
theorem dX6_free_0 : decode cX6_free 0 = .ok (.iconst 0, 1) := by decide +kernel
theorem dX6_free_1 : decode cX6_free 1 = .ok (.istore_n 1, 1) := by decide +kernel
theorem dX6_free_2 : decode cX6_free 2 = .ok (.iload_n 1, 1) := by decide +kernel
theorem dX6_free_3 : decode cX6_free 3 = .ok (.bipush 16, 2) := by decide +kernel
theorem dX6_free_5 : decode cX6_free 5 = .ok (.if_icmp .ge 17, 3) := by decide +kernel
theorem dX6_free_8 : decode cX6_free 8 = .ok (.aload_n 0, 1) := by decide +kernel
theorem dX6_free_9 : decode cX6_free 9 = .ok (.iload_n 1, 1) := by decide +kernel
theorem dX6_free_10 : decode cX6_free 10 = .ok (.invokevirtual 34, 3) := by decide +kernel
theorem dX6_free_13 : decode cX6_free 13 = .ok (.ifCond .eq 9, 3) := by decide +kernel
theorem dX6_free_16 : decode cX6_free 16 = .ok (.iinc 1 1, 3) := by decide +kernel
theorem dX6_free_19 : decode cX6_free 19 = .ok (.goto (-17), 3) := by decide +kernel
theorem dX6_free_22 : decode cX6_free 22 = .ok (.iload_n 1, 1) := by decide +kernel
theorem dX6_free_23 : decode cX6_free 23 = .ok (.ireturn, 1) := by decide +kernel
def fn_X6_free_L2 (L : cp_Lay) (q : Nat) : Nat → Nat → Int32 → cp_Dt → Option (Int32 × cp_Dt)
  | 0, _, _, _ => none
  | n + 1, a0, i1, D =>
    if (16 : Int32) ≤ i1 then (some (i1, D))
    else ((cp_fl L a0 6).bind fun f2 =>
    (fn_X6_lives L q a0 i1 D).bind fun y3 =>
    if y3.1 = 0 then (some (i1, y3.2))
    else (fn_X6_free_L2 L q n a0 (i1 + 1) y3.2))
def fn_X6_free (L : cp_Lay) (q : Nat) (k0 : Nat) (D : cp_Dt) : Option (Int32 × cp_Dt) :=
  fn_X6_free_L2 L q q k0 (0 : Int32) D
set_option maxHeartbeats 4000000 in
set_option maxRecDepth 100000 in
theorem ct_X6_free (l : Launch) (G : va_G) (L : cp_Lay) (hJ : cp_J L) (q : Nat) (k0 : Nat) (D : cp_Dt) (res : Int32 × cp_Dt) (hF : fn_X6_free L q k0 D = some res) : cp_Met l G yX6_free wsX6_free ({ frames := 2, cells := 0, slots := 0, locals := 41 }) L ([.ref (L.2.1 k0)] : List Value) D res.2 (some (.int res.1)) := by
  refine Met.ofW (cc := cX6_free) (maxL := 2) (ret := (some .int)) (by decide) rfl ?_
  intro p e s m args below meth c s₁ B hml hv
  obtain ⟨rfl, hP, hK, hN, hZ⟩ := hv
  have hx := B.exec
  have hb := B.bytes
  have hr := B.returns
  have hts := atoms_spec (ws := wsX6_free) B.pre
  have hown : s.vm.findClass "CreaturePondModel" = some m.cls := findClass_of_methodNamed B.named
  have hlocks := B.notSynchronized
  have hS : va_S (cp_A L) s.heap s.heap [] := va_S.rf
  have htT : ∀ w ∈ cp_T, w.before ([.ref (L.2.1 k0)] : List Value).toArray s = true := fun w h => hts w (List.mem_cons_of_mem _ h)
  have hl := lv_entry (([.ref (L.2.1 k0)] : List Value)) (n := 2) (Nat.le_of_ble_eq_true rfl)
  rw [lg_entry_eq]
  generalize (lg_sl (([.ref (L.2.1 k0)] : List Value)) ++ List.replicate (2 - (lg_sl (([.ref (L.2.1 k0)] : List Value))).length) Slot.unset).toArray = ls at hl ⊢
  have hl : lv_has ls 2 [(0, .ref (L.2.1 k0))] := hl
  have hL2 : ∀ (n : Nat) (a0 : Nat) (i1 : Int32) (D : cp_Dt) (H : Heap) (locs : List Loc) (ls : Array Slot), fn_X6_free_L2 L q n a0 i1 D = some res → va_P G vwCl (cp_ws L D) H → va_S (cp_A L) s.heap H locs → lv_has ls 2 [(0, .ref (L.2.1 a0)), (1, .int i1)] → W p l e (headSpec wsX6_free ({ frames := 2, cells := 0, slots := 0, locals := 41 })).room s m ([.ref (L.2.1 k0)] : List Value).toArray below meth c H locs 0 0 (MQ below (cp_Q G L res.2 (some (.int res.1))) ([.ref (L.2.1 k0)] : List Value).toArray s 0 0 (cp_A L)) (F0 m 2 ls []) := by
    intro n
    induction n with
    | zero =>
      intro a0 i1 D H locs ls hF
      cases hF
    | succ n ih =>
      intro a0 i1 D H locs ls hF hP hS hl
      unfold fn_X6_free_L2 at hF
      refine lv_iload_n hx hb dX6_free_2 rfl (lv_at hl 1 rfl) ?_
      refine lv_bipush (v := (16 : Int32)) hx hb dX6_free_3 (by decide) ?_
      refine lv_icmp_ge (tgt := 22) hx hb dX6_free_5 (by decide) (fun hc1 => ?_) (fun hc1 => ?_)
      · rw [if_pos hc1] at hF
        refine lv_iload_n hx hb dX6_free_22 rfl (lv_at hl 1 rfl) ?_
        exact cp_iret hx hb hr hlocks hF hP hS dX6_free_23
      · rw [if_neg hc1] at hF
        refine lv_aload_n hx hb dX6_free_8 rfl (lv_at hl 0 rfl) ?_
        refine lv_iload_n hx hb dX6_free_9 rfl (lv_at hl 1 rfl) ?_
        obtain ⟨f2, ef2, hF⟩ := cp_bind hF
        obtain ⟨y3, ey3, hF⟩ := cp_bind hF
        refine cp_call (st1 := [.int y3.1]) (va_runV (As := [.int i1]) (rest := []) ⟨hx, hb, hml, hown, htT⟩ (ct_X6_lives l G L hJ q a0 i1 D y3 ey3) ⟨callB_of 1 htT gdX6_lives rfl rfl rfl (htT _ tw_8) (htT _ tw_423) hdX6_lives ⟨Nat.le_of_ble_eq_true rfl, Nat.le_of_ble_eq_true rfl⟩, (htT _ tw_424), (htT _ tw_576)⟩ ⟨cp_blind, cp_recv hK hP rfl ef2, cp_pre hP hK hN hZ hS⟩ rfl rfl hl.1 rfl (lv_room (Nat.le_of_ble_eq_true rfl)) dX6_free_10 ⟨Nat.zero_le _, Nat.zero_le _⟩) hS (fun H locs hP hS => ?_)
        refine lv_if_eq (tgt := 22) hx hb dX6_free_13 (by decide) (fun hc4 => ?_) (fun hc4 => ?_)
        · rw [if_pos hc4] at hF
          refine lv_iload_n hx hb dX6_free_22 rfl (lv_at hl 1 rfl) ?_
          exact cp_iret hx hb hr hlocks hF hP hS dX6_free_23
        · rw [if_neg hc4] at hF
          refine lv_iinc (k := 1) (v := (i1 + 1)) (lv' := [(1, .int (i1 + 1)), (0, .ref (L.2.1 a0))]) hx hb dX6_free_16 hl rfl (congrArg (fun z => i1 + z) (by decide)) (by decide) rfl (fun ls hl => ?_)
          refine lv_goto (tgt := 2) hx hb dX6_free_19 (by decide) ?_
          exact ih a0 (i1 + 1) y3.2 _ _ _ hF hP hS (lv_sub hl [1, 0] rfl)
  unfold fn_X6_free at hF
  refine lv_iconst (v := (0 : Int32)) hx hb dX6_free_0 (by decide) ?_
  refine lv_istore_n (lv' := [(1, .int (0 : Int32)), (0, .ref (L.2.1 k0))]) hx hb dX6_free_1 rfl hl (by decide) rfl (fun ls hl => ?_)
  exact hL2 q k0 (0 : Int32) D _ _ _ hF hP hS (lv_sub hl [1, 0] rfl)
theorem dX6_pay_0 : decode cX6_pay 0 = .ok (.iload_n 2, 1) := by decide +kernel
theorem dX6_pay_1 : decode cX6_pay 1 = .ok (.aload_n 0, 1) := by decide +kernel
theorem dX6_pay_2 : decode cX6_pay 2 = .ok (.getfield 7, 3) := by decide +kernel
theorem dX6_pay_5 : decode cX6_pay 5 = .ok (.iload_n 1, 1) := by decide +kernel
theorem dX6_pay_6 : decode cX6_pay 6 = .ok (.invokestatic 30, 3) := by decide +kernel
theorem dX6_pay_9 : decode cX6_pay 9 = .ok (.iconst 2, 1) := by decide +kernel
theorem dX6_pay_10 : decode cX6_pay 10 = .ok (.iadd, 1) := by decide +kernel
theorem dX6_pay_11 : decode cX6_pay 11 = .ok (.iaload, 1) := by decide +kernel
theorem dX6_pay_12 : decode cX6_pay 12 = .ok (.invokestatic 45, 3) := by decide +kernel
theorem dX6_pay_15 : decode cX6_pay 15 = .ok (.istore_n 3, 1) := by decide +kernel
theorem dX6_pay_16 : decode cX6_pay 16 = .ok (.aload_n 0, 1) := by decide +kernel
theorem dX6_pay_17 : decode cX6_pay 17 = .ok (.getfield 7, 3) := by decide +kernel
theorem dX6_pay_20 : decode cX6_pay 20 = .ok (.iload_n 1, 1) := by decide +kernel
theorem dX6_pay_21 : decode cX6_pay 21 = .ok (.invokestatic 30, 3) := by decide +kernel
theorem dX6_pay_24 : decode cX6_pay 24 = .ok (.iconst 2, 1) := by decide +kernel
theorem dX6_pay_25 : decode cX6_pay 25 = .ok (.iadd, 1) := by decide +kernel
theorem dX6_pay_26 : decode cX6_pay 26 = .ok (.dup2, 1) := by decide +kernel
theorem dX6_pay_27 : decode cX6_pay 27 = .ok (.iaload, 1) := by decide +kernel
theorem dX6_pay_28 : decode cX6_pay 28 = .ok (.iload_n 3, 1) := by decide +kernel
theorem dX6_pay_29 : decode cX6_pay 29 = .ok (.isub, 1) := by decide +kernel
theorem dX6_pay_30 : decode cX6_pay 30 = .ok (.iastore, 1) := by decide +kernel
theorem dX6_pay_31 : decode cX6_pay 31 = .ok (.aload_n 0, 1) := by decide +kernel
theorem dX6_pay_32 : decode cX6_pay 32 = .ok (.getfield 7, 3) := by decide +kernel
theorem dX6_pay_35 : decode cX6_pay 35 = .ok (.sipush 1224, 3) := by decide +kernel
theorem dX6_pay_38 : decode cX6_pay 38 = .ok (.dup2, 1) := by decide +kernel
theorem dX6_pay_39 : decode cX6_pay 39 = .ok (.iaload, 1) := by decide +kernel
theorem dX6_pay_40 : decode cX6_pay 40 = .ok (.iload_n 3, 1) := by decide +kernel
theorem dX6_pay_41 : decode cX6_pay 41 = .ok (.iadd, 1) := by decide +kernel
theorem dX6_pay_42 : decode cX6_pay 42 = .ok (.iastore, 1) := by decide +kernel
theorem dX6_pay_43 : decode cX6_pay 43 = .ok (.return_, 1) := by decide +kernel
def fn_X6_pay (L : cp_Lay) (q : Nat) (k0 : Nat) (x1 : Int32) (x2 : Int32) (D : cp_Dt) : Option (cp_Dt) :=
  (cp_gR L k0 6 3).bind fun r1 =>
  (fn_X6_at L q x1 D).bind fun y2 =>
  (cp_aI L y2.2 0 r1 (y2.1 + (2 : Int32))).bind fun v3 =>
  (fn_X6_least L q x2 v3 y2.2).bind fun y4 =>
  (cp_gR L k0 6 3).bind fun r5 =>
  (fn_X6_at L q x1 y4.2).bind fun y6 =>
  (cp_aI L y6.2 0 r5 (y6.1 + (2 : Int32))).bind fun v7 =>
  (cp_aS L y6.2 0 r5 (y6.1 + (2 : Int32)) (v7 - y4.1)).bind fun D8 =>
  (cp_gR L k0 6 3).bind fun r9 =>
  (cp_aI L D8 0 r9 (1224 : Int32)).bind fun v10 =>
  (cp_aS L D8 0 r9 (1224 : Int32) (v10 + y4.1)).bind fun D11 =>
  some D11
set_option maxHeartbeats 4000000 in
set_option maxRecDepth 100000 in
theorem ct_X6_pay (l : Launch) (G : va_G) (L : cp_Lay) (hJ : cp_J L) (q : Nat) (k0 : Nat) (x1 : Int32) (x2 : Int32) (D : cp_Dt) (res : cp_Dt) (hF : fn_X6_pay L q k0 x1 x2 D = some res) : cp_Met l G yX6_pay wsX6_pay ({ frames := 1, cells := 0, slots := 0, locals := 21 }) L ([.ref (L.2.1 k0), .int x1, .int x2] : List Value) D res none := by
  refine Met.ofW (cc := cX6_pay) (maxL := 4) (ret := none) (by decide) rfl ?_
  intro p e s m args below meth c s₁ B hml hv
  obtain ⟨rfl, hP, hK, hN, hZ⟩ := hv
  have hx := B.exec
  have hb := B.bytes
  have hr := B.returns
  have hts := atoms_spec (ws := wsX6_pay) B.pre
  have hown : s.vm.findClass "CreaturePondModel" = some m.cls := findClass_of_methodNamed B.named
  have hlocks := B.notSynchronized
  have hS : va_S (cp_A L) s.heap s.heap [] := va_S.rf
  have htT : ∀ w ∈ cp_T, w.before ([.ref (L.2.1 k0), .int x1, .int x2] : List Value).toArray s = true := fun w h => hts w (List.mem_cons_of_mem _ h)
  have hl := lv_entry (([.ref (L.2.1 k0), .int x1, .int x2] : List Value)) (n := 4) (Nat.le_of_ble_eq_true rfl)
  rw [lg_entry_eq]
  generalize (lg_sl (([.ref (L.2.1 k0), .int x1, .int x2] : List Value)) ++ List.replicate (4 - (lg_sl (([.ref (L.2.1 k0), .int x1, .int x2] : List Value))).length) Slot.unset).toArray = ls at hl ⊢
  have hl : lv_has ls 4 [(0, .ref (L.2.1 k0)), (1, .int x1), (2, .int x2)] := hl
  unfold fn_X6_pay at hF
  refine lv_iload_n hx hb dX6_pay_0 rfl (lv_at hl 2 rfl) ?_
  refine lv_aload_n hx hb dX6_pay_1 rfl (lv_at hl 0 rfl) ?_
  obtain ⟨r1, er1, hF⟩ := cp_bind hF
  refine cp_getR (T := TX6) (N := 6) (ci := 6) (j := 3) hx hb htT hinX6 hown hK hP rfl (by decide) rfl (htT _ tw_378) er1 dX6_pay_2 ?_
  refine lv_iload_n hx hb dX6_pay_5 rfl (lv_at hl 1 rfl) ?_
  obtain ⟨y2, ey2, hF⟩ := cp_bind hF
  refine cp_call (st1 := [.int y2.1, .ref (L.2.1 r1), .int x2]) (va_runS (As := [.int x1]) (rest := [.ref (L.2.1 r1), .int x2]) ⟨hx, hb, hml, hown, htT⟩ (ct_X6_at l G L hJ q x1 D y2 ey2) ⟨callB_of 1 htT gdX6_at rfl rfl rfl (htT _ tw_8) (htT _ tw_417) hdX6_at ⟨Nat.le_of_ble_eq_true rfl, Nat.le_of_ble_eq_true rfl⟩, (htT _ tw_418)⟩ ⟨cp_blind, cp_pre hP hK hN hZ hS⟩ rfl rfl hl.1 rfl (lv_room (Nat.le_of_ble_eq_true rfl)) dX6_pay_6 ⟨Nat.zero_le _, Nat.zero_le _⟩) hS (fun H locs hP hS => ?_)
  refine lv_iconst (v := (2 : Int32)) hx hb dX6_pay_9 (by decide) ?_
  refine lv_iadd hx hb dX6_pay_10 ?_
  obtain ⟨v3, ev3, hF⟩ := cp_bind hF
  refine cp_iald hx hb hK hP ev3 dX6_pay_11 ?_
  obtain ⟨y4, ey4, hF⟩ := cp_bind hF
  refine cp_call (st1 := [.int y4.1]) (va_runS (As := [.int x2, .int v3]) (rest := []) ⟨hx, hb, hml, hown, htT⟩ (ct_X6_least l G L hJ q x2 v3 y2.2 y4 ey4) ⟨callB_of 2 htT gdX6_least rfl rfl rfl (htT _ tw_8) (htT _ tw_449) hdX6_least ⟨Nat.le_of_ble_eq_true rfl, Nat.le_of_ble_eq_true rfl⟩, (htT _ tw_450)⟩ ⟨cp_blind, cp_pre hP hK hN hZ hS⟩ rfl rfl hl.1 rfl (lv_room (Nat.le_of_ble_eq_true rfl)) dX6_pay_12 ⟨Nat.zero_le _, Nat.zero_le _⟩) hS (fun H locs hP hS => ?_)
  refine lv_istore_n (lv' := [(3, .int y4.1), (0, .ref (L.2.1 k0)), (1, .int x1), (2, .int x2)]) hx hb dX6_pay_15 rfl hl (by decide) rfl (fun ls hl => ?_)
  refine lv_aload_n hx hb dX6_pay_16 rfl (lv_at hl 1 rfl) ?_
  obtain ⟨r5, er5, hF⟩ := cp_bind hF
  refine cp_getR (T := TX6) (N := 6) (ci := 6) (j := 3) hx hb htT hinX6 hown hK hP rfl (by decide) rfl (htT _ tw_378) er5 dX6_pay_17 ?_
  refine lv_iload_n hx hb dX6_pay_20 rfl (lv_at hl 2 rfl) ?_
  obtain ⟨y6, ey6, hF⟩ := cp_bind hF
  refine cp_call (st1 := [.int y6.1, .ref (L.2.1 r5)]) (va_runS (As := [.int x1]) (rest := [.ref (L.2.1 r5)]) ⟨hx, hb, hml, hown, htT⟩ (ct_X6_at l G L hJ q x1 y4.2 y6 ey6) ⟨callB_of 1 htT gdX6_at rfl rfl rfl (htT _ tw_8) (htT _ tw_417) hdX6_at ⟨Nat.le_of_ble_eq_true rfl, Nat.le_of_ble_eq_true rfl⟩, (htT _ tw_418)⟩ ⟨cp_blind, cp_pre hP hK hN hZ hS⟩ rfl rfl hl.1 rfl (lv_room (Nat.le_of_ble_eq_true rfl)) dX6_pay_21 ⟨Nat.zero_le _, Nat.zero_le _⟩) hS (fun H locs hP hS => ?_)
  refine lv_iconst (v := (2 : Int32)) hx hb dX6_pay_24 (by decide) ?_
  refine lv_iadd hx hb dX6_pay_25 ?_
  refine lv_dup2_11 hx hb dX6_pay_26 rfl rfl ?_
  obtain ⟨v7, ev7, hF⟩ := cp_bind hF
  refine cp_iald hx hb hK hP ev7 dX6_pay_27 ?_
  refine lv_iload_n hx hb dX6_pay_28 rfl (lv_at hl 0 rfl) ?_
  refine lv_isub hx hb dX6_pay_29 ?_
  obtain ⟨D8, eD8, hF⟩ := cp_bind hF
  refine cp_iast hx hb hK hJ hP hS eD8 dX6_pay_30 (fun H locs hP hS => ?_)
  refine lv_aload_n hx hb dX6_pay_31 rfl (lv_at hl 1 rfl) ?_
  obtain ⟨r9, er9, hF⟩ := cp_bind hF
  refine cp_getR (T := TX6) (N := 6) (ci := 6) (j := 3) hx hb htT hinX6 hown hK hP rfl (by decide) rfl (htT _ tw_378) er9 dX6_pay_32 ?_
  refine lv_sipush (v := (1224 : Int32)) hx hb dX6_pay_35 (by decide) ?_
  refine lv_dup2_11 hx hb dX6_pay_38 rfl rfl ?_
  obtain ⟨v10, ev10, hF⟩ := cp_bind hF
  refine cp_iald hx hb hK hP ev10 dX6_pay_39 ?_
  refine lv_iload_n hx hb dX6_pay_40 rfl (lv_at hl 0 rfl) ?_
  refine lv_iadd hx hb dX6_pay_41 ?_
  obtain ⟨D11, eD11, hF⟩ := cp_bind hF
  refine cp_iast hx hb hK hJ hP hS eD11 dX6_pay_42 (fun H locs hP hS => ?_)
  exact cp_vret hx hb hr hlocks hF hP hS dX6_pay_43
theorem dX6_beside_0 : decode cX6_beside 0 = .ok (.iload_n 1, 1) := by decide +kernel
theorem dX6_beside_1 : decode cX6_beside 1 = .ok (.aload_n 0, 1) := by decide +kernel
theorem dX6_beside_2 : decode cX6_beside 2 = .ok (.getfield 16, 3) := by decide +kernel
theorem dX6_beside_5 : decode cX6_beside 5 = .ok (.irem, 1) := by decide +kernel
theorem dX6_beside_6 : decode cX6_beside 6 = .ok (.istore_n 3, 1) := by decide +kernel
theorem dX6_beside_7 : decode cX6_beside 7 = .ok (.iload_n 1, 1) := by decide +kernel
theorem dX6_beside_8 : decode cX6_beside 8 = .ok (.aload_n 0, 1) := by decide +kernel
theorem dX6_beside_9 : decode cX6_beside 9 = .ok (.getfield 16, 3) := by decide +kernel
theorem dX6_beside_12 : decode cX6_beside 12 = .ok (.idiv, 1) := by decide +kernel
theorem dX6_beside_13 : decode cX6_beside 13 = .ok (.istore 4, 2) := by decide +kernel
theorem dX6_beside_15 : decode cX6_beside 15 = .ok (.iload_n 2, 1) := by decide +kernel
theorem dX6_beside_16 : decode cX6_beside 16 = .ok (.ifCond .ne 15, 3) := by decide +kernel
theorem dX6_beside_19 : decode cX6_beside 19 = .ok (.aload_n 0, 1) := by decide +kernel
theorem dX6_beside_20 : decode cX6_beside 20 = .ok (.iload_n 3, 1) := by decide +kernel
theorem dX6_beside_21 : decode cX6_beside 21 = .ok (.iload 4, 2) := by decide +kernel
theorem dX6_beside_23 : decode cX6_beside 23 = .ok (.iconst 1, 1) := by decide +kernel
theorem dX6_beside_24 : decode cX6_beside 24 = .ok (.isub, 1) := by decide +kernel
theorem dX6_beside_25 : decode cX6_beside 25 = .ok (.invokevirtual 38, 3) := by decide +kernel
theorem dX6_beside_28 : decode cX6_beside 28 = .ok (.goto 46, 3) := by decide +kernel
theorem dX6_beside_31 : decode cX6_beside 31 = .ok (.iload_n 2, 1) := by decide +kernel
theorem dX6_beside_32 : decode cX6_beside 32 = .ok (.iconst 1, 1) := by decide +kernel
theorem dX6_beside_33 : decode cX6_beside 33 = .ok (.if_icmp .ne 15, 3) := by decide +kernel
theorem dX6_beside_36 : decode cX6_beside 36 = .ok (.aload_n 0, 1) := by decide +kernel
theorem dX6_beside_37 : decode cX6_beside 37 = .ok (.iload_n 3, 1) := by decide +kernel
theorem dX6_beside_38 : decode cX6_beside 38 = .ok (.iconst 1, 1) := by decide +kernel
theorem dX6_beside_39 : decode cX6_beside 39 = .ok (.iadd, 1) := by decide +kernel
theorem dX6_beside_40 : decode cX6_beside 40 = .ok (.iload 4, 2) := by decide +kernel
theorem dX6_beside_42 : decode cX6_beside 42 = .ok (.invokevirtual 38, 3) := by decide +kernel
theorem dX6_beside_45 : decode cX6_beside 45 = .ok (.goto 29, 3) := by decide +kernel
theorem dX6_beside_48 : decode cX6_beside 48 = .ok (.iload_n 2, 1) := by decide +kernel
theorem dX6_beside_49 : decode cX6_beside 49 = .ok (.iconst 2, 1) := by decide +kernel
theorem dX6_beside_50 : decode cX6_beside 50 = .ok (.if_icmp .ne 15, 3) := by decide +kernel
theorem dX6_beside_53 : decode cX6_beside 53 = .ok (.aload_n 0, 1) := by decide +kernel
theorem dX6_beside_54 : decode cX6_beside 54 = .ok (.iload_n 3, 1) := by decide +kernel
theorem dX6_beside_55 : decode cX6_beside 55 = .ok (.iload 4, 2) := by decide +kernel
theorem dX6_beside_57 : decode cX6_beside 57 = .ok (.iconst 1, 1) := by decide +kernel
theorem dX6_beside_58 : decode cX6_beside 58 = .ok (.iadd, 1) := by decide +kernel
theorem dX6_beside_59 : decode cX6_beside 59 = .ok (.invokevirtual 38, 3) := by decide +kernel
theorem dX6_beside_62 : decode cX6_beside 62 = .ok (.goto 12, 3) := by decide +kernel
theorem dX6_beside_65 : decode cX6_beside 65 = .ok (.aload_n 0, 1) := by decide +kernel
theorem dX6_beside_66 : decode cX6_beside 66 = .ok (.iload_n 3, 1) := by decide +kernel
theorem dX6_beside_67 : decode cX6_beside 67 = .ok (.iconst 1, 1) := by decide +kernel
theorem dX6_beside_68 : decode cX6_beside 68 = .ok (.isub, 1) := by decide +kernel
theorem dX6_beside_69 : decode cX6_beside 69 = .ok (.iload 4, 2) := by decide +kernel
theorem dX6_beside_71 : decode cX6_beside 71 = .ok (.invokevirtual 38, 3) := by decide +kernel
theorem dX6_beside_74 : decode cX6_beside 74 = .ok (.ireturn, 1) := by decide +kernel
def fn_X6_beside (L : cp_Lay) (q : Nat) (k0 : Nat) (x1 : Int32) (x2 : Int32) (D : cp_Dt) : Option (Int32 × cp_Dt) :=
  (cp_gI L D k0 6 1).bind fun v1 =>
  (cp_nz v1).bind fun u2 =>
  (cp_gI L D k0 6 1).bind fun v3 =>
  (cp_nz v3).bind fun u4 =>
  if x2 = 0 then ((cp_fl L k0 6).bind fun f14 =>
  (fn_X6_cellAt L q k0 (x1 - x1 / v1 * v1) ((x1 / v3) - (1 : Int32)) D).bind fun y15 =>
  some (y15.1, y15.2))
  else (if x2 = (1 : Int32) then ((cp_fl L k0 6).bind fun f12 =>
  (fn_X6_cellAt L q k0 ((x1 - x1 / v1 * v1) + (1 : Int32)) (x1 / v3) D).bind fun y13 =>
  some (y13.1, y13.2))
  else (if x2 = (2 : Int32) then ((cp_fl L k0 6).bind fun f10 =>
  (fn_X6_cellAt L q k0 (x1 - x1 / v1 * v1) ((x1 / v3) + (1 : Int32)) D).bind fun y11 =>
  some (y11.1, y11.2))
  else ((cp_fl L k0 6).bind fun f8 =>
  (fn_X6_cellAt L q k0 ((x1 - x1 / v1 * v1) - (1 : Int32)) (x1 / v3) D).bind fun y9 =>
  some (y9.1, y9.2))))
set_option maxHeartbeats 4000000 in
set_option maxRecDepth 100000 in
theorem ct_X6_beside (l : Launch) (G : va_G) (L : cp_Lay) (hJ : cp_J L) (q : Nat) (k0 : Nat) (x1 : Int32) (x2 : Int32) (D : cp_Dt) (res : Int32 × cp_Dt) (hF : fn_X6_beside L q k0 x1 x2 D = some res) : cp_Met l G yX6_beside wsX6_beside ({ frames := 2, cells := 0, slots := 0, locals := 44 }) L ([.ref (L.2.1 k0), .int x1, .int x2] : List Value) D res.2 (some (.int res.1)) := by
  refine Met.ofW (cc := cX6_beside) (maxL := 5) (ret := (some .int)) (by decide) rfl ?_
  intro p e s m args below meth c s₁ B hml hv
  obtain ⟨rfl, hP, hK, hN, hZ⟩ := hv
  have hx := B.exec
  have hb := B.bytes
  have hr := B.returns
  have hts := atoms_spec (ws := wsX6_beside) B.pre
  have hown : s.vm.findClass "CreaturePondModel" = some m.cls := findClass_of_methodNamed B.named
  have hlocks := B.notSynchronized
  have hS : va_S (cp_A L) s.heap s.heap [] := va_S.rf
  have htT : ∀ w ∈ cp_T, w.before ([.ref (L.2.1 k0), .int x1, .int x2] : List Value).toArray s = true := fun w h => hts w (List.mem_cons_of_mem _ h)
  have hl := lv_entry (([.ref (L.2.1 k0), .int x1, .int x2] : List Value)) (n := 5) (Nat.le_of_ble_eq_true rfl)
  rw [lg_entry_eq]
  generalize (lg_sl (([.ref (L.2.1 k0), .int x1, .int x2] : List Value)) ++ List.replicate (5 - (lg_sl (([.ref (L.2.1 k0), .int x1, .int x2] : List Value))).length) Slot.unset).toArray = ls at hl ⊢
  have hl : lv_has ls 5 [(0, .ref (L.2.1 k0)), (1, .int x1), (2, .int x2)] := hl
  unfold fn_X6_beside at hF
  refine lv_iload_n hx hb dX6_beside_0 rfl (lv_at hl 1 rfl) ?_
  refine lv_aload_n hx hb dX6_beside_1 rfl (lv_at hl 0 rfl) ?_
  obtain ⟨v1, ev1, hF⟩ := cp_bind hF
  refine cp_getI (T := TX6) (N := 6) (ci := 6) (j := 1) hx hb htT hinX6 hown hK hP rfl (by decide) rfl (htT _ tw_376) ev1 dX6_beside_2 ?_
  obtain ⟨u2, eu2, hF⟩ := cp_bind hF
  refine lv_irem hx hb dX6_beside_5 (cp_nz_ne eu2) ?_
  refine lv_istore_n (lv' := [(3, .int (x1 - x1 / v1 * v1)), (0, .ref (L.2.1 k0)), (1, .int x1), (2, .int x2)]) hx hb dX6_beside_6 rfl hl (by decide) rfl (fun ls hl => ?_)
  refine lv_iload_n hx hb dX6_beside_7 rfl (lv_at hl 2 rfl) ?_
  refine lv_aload_n hx hb dX6_beside_8 rfl (lv_at hl 1 rfl) ?_
  obtain ⟨v3, ev3, hF⟩ := cp_bind hF
  refine cp_getI (T := TX6) (N := 6) (ci := 6) (j := 1) hx hb htT hinX6 hown hK hP rfl (by decide) rfl (htT _ tw_376) ev3 dX6_beside_9 ?_
  obtain ⟨u4, eu4, hF⟩ := cp_bind hF
  refine lv_idiv hx hb dX6_beside_12 (cp_nz_ne eu4) ?_
  refine lv_istore (lv' := [(4, .int (x1 / v3)), (3, .int (x1 - x1 / v1 * v1)), (0, .ref (L.2.1 k0)), (1, .int x1), (2, .int x2)]) hx hb dX6_beside_13 hl (by decide) rfl (fun ls hl => ?_)
  refine lv_iload_n hx hb dX6_beside_15 rfl (lv_at hl 4 rfl) ?_
  refine lv_if_ne (tgt := 31) hx hb dX6_beside_16 (by decide) (fun hc5 => ?_) (fun hc5 => ?_)
  · rw [if_neg hc5] at hF
    refine lv_iload_n hx hb dX6_beside_31 rfl (lv_at hl 4 rfl) ?_
    refine lv_iconst (v := (1 : Int32)) hx hb dX6_beside_32 (by decide) ?_
    refine lv_icmp_ne (tgt := 48) hx hb dX6_beside_33 (by decide) (fun hc6 => ?_) (fun hc6 => ?_)
    · rw [if_neg hc6] at hF
      refine lv_iload_n hx hb dX6_beside_48 rfl (lv_at hl 4 rfl) ?_
      refine lv_iconst (v := (2 : Int32)) hx hb dX6_beside_49 (by decide) ?_
      refine lv_icmp_ne (tgt := 65) hx hb dX6_beside_50 (by decide) (fun hc7 => ?_) (fun hc7 => ?_)
      · rw [if_neg hc7] at hF
        refine lv_aload_n hx hb dX6_beside_65 rfl (lv_at hl 2 rfl) ?_
        refine lv_iload_n hx hb dX6_beside_66 rfl (lv_at hl 1 rfl) ?_
        refine lv_iconst (v := (1 : Int32)) hx hb dX6_beside_67 (by decide) ?_
        refine lv_isub hx hb dX6_beside_68 ?_
        refine lv_iload hx hb dX6_beside_69 (lv_at hl 0 rfl) ?_
        obtain ⟨f8, ef8, hF⟩ := cp_bind hF
        obtain ⟨y9, ey9, hF⟩ := cp_bind hF
        refine cp_call (st1 := [.int y9.1]) (va_runV (As := [.int ((x1 - x1 / v1 * v1) - (1 : Int32)), .int (x1 / v3)]) (rest := []) ⟨hx, hb, hml, hown, htT⟩ (ct_X6_cellAt l G L hJ q k0 ((x1 - x1 / v1 * v1) - (1 : Int32)) (x1 / v3) D y9 ey9) ⟨callB_of 2 htT gdX6_cellAt rfl rfl rfl (htT _ tw_8) (htT _ tw_404) hdX6_cellAt ⟨Nat.le_of_ble_eq_true rfl, Nat.le_of_ble_eq_true rfl⟩, (htT _ tw_405), (htT _ tw_573)⟩ ⟨cp_blind, cp_recv hK hP rfl ef8, cp_pre hP hK hN hZ hS⟩ rfl rfl hl.1 rfl (lv_room (Nat.le_of_ble_eq_true rfl)) dX6_beside_71 ⟨Nat.zero_le _, Nat.zero_le _⟩) hS (fun H locs hP hS => ?_)
        exact cp_iret hx hb hr hlocks hF hP hS dX6_beside_74
      · rw [if_pos hc7] at hF
        refine lv_aload_n hx hb dX6_beside_53 rfl (lv_at hl 2 rfl) ?_
        refine lv_iload_n hx hb dX6_beside_54 rfl (lv_at hl 1 rfl) ?_
        refine lv_iload hx hb dX6_beside_55 (lv_at hl 0 rfl) ?_
        refine lv_iconst (v := (1 : Int32)) hx hb dX6_beside_57 (by decide) ?_
        refine lv_iadd hx hb dX6_beside_58 ?_
        obtain ⟨f10, ef10, hF⟩ := cp_bind hF
        obtain ⟨y11, ey11, hF⟩ := cp_bind hF
        refine cp_call (st1 := [.int y11.1]) (va_runV (As := [.int (x1 - x1 / v1 * v1), .int ((x1 / v3) + (1 : Int32))]) (rest := []) ⟨hx, hb, hml, hown, htT⟩ (ct_X6_cellAt l G L hJ q k0 (x1 - x1 / v1 * v1) ((x1 / v3) + (1 : Int32)) D y11 ey11) ⟨callB_of 2 htT gdX6_cellAt rfl rfl rfl (htT _ tw_8) (htT _ tw_404) hdX6_cellAt ⟨Nat.le_of_ble_eq_true rfl, Nat.le_of_ble_eq_true rfl⟩, (htT _ tw_405), (htT _ tw_573)⟩ ⟨cp_blind, cp_recv hK hP rfl ef10, cp_pre hP hK hN hZ hS⟩ rfl rfl hl.1 rfl (lv_room (Nat.le_of_ble_eq_true rfl)) dX6_beside_59 ⟨Nat.zero_le _, Nat.zero_le _⟩) hS (fun H locs hP hS => ?_)
        refine lv_goto (tgt := 74) hx hb dX6_beside_62 (by decide) ?_
        exact cp_iret hx hb hr hlocks hF hP hS dX6_beside_74
    · rw [if_pos hc6] at hF
      refine lv_aload_n hx hb dX6_beside_36 rfl (lv_at hl 2 rfl) ?_
      refine lv_iload_n hx hb dX6_beside_37 rfl (lv_at hl 1 rfl) ?_
      refine lv_iconst (v := (1 : Int32)) hx hb dX6_beside_38 (by decide) ?_
      refine lv_iadd hx hb dX6_beside_39 ?_
      refine lv_iload hx hb dX6_beside_40 (lv_at hl 0 rfl) ?_
      obtain ⟨f12, ef12, hF⟩ := cp_bind hF
      obtain ⟨y13, ey13, hF⟩ := cp_bind hF
      refine cp_call (st1 := [.int y13.1]) (va_runV (As := [.int ((x1 - x1 / v1 * v1) + (1 : Int32)), .int (x1 / v3)]) (rest := []) ⟨hx, hb, hml, hown, htT⟩ (ct_X6_cellAt l G L hJ q k0 ((x1 - x1 / v1 * v1) + (1 : Int32)) (x1 / v3) D y13 ey13) ⟨callB_of 2 htT gdX6_cellAt rfl rfl rfl (htT _ tw_8) (htT _ tw_404) hdX6_cellAt ⟨Nat.le_of_ble_eq_true rfl, Nat.le_of_ble_eq_true rfl⟩, (htT _ tw_405), (htT _ tw_573)⟩ ⟨cp_blind, cp_recv hK hP rfl ef12, cp_pre hP hK hN hZ hS⟩ rfl rfl hl.1 rfl (lv_room (Nat.le_of_ble_eq_true rfl)) dX6_beside_42 ⟨Nat.zero_le _, Nat.zero_le _⟩) hS (fun H locs hP hS => ?_)
      refine lv_goto (tgt := 74) hx hb dX6_beside_45 (by decide) ?_
      exact cp_iret hx hb hr hlocks hF hP hS dX6_beside_74
  · rw [if_pos hc5] at hF
    refine lv_aload_n hx hb dX6_beside_19 rfl (lv_at hl 2 rfl) ?_
    refine lv_iload_n hx hb dX6_beside_20 rfl (lv_at hl 1 rfl) ?_
    refine lv_iload hx hb dX6_beside_21 (lv_at hl 0 rfl) ?_
    refine lv_iconst (v := (1 : Int32)) hx hb dX6_beside_23 (by decide) ?_
    refine lv_isub hx hb dX6_beside_24 ?_
    obtain ⟨f14, ef14, hF⟩ := cp_bind hF
    obtain ⟨y15, ey15, hF⟩ := cp_bind hF
    refine cp_call (st1 := [.int y15.1]) (va_runV (As := [.int (x1 - x1 / v1 * v1), .int ((x1 / v3) - (1 : Int32))]) (rest := []) ⟨hx, hb, hml, hown, htT⟩ (ct_X6_cellAt l G L hJ q k0 (x1 - x1 / v1 * v1) ((x1 / v3) - (1 : Int32)) D y15 ey15) ⟨callB_of 2 htT gdX6_cellAt rfl rfl rfl (htT _ tw_8) (htT _ tw_404) hdX6_cellAt ⟨Nat.le_of_ble_eq_true rfl, Nat.le_of_ble_eq_true rfl⟩, (htT _ tw_405), (htT _ tw_573)⟩ ⟨cp_blind, cp_recv hK hP rfl ef14, cp_pre hP hK hN hZ hS⟩ rfl rfl hl.1 rfl (lv_room (Nat.le_of_ble_eq_true rfl)) dX6_beside_25 ⟨Nat.zero_le _, Nat.zero_le _⟩) hS (fun H locs hP hS => ?_)
    refine lv_goto (tgt := 74) hx hb dX6_beside_28 (by decide) ?_
    exact cp_iret hx hb hr hlocks hF hP hS dX6_beside_74
theorem dX6_inherit_0 : decode cX6_inherit 0 = .ok (.aload_n 0, 1) := by decide +kernel
theorem dX6_inherit_1 : decode cX6_inherit 1 = .ok (.invokevirtual 81, 3) := by decide +kernel
theorem dX6_inherit_4 : decode cX6_inherit 4 = .ok (.aload_n 0, 1) := by decide +kernel
theorem dX6_inherit_5 : decode cX6_inherit 5 = .ok (.getfield 7, 3) := by decide +kernel
theorem dX6_inherit_8 : decode cX6_inherit 8 = .ok (.iload_n 2, 1) := by decide +kernel
theorem dX6_inherit_9 : decode cX6_inherit 9 = .ok (.invokestatic 30, 3) := by decide +kernel
theorem dX6_inherit_12 : decode cX6_inherit 12 = .ok (.iconst 5, 1) := by decide +kernel
theorem dX6_inherit_13 : decode cX6_inherit 13 = .ok (.iadd, 1) := by decide +kernel
theorem dX6_inherit_14 : decode cX6_inherit 14 = .ok (.iaload, 1) := by decide +kernel
theorem dX6_inherit_15 : decode cX6_inherit 15 = .ok (.iconst 1, 1) := by decide +kernel
theorem dX6_inherit_16 : decode cX6_inherit 16 = .ok (.iadd, 1) := by decide +kernel
theorem dX6_inherit_17 : decode cX6_inherit 17 = .ok (.irem, 1) := by decide +kernel
theorem dX6_inherit_18 : decode cX6_inherit 18 = .ok (.istore 4, 2) := by decide +kernel
theorem dX6_inherit_20 : decode cX6_inherit 20 = .ok (.iload 4, 2) := by decide +kernel
theorem dX6_inherit_22 : decode cX6_inherit 22 = .ok (.aload_n 0, 1) := by decide +kernel
theorem dX6_inherit_23 : decode cX6_inherit 23 = .ok (.invokevirtual 81, 3) := by decide +kernel
theorem dX6_inherit_26 : decode cX6_inherit 26 = .ok (.bipush 8, 2) := by decide +kernel
theorem dX6_inherit_28 : decode cX6_inherit 28 = .ok (.irem, 1) := by decide +kernel
theorem dX6_inherit_29 : decode cX6_inherit 29 = .ok (.iadd, 1) := by decide +kernel
theorem dX6_inherit_30 : decode cX6_inherit 30 = .ok (.istore 5, 2) := by decide +kernel
theorem dX6_inherit_32 : decode cX6_inherit 32 = .ok (.iconst 0, 1) := by decide +kernel
theorem dX6_inherit_33 : decode cX6_inherit 33 = .ok (.istore 6, 2) := by decide +kernel
theorem dX6_inherit_35 : decode cX6_inherit 35 = .ok (.iconst 0, 1) := by decide +kernel
theorem dX6_inherit_36 : decode cX6_inherit 36 = .ok (.istore 7, 2) := by decide +kernel
theorem dX6_inherit_38 : decode cX6_inherit 38 = .ok (.iload 7, 2) := by decide +kernel
theorem dX6_inherit_40 : decode cX6_inherit 40 = .ok (.bipush 20, 2) := by decide +kernel
theorem dX6_inherit_42 : decode cX6_inherit 42 = .ok (.if_icmp .ge 93, 3) := by decide +kernel
theorem dX6_inherit_45 : decode cX6_inherit 45 = .ok (.iload 7, 2) := by decide +kernel
theorem dX6_inherit_47 : decode cX6_inherit 47 = .ok (.iload 4, 2) := by decide +kernel
theorem dX6_inherit_49 : decode cX6_inherit 49 = .ok (.if_icmp .lt 14, 3) := by decide +kernel
theorem dX6_inherit_52 : decode cX6_inherit 52 = .ok (.iload 7, 2) := by decide +kernel
theorem dX6_inherit_54 : decode cX6_inherit 54 = .ok (.iload 5, 2) := by decide +kernel
theorem dX6_inherit_56 : decode cX6_inherit 56 = .ok (.if_icmp .ge 7, 3) := by decide +kernel
theorem dX6_inherit_59 : decode cX6_inherit 59 = .ok (.iconst 1, 1) := by decide +kernel
theorem dX6_inherit_60 : decode cX6_inherit 60 = .ok (.goto 4, 3) := by decide +kernel
theorem dX6_inherit_63 : decode cX6_inherit 63 = .ok (.iconst 0, 1) := by decide +kernel
theorem dX6_inherit_64 : decode cX6_inherit 64 = .ok (.istore 8, 2) := by decide +kernel
theorem dX6_inherit_66 : decode cX6_inherit 66 = .ok (.iload 8, 2) := by decide +kernel
theorem dX6_inherit_68 : decode cX6_inherit 68 = .ok (.ifCond .eq 7, 3) := by decide +kernel
theorem dX6_inherit_71 : decode cX6_inherit 71 = .ok (.iload_n 3, 1) := by decide +kernel
theorem dX6_inherit_72 : decode cX6_inherit 72 = .ok (.goto 4, 3) := by decide +kernel
theorem dX6_inherit_75 : decode cX6_inherit 75 = .ok (.iload_n 2, 1) := by decide +kernel
theorem dX6_inherit_76 : decode cX6_inherit 76 = .ok (.istore 9, 2) := by decide +kernel
theorem dX6_inherit_78 : decode cX6_inherit 78 = .ok (.iload 7, 2) := by decide +kernel
theorem dX6_inherit_80 : decode cX6_inherit 80 = .ok (.aload_n 0, 1) := by decide +kernel
theorem dX6_inherit_81 : decode cX6_inherit 81 = .ok (.getfield 7, 3) := by decide +kernel
theorem dX6_inherit_84 : decode cX6_inherit 84 = .ok (.iload 9, 2) := by decide +kernel
theorem dX6_inherit_86 : decode cX6_inherit 86 = .ok (.invokestatic 30, 3) := by decide +kernel
theorem dX6_inherit_89 : decode cX6_inherit 89 = .ok (.iconst 5, 1) := by decide +kernel
theorem dX6_inherit_90 : decode cX6_inherit 90 = .ok (.iadd, 1) := by decide +kernel
theorem dX6_inherit_91 : decode cX6_inherit 91 = .ok (.iaload, 1) := by decide +kernel
theorem dX6_inherit_92 : decode cX6_inherit 92 = .ok (.if_icmp .ge 37, 3) := by decide +kernel
theorem dX6_inherit_95 : decode cX6_inherit 95 = .ok (.aload_n 0, 1) := by decide +kernel
theorem dX6_inherit_96 : decode cX6_inherit 96 = .ok (.getfield 7, 3) := by decide +kernel
theorem dX6_inherit_99 : decode cX6_inherit 99 = .ok (.iload_n 1, 1) := by decide +kernel
theorem dX6_inherit_100 : decode cX6_inherit 100 = .ok (.invokestatic 30, 3) := by decide +kernel
theorem dX6_inherit_103 : decode cX6_inherit 103 = .ok (.bipush 34, 2) := by decide +kernel
theorem dX6_inherit_105 : decode cX6_inherit 105 = .ok (.iadd, 1) := by decide +kernel
theorem dX6_inherit_106 : decode cX6_inherit 106 = .ok (.iload 6, 2) := by decide +kernel
theorem dX6_inherit_108 : decode cX6_inherit 108 = .ok (.iadd, 1) := by decide +kernel
theorem dX6_inherit_109 : decode cX6_inherit 109 = .ok (.aload_n 0, 1) := by decide +kernel
theorem dX6_inherit_110 : decode cX6_inherit 110 = .ok (.getfield 7, 3) := by decide +kernel
theorem dX6_inherit_113 : decode cX6_inherit 113 = .ok (.iload 9, 2) := by decide +kernel
theorem dX6_inherit_115 : decode cX6_inherit 115 = .ok (.invokestatic 30, 3) := by decide +kernel
theorem dX6_inherit_118 : decode cX6_inherit 118 = .ok (.bipush 34, 2) := by decide +kernel
theorem dX6_inherit_120 : decode cX6_inherit 120 = .ok (.iadd, 1) := by decide +kernel
theorem dX6_inherit_121 : decode cX6_inherit 121 = .ok (.iload 7, 2) := by decide +kernel
theorem dX6_inherit_123 : decode cX6_inherit 123 = .ok (.iadd, 1) := by decide +kernel
theorem dX6_inherit_124 : decode cX6_inherit 124 = .ok (.iaload, 1) := by decide +kernel
theorem dX6_inherit_125 : decode cX6_inherit 125 = .ok (.iastore, 1) := by decide +kernel
theorem dX6_inherit_126 : decode cX6_inherit 126 = .ok (.iinc 6 1, 3) := by decide +kernel
theorem dX6_inherit_129 : decode cX6_inherit 129 = .ok (.iinc 7 1, 3) := by decide +kernel
theorem dX6_inherit_132 : decode cX6_inherit 132 = .ok (.goto (-94), 3) := by decide +kernel
theorem dX6_inherit_135 : decode cX6_inherit 135 = .ok (.aload_n 0, 1) := by decide +kernel
theorem dX6_inherit_136 : decode cX6_inherit 136 = .ok (.getfield 7, 3) := by decide +kernel
theorem dX6_inherit_139 : decode cX6_inherit 139 = .ok (.iload_n 1, 1) := by decide +kernel
theorem dX6_inherit_140 : decode cX6_inherit 140 = .ok (.invokestatic 30, 3) := by decide +kernel
theorem dX6_inherit_143 : decode cX6_inherit 143 = .ok (.iconst 5, 1) := by decide +kernel
theorem dX6_inherit_144 : decode cX6_inherit 144 = .ok (.iadd, 1) := by decide +kernel
theorem dX6_inherit_145 : decode cX6_inherit 145 = .ok (.iload 6, 2) := by decide +kernel
theorem dX6_inherit_147 : decode cX6_inherit 147 = .ok (.iastore, 1) := by decide +kernel
theorem dX6_inherit_148 : decode cX6_inherit 148 = .ok (.aload_n 0, 1) := by decide +kernel
theorem dX6_inherit_149 : decode cX6_inherit 149 = .ok (.invokevirtual 81, 3) := by decide +kernel
theorem dX6_inherit_152 : decode cX6_inherit 152 = .ok (.istore 7, 2) := by decide +kernel
theorem dX6_inherit_154 : decode cX6_inherit 154 = .ok (.iload 7, 2) := by decide +kernel
theorem dX6_inherit_156 : decode cX6_inherit 156 = .ok (.iconst 4, 1) := by decide +kernel
theorem dX6_inherit_157 : decode cX6_inherit 157 = .ok (.irem, 1) := by decide +kernel
theorem dX6_inherit_158 : decode cX6_inherit 158 = .ok (.ifCond .ne 41, 3) := by decide +kernel
theorem dX6_inherit_161 : decode cX6_inherit 161 = .ok (.iload 6, 2) := by decide +kernel
theorem dX6_inherit_163 : decode cX6_inherit 163 = .ok (.ifCond .le 36, 3) := by decide +kernel
theorem dX6_inherit_166 : decode cX6_inherit 166 = .ok (.aload_n 0, 1) := by decide +kernel
theorem dX6_inherit_167 : decode cX6_inherit 167 = .ok (.invokevirtual 81, 3) := by decide +kernel
theorem dX6_inherit_170 : decode cX6_inherit 170 = .ok (.iload 6, 2) := by decide +kernel
theorem dX6_inherit_172 : decode cX6_inherit 172 = .ok (.irem, 1) := by decide +kernel
theorem dX6_inherit_173 : decode cX6_inherit 173 = .ok (.istore 8, 2) := by decide +kernel
theorem dX6_inherit_175 : decode cX6_inherit 175 = .ok (.aload_n 0, 1) := by decide +kernel
theorem dX6_inherit_176 : decode cX6_inherit 176 = .ok (.invokevirtual 81, 3) := by decide +kernel
theorem dX6_inherit_179 : decode cX6_inherit 179 = .ok (.istore 9, 2) := by decide +kernel
theorem dX6_inherit_181 : decode cX6_inherit 181 = .ok (.aload_n 0, 1) := by decide +kernel
theorem dX6_inherit_182 : decode cX6_inherit 182 = .ok (.getfield 7, 3) := by decide +kernel
theorem dX6_inherit_185 : decode cX6_inherit 185 = .ok (.iload_n 1, 1) := by decide +kernel
theorem dX6_inherit_186 : decode cX6_inherit 186 = .ok (.invokestatic 30, 3) := by decide +kernel
theorem dX6_inherit_189 : decode cX6_inherit 189 = .ok (.bipush 34, 2) := by decide +kernel
theorem dX6_inherit_191 : decode cX6_inherit 191 = .ok (.iadd, 1) := by decide +kernel
theorem dX6_inherit_192 : decode cX6_inherit 192 = .ok (.iload 8, 2) := by decide +kernel
theorem dX6_inherit_194 : decode cX6_inherit 194 = .ok (.iadd, 1) := by decide +kernel
theorem dX6_inherit_195 : decode cX6_inherit 195 = .ok (.iload 9, 2) := by decide +kernel
theorem dX6_inherit_197 : decode cX6_inherit 197 = .ok (.i2b, 1) := by decide +kernel
theorem dX6_inherit_198 : decode cX6_inherit 198 = .ok (.iastore, 1) := by decide +kernel
theorem dX6_inherit_199 : decode cX6_inherit 199 = .ok (.return_, 1) := by decide +kernel
def fn_X6_inherit_L38 (L : cp_Lay) (q : Nat) : Nat → Nat → Int32 → Int32 → Int32 → Int32 → Int32 → Int32 → Int32 → cp_Dt → Option (cp_Dt)
  | 0, _, _, _, _, _, _, _, _, _ => none
  | n + 1, a0, i1, i2, i3, i4, i5, i6, i7, D =>
    if (20 : Int32) ≤ i7 then ((cp_gR L a0 6 3).bind fun r10 =>
    (fn_X6_at L q i1 D).bind fun y11 =>
    (cp_aS L y11.2 0 r10 (y11.1 + (5 : Int32)) i6).bind fun D12 =>
    (cp_fl L a0 6).bind fun f13 =>
    (fn_X6_next L q a0 D12).bind fun y14 =>
    if (y14.1 - y14.1 / (4 : Int32) * (4 : Int32)) = 0 then (if i6 ≤ 0 then (some y14.2)
    else ((cp_fl L a0 6).bind fun f17 =>
    (fn_X6_next L q a0 y14.2).bind fun y18 =>
    (cp_nz i6).bind fun u19 =>
    (cp_fl L a0 6).bind fun f20 =>
    (fn_X6_next L q a0 y18.2).bind fun y21 =>
    (cp_gR L a0 6 3).bind fun r22 =>
    (fn_X6_at L q i1 y21.2).bind fun y23 =>
    (cp_aS L y23.2 0 r22 ((y23.1 + (34 : Int32)) + (y18.1 - y18.1 / i6 * i6)) y21.1.toInt8.toInt32).bind fun D24 =>
    some D24))
    else (some y14.2))
    else (if i7 < i4 then ((cp_gR L a0 6 3).bind fun r26 =>
    (fn_X6_at L q i2 D).bind fun y27 =>
    (cp_aI L y27.2 0 r26 (y27.1 + (5 : Int32))).bind fun v28 =>
    if v28 ≤ i7 then (fn_X6_inherit_L38 L q n a0 i1 i2 i3 i4 i5 i6 (i7 + 1) y27.2)
    else ((cp_gR L a0 6 3).bind fun r30 =>
    (fn_X6_at L q i1 y27.2).bind fun y31 =>
    (cp_gR L a0 6 3).bind fun r32 =>
    (fn_X6_at L q i2 y31.2).bind fun y33 =>
    (cp_aI L y33.2 0 r32 ((y33.1 + (34 : Int32)) + i7)).bind fun v34 =>
    (cp_aS L y33.2 0 r30 ((y31.1 + (34 : Int32)) + i6) v34).bind fun D35 =>
    fn_X6_inherit_L38 L q n a0 i1 i2 i3 i4 i5 (i6 + 1) (i7 + 1) D35))
    else (if i5 ≤ i7 then ((cp_gR L a0 6 3).bind fun r37 =>
    (fn_X6_at L q i2 D).bind fun y38 =>
    (cp_aI L y38.2 0 r37 (y38.1 + (5 : Int32))).bind fun v39 =>
    if v39 ≤ i7 then (fn_X6_inherit_L38 L q n a0 i1 i2 i3 i4 i5 i6 (i7 + 1) y38.2)
    else ((cp_gR L a0 6 3).bind fun r41 =>
    (fn_X6_at L q i1 y38.2).bind fun y42 =>
    (cp_gR L a0 6 3).bind fun r43 =>
    (fn_X6_at L q i2 y42.2).bind fun y44 =>
    (cp_aI L y44.2 0 r43 ((y44.1 + (34 : Int32)) + i7)).bind fun v45 =>
    (cp_aS L y44.2 0 r41 ((y42.1 + (34 : Int32)) + i6) v45).bind fun D46 =>
    fn_X6_inherit_L38 L q n a0 i1 i2 i3 i4 i5 (i6 + 1) (i7 + 1) D46))
    else ((cp_gR L a0 6 3).bind fun r47 =>
    (fn_X6_at L q i3 D).bind fun y48 =>
    (cp_aI L y48.2 0 r47 (y48.1 + (5 : Int32))).bind fun v49 =>
    if v49 ≤ i7 then (fn_X6_inherit_L38 L q n a0 i1 i2 i3 i4 i5 i6 (i7 + 1) y48.2)
    else ((cp_gR L a0 6 3).bind fun r51 =>
    (fn_X6_at L q i1 y48.2).bind fun y52 =>
    (cp_gR L a0 6 3).bind fun r53 =>
    (fn_X6_at L q i3 y52.2).bind fun y54 =>
    (cp_aI L y54.2 0 r53 ((y54.1 + (34 : Int32)) + i7)).bind fun v55 =>
    (cp_aS L y54.2 0 r51 ((y52.1 + (34 : Int32)) + i6) v55).bind fun D56 =>
    fn_X6_inherit_L38 L q n a0 i1 i2 i3 i4 i5 (i6 + 1) (i7 + 1) D56))))
def fn_X6_inherit (L : cp_Lay) (q : Nat) (k0 : Nat) (x1 : Int32) (x2 : Int32) (x3 : Int32) (D : cp_Dt) : Option (cp_Dt) :=
  (cp_fl L k0 6).bind fun f1 =>
  (fn_X6_next L q k0 D).bind fun y2 =>
  (cp_gR L k0 6 3).bind fun r3 =>
  (fn_X6_at L q x2 y2.2).bind fun y4 =>
  (cp_aI L y4.2 0 r3 (y4.1 + (5 : Int32))).bind fun v5 =>
  (cp_nz (v5 + (1 : Int32))).bind fun u6 =>
  (cp_fl L k0 6).bind fun f7 =>
  (fn_X6_next L q k0 y4.2).bind fun y8 =>
  fn_X6_inherit_L38 L q q k0 x1 x2 x3 (y2.1 - y2.1 / (v5 + (1 : Int32)) * (v5 + (1 : Int32))) ((y2.1 - y2.1 / (v5 + (1 : Int32)) * (v5 + (1 : Int32))) + (y8.1 - y8.1 / (8 : Int32) * (8 : Int32))) (0 : Int32) (0 : Int32) y8.2
set_option maxHeartbeats 4000000 in
set_option maxRecDepth 100000 in
theorem ct_X6_inherit (l : Launch) (G : va_G) (L : cp_Lay) (hJ : cp_J L) (q : Nat) (k0 : Nat) (x1 : Int32) (x2 : Int32) (x3 : Int32) (D : cp_Dt) (res : cp_Dt) (hF : fn_X6_inherit L q k0 x1 x2 x3 D = some res) : cp_Met l G yX6_inherit wsX6_inherit ({ frames := 1, cells := 0, slots := 0, locals := 21 }) L ([.ref (L.2.1 k0), .int x1, .int x2, .int x3] : List Value) D res none := by
  refine Met.ofW (cc := cX6_inherit) (maxL := 10) (ret := none) (by decide) rfl ?_
  intro p e s m args below meth c s₁ B hml hv
  obtain ⟨rfl, hP, hK, hN, hZ⟩ := hv
  have hx := B.exec
  have hb := B.bytes
  have hr := B.returns
  have hts := atoms_spec (ws := wsX6_inherit) B.pre
  have hown : s.vm.findClass "CreaturePondModel" = some m.cls := findClass_of_methodNamed B.named
  have hlocks := B.notSynchronized
  have hS : va_S (cp_A L) s.heap s.heap [] := va_S.rf
  have htT : ∀ w ∈ cp_T, w.before ([.ref (L.2.1 k0), .int x1, .int x2, .int x3] : List Value).toArray s = true := fun w h => hts w (List.mem_cons_of_mem _ h)
  have hl := lv_entry (([.ref (L.2.1 k0), .int x1, .int x2, .int x3] : List Value)) (n := 10) (Nat.le_of_ble_eq_true rfl)
  rw [lg_entry_eq]
  generalize (lg_sl (([.ref (L.2.1 k0), .int x1, .int x2, .int x3] : List Value)) ++ List.replicate (10 - (lg_sl (([.ref (L.2.1 k0), .int x1, .int x2, .int x3] : List Value))).length) Slot.unset).toArray = ls at hl ⊢
  have hl : lv_has ls 10 [(0, .ref (L.2.1 k0)), (1, .int x1), (2, .int x2), (3, .int x3)] := hl
  have hL38 : ∀ (n : Nat) (a0 : Nat) (i1 : Int32) (i2 : Int32) (i3 : Int32) (i4 : Int32) (i5 : Int32) (i6 : Int32) (i7 : Int32) (D : cp_Dt) (H : Heap) (locs : List Loc) (ls : Array Slot), fn_X6_inherit_L38 L q n a0 i1 i2 i3 i4 i5 i6 i7 D = some res → va_P G vwCl (cp_ws L D) H → va_S (cp_A L) s.heap H locs → lv_has ls 10 [(0, .ref (L.2.1 a0)), (1, .int i1), (2, .int i2), (3, .int i3), (4, .int i4), (5, .int i5), (6, .int i6), (7, .int i7)] → W p l e (headSpec wsX6_inherit ({ frames := 1, cells := 0, slots := 0, locals := 21 })).room s m ([.ref (L.2.1 k0), .int x1, .int x2, .int x3] : List Value).toArray below meth c H locs 0 0 (MQ below (cp_Q G L res none) ([.ref (L.2.1 k0), .int x1, .int x2, .int x3] : List Value).toArray s 0 0 (cp_A L)) (F0 m 38 ls []) := by
    intro n
    induction n with
    | zero =>
      intro a0 i1 i2 i3 i4 i5 i6 i7 D H locs ls hF
      cases hF
    | succ n ih =>
      intro a0 i1 i2 i3 i4 i5 i6 i7 D H locs ls hF hP hS hl
      unfold fn_X6_inherit_L38 at hF
      refine lv_iload hx hb dX6_inherit_38 (lv_at hl 7 rfl) ?_
      refine lv_bipush (v := (20 : Int32)) hx hb dX6_inherit_40 (by decide) ?_
      refine lv_icmp_ge (tgt := 135) hx hb dX6_inherit_42 (by decide) (fun hc9 => ?_) (fun hc9 => ?_)
      · rw [if_pos hc9] at hF
        refine lv_aload_n hx hb dX6_inherit_135 rfl (lv_at hl 0 rfl) ?_
        obtain ⟨r10, er10, hF⟩ := cp_bind hF
        refine cp_getR (T := TX6) (N := 6) (ci := 6) (j := 3) hx hb htT hinX6 hown hK hP rfl (by decide) rfl (htT _ tw_378) er10 dX6_inherit_136 ?_
        refine lv_iload_n hx hb dX6_inherit_139 rfl (lv_at hl 1 rfl) ?_
        obtain ⟨y11, ey11, hF⟩ := cp_bind hF
        refine cp_call (st1 := [.int y11.1, .ref (L.2.1 r10)]) (va_runS (As := [.int i1]) (rest := [.ref (L.2.1 r10)]) ⟨hx, hb, hml, hown, htT⟩ (ct_X6_at l G L hJ q i1 D y11 ey11) ⟨callB_of 1 htT gdX6_at rfl rfl rfl (htT _ tw_8) (htT _ tw_417) hdX6_at ⟨Nat.le_of_ble_eq_true rfl, Nat.le_of_ble_eq_true rfl⟩, (htT _ tw_418)⟩ ⟨cp_blind, cp_pre hP hK hN hZ hS⟩ rfl rfl hl.1 rfl (lv_room (Nat.le_of_ble_eq_true rfl)) dX6_inherit_140 ⟨Nat.zero_le _, Nat.zero_le _⟩) hS (fun H locs hP hS => ?_)
        refine lv_iconst (v := (5 : Int32)) hx hb dX6_inherit_143 (by decide) ?_
        refine lv_iadd hx hb dX6_inherit_144 ?_
        refine lv_iload hx hb dX6_inherit_145 (lv_at hl 6 rfl) ?_
        obtain ⟨D12, eD12, hF⟩ := cp_bind hF
        refine cp_iast hx hb hK hJ hP hS eD12 dX6_inherit_147 (fun H locs hP hS => ?_)
        refine lv_aload_n hx hb dX6_inherit_148 rfl (lv_at hl 0 rfl) ?_
        obtain ⟨f13, ef13, hF⟩ := cp_bind hF
        obtain ⟨y14, ey14, hF⟩ := cp_bind hF
        refine cp_call (st1 := [.int y14.1]) (va_runV (As := []) (rest := []) ⟨hx, hb, hml, hown, htT⟩ (ct_X6_next l G L hJ q a0 D12 y14 ey14) ⟨callB_of 0 htT gdX6_next rfl rfl rfl (htT _ tw_8) (htT _ tw_485) hdX6_next ⟨Nat.le_of_ble_eq_true rfl, Nat.le_of_ble_eq_true rfl⟩, (htT _ tw_486), (htT _ tw_592)⟩ ⟨cp_blind, cp_recv hK hP rfl ef13, cp_pre hP hK hN hZ hS⟩ rfl rfl hl.1 rfl (lv_room (Nat.le_of_ble_eq_true rfl)) dX6_inherit_149 ⟨Nat.zero_le _, Nat.zero_le _⟩) hS (fun H locs hP hS => ?_)
        refine lv_istore (lv' := [(7, .int y14.1), (0, .ref (L.2.1 a0)), (1, .int i1), (2, .int i2), (3, .int i3), (4, .int i4), (5, .int i5), (6, .int i6)]) hx hb dX6_inherit_152 hl (by decide) rfl (fun ls hl => ?_)
        refine lv_iload hx hb dX6_inherit_154 (lv_at hl 0 rfl) ?_
        refine lv_iconst (v := (4 : Int32)) hx hb dX6_inherit_156 (by decide) ?_
        refine lv_irem hx hb dX6_inherit_157 (by decide) ?_
        refine lv_if_ne (tgt := 199) hx hb dX6_inherit_158 (by decide) (fun hc15 => ?_) (fun hc15 => ?_)
        · rw [if_neg hc15] at hF
          exact cp_vret hx hb hr hlocks hF hP hS dX6_inherit_199
        · rw [if_pos hc15] at hF
          refine lv_iload hx hb dX6_inherit_161 (lv_at hl 7 rfl) ?_
          refine lv_if_le (tgt := 199) hx hb dX6_inherit_163 (by decide) (fun hc16 => ?_) (fun hc16 => ?_)
          · rw [if_pos hc16] at hF
            exact cp_vret hx hb hr hlocks hF hP hS dX6_inherit_199
          · rw [if_neg hc16] at hF
            refine lv_aload_n hx hb dX6_inherit_166 rfl (lv_at hl 1 rfl) ?_
            obtain ⟨f17, ef17, hF⟩ := cp_bind hF
            obtain ⟨y18, ey18, hF⟩ := cp_bind hF
            refine cp_call (st1 := [.int y18.1]) (va_runV (As := []) (rest := []) ⟨hx, hb, hml, hown, htT⟩ (ct_X6_next l G L hJ q a0 y14.2 y18 ey18) ⟨callB_of 0 htT gdX6_next rfl rfl rfl (htT _ tw_8) (htT _ tw_485) hdX6_next ⟨Nat.le_of_ble_eq_true rfl, Nat.le_of_ble_eq_true rfl⟩, (htT _ tw_486), (htT _ tw_592)⟩ ⟨cp_blind, cp_recv hK hP rfl ef17, cp_pre hP hK hN hZ hS⟩ rfl rfl hl.1 rfl (lv_room (Nat.le_of_ble_eq_true rfl)) dX6_inherit_167 ⟨Nat.zero_le _, Nat.zero_le _⟩) hS (fun H locs hP hS => ?_)
            refine lv_iload hx hb dX6_inherit_170 (lv_at hl 7 rfl) ?_
            obtain ⟨u19, eu19, hF⟩ := cp_bind hF
            refine lv_irem hx hb dX6_inherit_172 (cp_nz_ne eu19) ?_
            refine lv_istore (lv' := [(8, .int (y18.1 - y18.1 / i6 * i6)), (7, .int y14.1), (0, .ref (L.2.1 a0)), (1, .int i1), (2, .int i2), (3, .int i3), (4, .int i4), (5, .int i5), (6, .int i6)]) hx hb dX6_inherit_173 hl (by decide) rfl (fun ls hl => ?_)
            refine lv_aload_n hx hb dX6_inherit_175 rfl (lv_at hl 2 rfl) ?_
            obtain ⟨f20, ef20, hF⟩ := cp_bind hF
            obtain ⟨y21, ey21, hF⟩ := cp_bind hF
            refine cp_call (st1 := [.int y21.1]) (va_runV (As := []) (rest := []) ⟨hx, hb, hml, hown, htT⟩ (ct_X6_next l G L hJ q a0 y18.2 y21 ey21) ⟨callB_of 0 htT gdX6_next rfl rfl rfl (htT _ tw_8) (htT _ tw_485) hdX6_next ⟨Nat.le_of_ble_eq_true rfl, Nat.le_of_ble_eq_true rfl⟩, (htT _ tw_486), (htT _ tw_592)⟩ ⟨cp_blind, cp_recv hK hP rfl ef20, cp_pre hP hK hN hZ hS⟩ rfl rfl hl.1 rfl (lv_room (Nat.le_of_ble_eq_true rfl)) dX6_inherit_176 ⟨Nat.zero_le _, Nat.zero_le _⟩) hS (fun H locs hP hS => ?_)
            refine lv_istore (lv' := [(9, .int y21.1), (8, .int (y18.1 - y18.1 / i6 * i6)), (7, .int y14.1), (0, .ref (L.2.1 a0)), (1, .int i1), (2, .int i2), (3, .int i3), (4, .int i4), (5, .int i5), (6, .int i6)]) hx hb dX6_inherit_179 hl (by decide) rfl (fun ls hl => ?_)
            refine lv_aload_n hx hb dX6_inherit_181 rfl (lv_at hl 3 rfl) ?_
            obtain ⟨r22, er22, hF⟩ := cp_bind hF
            refine cp_getR (T := TX6) (N := 6) (ci := 6) (j := 3) hx hb htT hinX6 hown hK hP rfl (by decide) rfl (htT _ tw_378) er22 dX6_inherit_182 ?_
            refine lv_iload_n hx hb dX6_inherit_185 rfl (lv_at hl 4 rfl) ?_
            obtain ⟨y23, ey23, hF⟩ := cp_bind hF
            refine cp_call (st1 := [.int y23.1, .ref (L.2.1 r22)]) (va_runS (As := [.int i1]) (rest := [.ref (L.2.1 r22)]) ⟨hx, hb, hml, hown, htT⟩ (ct_X6_at l G L hJ q i1 y21.2 y23 ey23) ⟨callB_of 1 htT gdX6_at rfl rfl rfl (htT _ tw_8) (htT _ tw_417) hdX6_at ⟨Nat.le_of_ble_eq_true rfl, Nat.le_of_ble_eq_true rfl⟩, (htT _ tw_418)⟩ ⟨cp_blind, cp_pre hP hK hN hZ hS⟩ rfl rfl hl.1 rfl (lv_room (Nat.le_of_ble_eq_true rfl)) dX6_inherit_186 ⟨Nat.zero_le _, Nat.zero_le _⟩) hS (fun H locs hP hS => ?_)
            refine lv_bipush (v := (34 : Int32)) hx hb dX6_inherit_189 (by decide) ?_
            refine lv_iadd hx hb dX6_inherit_191 ?_
            refine lv_iload hx hb dX6_inherit_192 (lv_at hl 1 rfl) ?_
            refine lv_iadd hx hb dX6_inherit_194 ?_
            refine lv_iload hx hb dX6_inherit_195 (lv_at hl 0 rfl) ?_
            refine lv_i2b hx hb dX6_inherit_197 rfl ?_
            obtain ⟨D24, eD24, hF⟩ := cp_bind hF
            refine cp_iast hx hb hK hJ hP hS eD24 dX6_inherit_198 (fun H locs hP hS => ?_)
            exact cp_vret hx hb hr hlocks hF hP hS dX6_inherit_199
      · rw [if_neg hc9] at hF
        refine lv_iload hx hb dX6_inherit_45 (lv_at hl 7 rfl) ?_
        refine lv_iload hx hb dX6_inherit_47 (lv_at hl 4 rfl) ?_
        refine lv_icmp_lt (tgt := 63) hx hb dX6_inherit_49 (by decide) (fun hc25 => ?_) (fun hc25 => ?_)
        · rw [if_pos hc25] at hF
          refine lv_iconst (v := (0 : Int32)) hx hb dX6_inherit_63 (by decide) ?_
          refine lv_istore (lv' := [(8, .int (0 : Int32)), (0, .ref (L.2.1 a0)), (1, .int i1), (2, .int i2), (3, .int i3), (4, .int i4), (5, .int i5), (6, .int i6), (7, .int i7)]) hx hb dX6_inherit_64 hl (by decide) rfl (fun ls hl => ?_)
          refine lv_iload hx hb dX6_inherit_66 (lv_at hl 0 rfl) ?_
          refine lv_if_eq (tgt := 75) hx hb dX6_inherit_68 (by decide) (fun _ => ?_) (fun hc => absurd hc (by decide))
          refine lv_iload_n hx hb dX6_inherit_75 rfl (lv_at hl 3 rfl) ?_
          refine lv_istore (lv' := [(9, .int i2), (8, .int (0 : Int32)), (0, .ref (L.2.1 a0)), (1, .int i1), (2, .int i2), (3, .int i3), (4, .int i4), (5, .int i5), (6, .int i6), (7, .int i7)]) hx hb dX6_inherit_76 hl (by decide) rfl (fun ls hl => ?_)
          refine lv_iload hx hb dX6_inherit_78 (lv_at hl 9 rfl) ?_
          refine lv_aload_n hx hb dX6_inherit_80 rfl (lv_at hl 2 rfl) ?_
          obtain ⟨r26, er26, hF⟩ := cp_bind hF
          refine cp_getR (T := TX6) (N := 6) (ci := 6) (j := 3) hx hb htT hinX6 hown hK hP rfl (by decide) rfl (htT _ tw_378) er26 dX6_inherit_81 ?_
          refine lv_iload hx hb dX6_inherit_84 (lv_at hl 0 rfl) ?_
          obtain ⟨y27, ey27, hF⟩ := cp_bind hF
          refine cp_call (st1 := [.int y27.1, .ref (L.2.1 r26), .int i7]) (va_runS (As := [.int i2]) (rest := [.ref (L.2.1 r26), .int i7]) ⟨hx, hb, hml, hown, htT⟩ (ct_X6_at l G L hJ q i2 D y27 ey27) ⟨callB_of 1 htT gdX6_at rfl rfl rfl (htT _ tw_8) (htT _ tw_417) hdX6_at ⟨Nat.le_of_ble_eq_true rfl, Nat.le_of_ble_eq_true rfl⟩, (htT _ tw_418)⟩ ⟨cp_blind, cp_pre hP hK hN hZ hS⟩ rfl rfl hl.1 rfl (lv_room (Nat.le_of_ble_eq_true rfl)) dX6_inherit_86 ⟨Nat.zero_le _, Nat.zero_le _⟩) hS (fun H locs hP hS => ?_)
          refine lv_iconst (v := (5 : Int32)) hx hb dX6_inherit_89 (by decide) ?_
          refine lv_iadd hx hb dX6_inherit_90 ?_
          obtain ⟨v28, ev28, hF⟩ := cp_bind hF
          refine cp_iald hx hb hK hP ev28 dX6_inherit_91 ?_
          refine lv_icmp_ge (tgt := 129) hx hb dX6_inherit_92 (by decide) (fun hc29 => ?_) (fun hc29 => ?_)
          · rw [if_pos hc29] at hF
            refine lv_iinc (k := 9) (v := (i7 + 1)) (lv' := [(7, .int (i7 + 1)), (9, .int i2), (8, .int (0 : Int32)), (0, .ref (L.2.1 a0)), (1, .int i1), (2, .int i2), (3, .int i3), (4, .int i4), (5, .int i5), (6, .int i6)]) hx hb dX6_inherit_129 hl rfl (congrArg (fun z => i7 + z) (by decide)) (by decide) rfl (fun ls hl => ?_)
            refine lv_goto (tgt := 38) hx hb dX6_inherit_132 (by decide) ?_
            exact ih a0 i1 i2 i3 i4 i5 i6 (i7 + 1) y27.2 _ _ _ hF hP hS (lv_sub hl [3, 4, 5, 6, 7, 8, 9, 0] rfl)
          · rw [if_neg hc29] at hF
            refine lv_aload_n hx hb dX6_inherit_95 rfl (lv_at hl 2 rfl) ?_
            obtain ⟨r30, er30, hF⟩ := cp_bind hF
            refine cp_getR (T := TX6) (N := 6) (ci := 6) (j := 3) hx hb htT hinX6 hown hK hP rfl (by decide) rfl (htT _ tw_378) er30 dX6_inherit_96 ?_
            refine lv_iload_n hx hb dX6_inherit_99 rfl (lv_at hl 3 rfl) ?_
            obtain ⟨y31, ey31, hF⟩ := cp_bind hF
            refine cp_call (st1 := [.int y31.1, .ref (L.2.1 r30)]) (va_runS (As := [.int i1]) (rest := [.ref (L.2.1 r30)]) ⟨hx, hb, hml, hown, htT⟩ (ct_X6_at l G L hJ q i1 y27.2 y31 ey31) ⟨callB_of 1 htT gdX6_at rfl rfl rfl (htT _ tw_8) (htT _ tw_417) hdX6_at ⟨Nat.le_of_ble_eq_true rfl, Nat.le_of_ble_eq_true rfl⟩, (htT _ tw_418)⟩ ⟨cp_blind, cp_pre hP hK hN hZ hS⟩ rfl rfl hl.1 rfl (lv_room (Nat.le_of_ble_eq_true rfl)) dX6_inherit_100 ⟨Nat.zero_le _, Nat.zero_le _⟩) hS (fun H locs hP hS => ?_)
            refine lv_bipush (v := (34 : Int32)) hx hb dX6_inherit_103 (by decide) ?_
            refine lv_iadd hx hb dX6_inherit_105 ?_
            refine lv_iload hx hb dX6_inherit_106 (lv_at hl 8 rfl) ?_
            refine lv_iadd hx hb dX6_inherit_108 ?_
            refine lv_aload_n hx hb dX6_inherit_109 rfl (lv_at hl 2 rfl) ?_
            obtain ⟨r32, er32, hF⟩ := cp_bind hF
            refine cp_getR (T := TX6) (N := 6) (ci := 6) (j := 3) hx hb htT hinX6 hown hK hP rfl (by decide) rfl (htT _ tw_378) er32 dX6_inherit_110 ?_
            refine lv_iload hx hb dX6_inherit_113 (lv_at hl 0 rfl) ?_
            obtain ⟨y33, ey33, hF⟩ := cp_bind hF
            refine cp_call (st1 := [.int y33.1, .ref (L.2.1 r32), .int ((y31.1 + (34 : Int32)) + i6), .ref (L.2.1 r30)]) (va_runS (As := [.int i2]) (rest := [.ref (L.2.1 r32), .int ((y31.1 + (34 : Int32)) + i6), .ref (L.2.1 r30)]) ⟨hx, hb, hml, hown, htT⟩ (ct_X6_at l G L hJ q i2 y31.2 y33 ey33) ⟨callB_of 1 htT gdX6_at rfl rfl rfl (htT _ tw_8) (htT _ tw_417) hdX6_at ⟨Nat.le_of_ble_eq_true rfl, Nat.le_of_ble_eq_true rfl⟩, (htT _ tw_418)⟩ ⟨cp_blind, cp_pre hP hK hN hZ hS⟩ rfl rfl hl.1 rfl (lv_room (Nat.le_of_ble_eq_true rfl)) dX6_inherit_115 ⟨Nat.zero_le _, Nat.zero_le _⟩) hS (fun H locs hP hS => ?_)
            refine lv_bipush (v := (34 : Int32)) hx hb dX6_inherit_118 (by decide) ?_
            refine lv_iadd hx hb dX6_inherit_120 ?_
            refine lv_iload hx hb dX6_inherit_121 (lv_at hl 9 rfl) ?_
            refine lv_iadd hx hb dX6_inherit_123 ?_
            obtain ⟨v34, ev34, hF⟩ := cp_bind hF
            refine cp_iald hx hb hK hP ev34 dX6_inherit_124 ?_
            obtain ⟨D35, eD35, hF⟩ := cp_bind hF
            refine cp_iast hx hb hK hJ hP hS eD35 dX6_inherit_125 (fun H locs hP hS => ?_)
            refine lv_iinc (k := 8) (v := (i6 + 1)) (lv' := [(6, .int (i6 + 1)), (9, .int i2), (8, .int (0 : Int32)), (0, .ref (L.2.1 a0)), (1, .int i1), (2, .int i2), (3, .int i3), (4, .int i4), (5, .int i5), (7, .int i7)]) hx hb dX6_inherit_126 hl rfl (congrArg (fun z => i6 + z) (by decide)) (by decide) rfl (fun ls hl => ?_)
            refine lv_iinc (k := 9) (v := (i7 + 1)) (lv' := [(7, .int (i7 + 1)), (6, .int (i6 + 1)), (9, .int i2), (8, .int (0 : Int32)), (0, .ref (L.2.1 a0)), (1, .int i1), (2, .int i2), (3, .int i3), (4, .int i4), (5, .int i5)]) hx hb dX6_inherit_129 hl rfl (congrArg (fun z => i7 + z) (by decide)) (by decide) rfl (fun ls hl => ?_)
            refine lv_goto (tgt := 38) hx hb dX6_inherit_132 (by decide) ?_
            exact ih a0 i1 i2 i3 i4 i5 (i6 + 1) (i7 + 1) D35 _ _ _ hF hP hS (lv_sub hl [4, 5, 6, 7, 8, 9, 1, 0] rfl)
        · rw [if_neg hc25] at hF
          refine lv_iload hx hb dX6_inherit_52 (lv_at hl 7 rfl) ?_
          refine lv_iload hx hb dX6_inherit_54 (lv_at hl 5 rfl) ?_
          refine lv_icmp_ge (tgt := 63) hx hb dX6_inherit_56 (by decide) (fun hc36 => ?_) (fun hc36 => ?_)
          · rw [if_pos hc36] at hF
            refine lv_iconst (v := (0 : Int32)) hx hb dX6_inherit_63 (by decide) ?_
            refine lv_istore (lv' := [(8, .int (0 : Int32)), (0, .ref (L.2.1 a0)), (1, .int i1), (2, .int i2), (3, .int i3), (4, .int i4), (5, .int i5), (6, .int i6), (7, .int i7)]) hx hb dX6_inherit_64 hl (by decide) rfl (fun ls hl => ?_)
            refine lv_iload hx hb dX6_inherit_66 (lv_at hl 0 rfl) ?_
            refine lv_if_eq (tgt := 75) hx hb dX6_inherit_68 (by decide) (fun _ => ?_) (fun hc => absurd hc (by decide))
            refine lv_iload_n hx hb dX6_inherit_75 rfl (lv_at hl 3 rfl) ?_
            refine lv_istore (lv' := [(9, .int i2), (8, .int (0 : Int32)), (0, .ref (L.2.1 a0)), (1, .int i1), (2, .int i2), (3, .int i3), (4, .int i4), (5, .int i5), (6, .int i6), (7, .int i7)]) hx hb dX6_inherit_76 hl (by decide) rfl (fun ls hl => ?_)
            refine lv_iload hx hb dX6_inherit_78 (lv_at hl 9 rfl) ?_
            refine lv_aload_n hx hb dX6_inherit_80 rfl (lv_at hl 2 rfl) ?_
            obtain ⟨r37, er37, hF⟩ := cp_bind hF
            refine cp_getR (T := TX6) (N := 6) (ci := 6) (j := 3) hx hb htT hinX6 hown hK hP rfl (by decide) rfl (htT _ tw_378) er37 dX6_inherit_81 ?_
            refine lv_iload hx hb dX6_inherit_84 (lv_at hl 0 rfl) ?_
            obtain ⟨y38, ey38, hF⟩ := cp_bind hF
            refine cp_call (st1 := [.int y38.1, .ref (L.2.1 r37), .int i7]) (va_runS (As := [.int i2]) (rest := [.ref (L.2.1 r37), .int i7]) ⟨hx, hb, hml, hown, htT⟩ (ct_X6_at l G L hJ q i2 D y38 ey38) ⟨callB_of 1 htT gdX6_at rfl rfl rfl (htT _ tw_8) (htT _ tw_417) hdX6_at ⟨Nat.le_of_ble_eq_true rfl, Nat.le_of_ble_eq_true rfl⟩, (htT _ tw_418)⟩ ⟨cp_blind, cp_pre hP hK hN hZ hS⟩ rfl rfl hl.1 rfl (lv_room (Nat.le_of_ble_eq_true rfl)) dX6_inherit_86 ⟨Nat.zero_le _, Nat.zero_le _⟩) hS (fun H locs hP hS => ?_)
            refine lv_iconst (v := (5 : Int32)) hx hb dX6_inherit_89 (by decide) ?_
            refine lv_iadd hx hb dX6_inherit_90 ?_
            obtain ⟨v39, ev39, hF⟩ := cp_bind hF
            refine cp_iald hx hb hK hP ev39 dX6_inherit_91 ?_
            refine lv_icmp_ge (tgt := 129) hx hb dX6_inherit_92 (by decide) (fun hc40 => ?_) (fun hc40 => ?_)
            · rw [if_pos hc40] at hF
              refine lv_iinc (k := 9) (v := (i7 + 1)) (lv' := [(7, .int (i7 + 1)), (9, .int i2), (8, .int (0 : Int32)), (0, .ref (L.2.1 a0)), (1, .int i1), (2, .int i2), (3, .int i3), (4, .int i4), (5, .int i5), (6, .int i6)]) hx hb dX6_inherit_129 hl rfl (congrArg (fun z => i7 + z) (by decide)) (by decide) rfl (fun ls hl => ?_)
              refine lv_goto (tgt := 38) hx hb dX6_inherit_132 (by decide) ?_
              exact ih a0 i1 i2 i3 i4 i5 i6 (i7 + 1) y38.2 _ _ _ hF hP hS (lv_sub hl [3, 4, 5, 6, 7, 8, 9, 0] rfl)
            · rw [if_neg hc40] at hF
              refine lv_aload_n hx hb dX6_inherit_95 rfl (lv_at hl 2 rfl) ?_
              obtain ⟨r41, er41, hF⟩ := cp_bind hF
              refine cp_getR (T := TX6) (N := 6) (ci := 6) (j := 3) hx hb htT hinX6 hown hK hP rfl (by decide) rfl (htT _ tw_378) er41 dX6_inherit_96 ?_
              refine lv_iload_n hx hb dX6_inherit_99 rfl (lv_at hl 3 rfl) ?_
              obtain ⟨y42, ey42, hF⟩ := cp_bind hF
              refine cp_call (st1 := [.int y42.1, .ref (L.2.1 r41)]) (va_runS (As := [.int i1]) (rest := [.ref (L.2.1 r41)]) ⟨hx, hb, hml, hown, htT⟩ (ct_X6_at l G L hJ q i1 y38.2 y42 ey42) ⟨callB_of 1 htT gdX6_at rfl rfl rfl (htT _ tw_8) (htT _ tw_417) hdX6_at ⟨Nat.le_of_ble_eq_true rfl, Nat.le_of_ble_eq_true rfl⟩, (htT _ tw_418)⟩ ⟨cp_blind, cp_pre hP hK hN hZ hS⟩ rfl rfl hl.1 rfl (lv_room (Nat.le_of_ble_eq_true rfl)) dX6_inherit_100 ⟨Nat.zero_le _, Nat.zero_le _⟩) hS (fun H locs hP hS => ?_)
              refine lv_bipush (v := (34 : Int32)) hx hb dX6_inherit_103 (by decide) ?_
              refine lv_iadd hx hb dX6_inherit_105 ?_
              refine lv_iload hx hb dX6_inherit_106 (lv_at hl 8 rfl) ?_
              refine lv_iadd hx hb dX6_inherit_108 ?_
              refine lv_aload_n hx hb dX6_inherit_109 rfl (lv_at hl 2 rfl) ?_
              obtain ⟨r43, er43, hF⟩ := cp_bind hF
              refine cp_getR (T := TX6) (N := 6) (ci := 6) (j := 3) hx hb htT hinX6 hown hK hP rfl (by decide) rfl (htT _ tw_378) er43 dX6_inherit_110 ?_
              refine lv_iload hx hb dX6_inherit_113 (lv_at hl 0 rfl) ?_
              obtain ⟨y44, ey44, hF⟩ := cp_bind hF
              refine cp_call (st1 := [.int y44.1, .ref (L.2.1 r43), .int ((y42.1 + (34 : Int32)) + i6), .ref (L.2.1 r41)]) (va_runS (As := [.int i2]) (rest := [.ref (L.2.1 r43), .int ((y42.1 + (34 : Int32)) + i6), .ref (L.2.1 r41)]) ⟨hx, hb, hml, hown, htT⟩ (ct_X6_at l G L hJ q i2 y42.2 y44 ey44) ⟨callB_of 1 htT gdX6_at rfl rfl rfl (htT _ tw_8) (htT _ tw_417) hdX6_at ⟨Nat.le_of_ble_eq_true rfl, Nat.le_of_ble_eq_true rfl⟩, (htT _ tw_418)⟩ ⟨cp_blind, cp_pre hP hK hN hZ hS⟩ rfl rfl hl.1 rfl (lv_room (Nat.le_of_ble_eq_true rfl)) dX6_inherit_115 ⟨Nat.zero_le _, Nat.zero_le _⟩) hS (fun H locs hP hS => ?_)
              refine lv_bipush (v := (34 : Int32)) hx hb dX6_inherit_118 (by decide) ?_
              refine lv_iadd hx hb dX6_inherit_120 ?_
              refine lv_iload hx hb dX6_inherit_121 (lv_at hl 9 rfl) ?_
              refine lv_iadd hx hb dX6_inherit_123 ?_
              obtain ⟨v45, ev45, hF⟩ := cp_bind hF
              refine cp_iald hx hb hK hP ev45 dX6_inherit_124 ?_
              obtain ⟨D46, eD46, hF⟩ := cp_bind hF
              refine cp_iast hx hb hK hJ hP hS eD46 dX6_inherit_125 (fun H locs hP hS => ?_)
              refine lv_iinc (k := 8) (v := (i6 + 1)) (lv' := [(6, .int (i6 + 1)), (9, .int i2), (8, .int (0 : Int32)), (0, .ref (L.2.1 a0)), (1, .int i1), (2, .int i2), (3, .int i3), (4, .int i4), (5, .int i5), (7, .int i7)]) hx hb dX6_inherit_126 hl rfl (congrArg (fun z => i6 + z) (by decide)) (by decide) rfl (fun ls hl => ?_)
              refine lv_iinc (k := 9) (v := (i7 + 1)) (lv' := [(7, .int (i7 + 1)), (6, .int (i6 + 1)), (9, .int i2), (8, .int (0 : Int32)), (0, .ref (L.2.1 a0)), (1, .int i1), (2, .int i2), (3, .int i3), (4, .int i4), (5, .int i5)]) hx hb dX6_inherit_129 hl rfl (congrArg (fun z => i7 + z) (by decide)) (by decide) rfl (fun ls hl => ?_)
              refine lv_goto (tgt := 38) hx hb dX6_inherit_132 (by decide) ?_
              exact ih a0 i1 i2 i3 i4 i5 (i6 + 1) (i7 + 1) D46 _ _ _ hF hP hS (lv_sub hl [4, 5, 6, 7, 8, 9, 1, 0] rfl)
          · rw [if_neg hc36] at hF
            refine lv_iconst (v := (1 : Int32)) hx hb dX6_inherit_59 (by decide) ?_
            refine lv_goto (tgt := 64) hx hb dX6_inherit_60 (by decide) ?_
            refine lv_istore (lv' := [(8, .int (1 : Int32)), (0, .ref (L.2.1 a0)), (1, .int i1), (2, .int i2), (3, .int i3), (4, .int i4), (5, .int i5), (6, .int i6), (7, .int i7)]) hx hb dX6_inherit_64 hl (by decide) rfl (fun ls hl => ?_)
            refine lv_iload hx hb dX6_inherit_66 (lv_at hl 0 rfl) ?_
            refine lv_if_eq (tgt := 75) hx hb dX6_inherit_68 (by decide) (fun hc => absurd hc (by decide)) (fun _ => ?_)
            refine lv_iload_n hx hb dX6_inherit_71 rfl (lv_at hl 4 rfl) ?_
            refine lv_goto (tgt := 76) hx hb dX6_inherit_72 (by decide) ?_
            refine lv_istore (lv' := [(9, .int i3), (8, .int (1 : Int32)), (0, .ref (L.2.1 a0)), (1, .int i1), (2, .int i2), (3, .int i3), (4, .int i4), (5, .int i5), (6, .int i6), (7, .int i7)]) hx hb dX6_inherit_76 hl (by decide) rfl (fun ls hl => ?_)
            refine lv_iload hx hb dX6_inherit_78 (lv_at hl 9 rfl) ?_
            refine lv_aload_n hx hb dX6_inherit_80 rfl (lv_at hl 2 rfl) ?_
            obtain ⟨r47, er47, hF⟩ := cp_bind hF
            refine cp_getR (T := TX6) (N := 6) (ci := 6) (j := 3) hx hb htT hinX6 hown hK hP rfl (by decide) rfl (htT _ tw_378) er47 dX6_inherit_81 ?_
            refine lv_iload hx hb dX6_inherit_84 (lv_at hl 0 rfl) ?_
            obtain ⟨y48, ey48, hF⟩ := cp_bind hF
            refine cp_call (st1 := [.int y48.1, .ref (L.2.1 r47), .int i7]) (va_runS (As := [.int i3]) (rest := [.ref (L.2.1 r47), .int i7]) ⟨hx, hb, hml, hown, htT⟩ (ct_X6_at l G L hJ q i3 D y48 ey48) ⟨callB_of 1 htT gdX6_at rfl rfl rfl (htT _ tw_8) (htT _ tw_417) hdX6_at ⟨Nat.le_of_ble_eq_true rfl, Nat.le_of_ble_eq_true rfl⟩, (htT _ tw_418)⟩ ⟨cp_blind, cp_pre hP hK hN hZ hS⟩ rfl rfl hl.1 rfl (lv_room (Nat.le_of_ble_eq_true rfl)) dX6_inherit_86 ⟨Nat.zero_le _, Nat.zero_le _⟩) hS (fun H locs hP hS => ?_)
            refine lv_iconst (v := (5 : Int32)) hx hb dX6_inherit_89 (by decide) ?_
            refine lv_iadd hx hb dX6_inherit_90 ?_
            obtain ⟨v49, ev49, hF⟩ := cp_bind hF
            refine cp_iald hx hb hK hP ev49 dX6_inherit_91 ?_
            refine lv_icmp_ge (tgt := 129) hx hb dX6_inherit_92 (by decide) (fun hc50 => ?_) (fun hc50 => ?_)
            · rw [if_pos hc50] at hF
              refine lv_iinc (k := 9) (v := (i7 + 1)) (lv' := [(7, .int (i7 + 1)), (9, .int i3), (8, .int (1 : Int32)), (0, .ref (L.2.1 a0)), (1, .int i1), (2, .int i2), (3, .int i3), (4, .int i4), (5, .int i5), (6, .int i6)]) hx hb dX6_inherit_129 hl rfl (congrArg (fun z => i7 + z) (by decide)) (by decide) rfl (fun ls hl => ?_)
              refine lv_goto (tgt := 38) hx hb dX6_inherit_132 (by decide) ?_
              exact ih a0 i1 i2 i3 i4 i5 i6 (i7 + 1) y48.2 _ _ _ hF hP hS (lv_sub hl [3, 4, 5, 6, 7, 8, 9, 0] rfl)
            · rw [if_neg hc50] at hF
              refine lv_aload_n hx hb dX6_inherit_95 rfl (lv_at hl 2 rfl) ?_
              obtain ⟨r51, er51, hF⟩ := cp_bind hF
              refine cp_getR (T := TX6) (N := 6) (ci := 6) (j := 3) hx hb htT hinX6 hown hK hP rfl (by decide) rfl (htT _ tw_378) er51 dX6_inherit_96 ?_
              refine lv_iload_n hx hb dX6_inherit_99 rfl (lv_at hl 3 rfl) ?_
              obtain ⟨y52, ey52, hF⟩ := cp_bind hF
              refine cp_call (st1 := [.int y52.1, .ref (L.2.1 r51)]) (va_runS (As := [.int i1]) (rest := [.ref (L.2.1 r51)]) ⟨hx, hb, hml, hown, htT⟩ (ct_X6_at l G L hJ q i1 y48.2 y52 ey52) ⟨callB_of 1 htT gdX6_at rfl rfl rfl (htT _ tw_8) (htT _ tw_417) hdX6_at ⟨Nat.le_of_ble_eq_true rfl, Nat.le_of_ble_eq_true rfl⟩, (htT _ tw_418)⟩ ⟨cp_blind, cp_pre hP hK hN hZ hS⟩ rfl rfl hl.1 rfl (lv_room (Nat.le_of_ble_eq_true rfl)) dX6_inherit_100 ⟨Nat.zero_le _, Nat.zero_le _⟩) hS (fun H locs hP hS => ?_)
              refine lv_bipush (v := (34 : Int32)) hx hb dX6_inherit_103 (by decide) ?_
              refine lv_iadd hx hb dX6_inherit_105 ?_
              refine lv_iload hx hb dX6_inherit_106 (lv_at hl 8 rfl) ?_
              refine lv_iadd hx hb dX6_inherit_108 ?_
              refine lv_aload_n hx hb dX6_inherit_109 rfl (lv_at hl 2 rfl) ?_
              obtain ⟨r53, er53, hF⟩ := cp_bind hF
              refine cp_getR (T := TX6) (N := 6) (ci := 6) (j := 3) hx hb htT hinX6 hown hK hP rfl (by decide) rfl (htT _ tw_378) er53 dX6_inherit_110 ?_
              refine lv_iload hx hb dX6_inherit_113 (lv_at hl 0 rfl) ?_
              obtain ⟨y54, ey54, hF⟩ := cp_bind hF
              refine cp_call (st1 := [.int y54.1, .ref (L.2.1 r53), .int ((y52.1 + (34 : Int32)) + i6), .ref (L.2.1 r51)]) (va_runS (As := [.int i3]) (rest := [.ref (L.2.1 r53), .int ((y52.1 + (34 : Int32)) + i6), .ref (L.2.1 r51)]) ⟨hx, hb, hml, hown, htT⟩ (ct_X6_at l G L hJ q i3 y52.2 y54 ey54) ⟨callB_of 1 htT gdX6_at rfl rfl rfl (htT _ tw_8) (htT _ tw_417) hdX6_at ⟨Nat.le_of_ble_eq_true rfl, Nat.le_of_ble_eq_true rfl⟩, (htT _ tw_418)⟩ ⟨cp_blind, cp_pre hP hK hN hZ hS⟩ rfl rfl hl.1 rfl (lv_room (Nat.le_of_ble_eq_true rfl)) dX6_inherit_115 ⟨Nat.zero_le _, Nat.zero_le _⟩) hS (fun H locs hP hS => ?_)
              refine lv_bipush (v := (34 : Int32)) hx hb dX6_inherit_118 (by decide) ?_
              refine lv_iadd hx hb dX6_inherit_120 ?_
              refine lv_iload hx hb dX6_inherit_121 (lv_at hl 9 rfl) ?_
              refine lv_iadd hx hb dX6_inherit_123 ?_
              obtain ⟨v55, ev55, hF⟩ := cp_bind hF
              refine cp_iald hx hb hK hP ev55 dX6_inherit_124 ?_
              obtain ⟨D56, eD56, hF⟩ := cp_bind hF
              refine cp_iast hx hb hK hJ hP hS eD56 dX6_inherit_125 (fun H locs hP hS => ?_)
              refine lv_iinc (k := 8) (v := (i6 + 1)) (lv' := [(6, .int (i6 + 1)), (9, .int i3), (8, .int (1 : Int32)), (0, .ref (L.2.1 a0)), (1, .int i1), (2, .int i2), (3, .int i3), (4, .int i4), (5, .int i5), (7, .int i7)]) hx hb dX6_inherit_126 hl rfl (congrArg (fun z => i6 + z) (by decide)) (by decide) rfl (fun ls hl => ?_)
              refine lv_iinc (k := 9) (v := (i7 + 1)) (lv' := [(7, .int (i7 + 1)), (6, .int (i6 + 1)), (9, .int i3), (8, .int (1 : Int32)), (0, .ref (L.2.1 a0)), (1, .int i1), (2, .int i2), (3, .int i3), (4, .int i4), (5, .int i5)]) hx hb dX6_inherit_129 hl rfl (congrArg (fun z => i7 + z) (by decide)) (by decide) rfl (fun ls hl => ?_)
              refine lv_goto (tgt := 38) hx hb dX6_inherit_132 (by decide) ?_
              exact ih a0 i1 i2 i3 i4 i5 (i6 + 1) (i7 + 1) D56 _ _ _ hF hP hS (lv_sub hl [4, 5, 6, 7, 8, 9, 1, 0] rfl)
  unfold fn_X6_inherit at hF
  refine lv_aload_n hx hb dX6_inherit_0 rfl (lv_at hl 0 rfl) ?_
  obtain ⟨f1, ef1, hF⟩ := cp_bind hF
  obtain ⟨y2, ey2, hF⟩ := cp_bind hF
  refine cp_call (st1 := [.int y2.1]) (va_runV (As := []) (rest := []) ⟨hx, hb, hml, hown, htT⟩ (ct_X6_next l G L hJ q k0 D y2 ey2) ⟨callB_of 0 htT gdX6_next rfl rfl rfl (htT _ tw_8) (htT _ tw_485) hdX6_next ⟨Nat.le_of_ble_eq_true rfl, Nat.le_of_ble_eq_true rfl⟩, (htT _ tw_486), (htT _ tw_592)⟩ ⟨cp_blind, cp_recv hK hP rfl ef1, cp_pre hP hK hN hZ hS⟩ rfl rfl hl.1 rfl (lv_room (Nat.le_of_ble_eq_true rfl)) dX6_inherit_1 ⟨Nat.zero_le _, Nat.zero_le _⟩) hS (fun H locs hP hS => ?_)
  refine lv_aload_n hx hb dX6_inherit_4 rfl (lv_at hl 0 rfl) ?_
  obtain ⟨r3, er3, hF⟩ := cp_bind hF
  refine cp_getR (T := TX6) (N := 6) (ci := 6) (j := 3) hx hb htT hinX6 hown hK hP rfl (by decide) rfl (htT _ tw_378) er3 dX6_inherit_5 ?_
  refine lv_iload_n hx hb dX6_inherit_8 rfl (lv_at hl 2 rfl) ?_
  obtain ⟨y4, ey4, hF⟩ := cp_bind hF
  refine cp_call (st1 := [.int y4.1, .ref (L.2.1 r3), .int y2.1]) (va_runS (As := [.int x2]) (rest := [.ref (L.2.1 r3), .int y2.1]) ⟨hx, hb, hml, hown, htT⟩ (ct_X6_at l G L hJ q x2 y2.2 y4 ey4) ⟨callB_of 1 htT gdX6_at rfl rfl rfl (htT _ tw_8) (htT _ tw_417) hdX6_at ⟨Nat.le_of_ble_eq_true rfl, Nat.le_of_ble_eq_true rfl⟩, (htT _ tw_418)⟩ ⟨cp_blind, cp_pre hP hK hN hZ hS⟩ rfl rfl hl.1 rfl (lv_room (Nat.le_of_ble_eq_true rfl)) dX6_inherit_9 ⟨Nat.zero_le _, Nat.zero_le _⟩) hS (fun H locs hP hS => ?_)
  refine lv_iconst (v := (5 : Int32)) hx hb dX6_inherit_12 (by decide) ?_
  refine lv_iadd hx hb dX6_inherit_13 ?_
  obtain ⟨v5, ev5, hF⟩ := cp_bind hF
  refine cp_iald hx hb hK hP ev5 dX6_inherit_14 ?_
  refine lv_iconst (v := (1 : Int32)) hx hb dX6_inherit_15 (by decide) ?_
  refine lv_iadd hx hb dX6_inherit_16 ?_
  obtain ⟨u6, eu6, hF⟩ := cp_bind hF
  refine lv_irem hx hb dX6_inherit_17 (cp_nz_ne eu6) ?_
  refine lv_istore (lv' := [(4, .int (y2.1 - y2.1 / (v5 + (1 : Int32)) * (v5 + (1 : Int32)))), (0, .ref (L.2.1 k0)), (1, .int x1), (2, .int x2), (3, .int x3)]) hx hb dX6_inherit_18 hl (by decide) rfl (fun ls hl => ?_)
  refine lv_iload hx hb dX6_inherit_20 (lv_at hl 0 rfl) ?_
  refine lv_aload_n hx hb dX6_inherit_22 rfl (lv_at hl 1 rfl) ?_
  obtain ⟨f7, ef7, hF⟩ := cp_bind hF
  obtain ⟨y8, ey8, hF⟩ := cp_bind hF
  refine cp_call (st1 := [.int y8.1, .int (y2.1 - y2.1 / (v5 + (1 : Int32)) * (v5 + (1 : Int32)))]) (va_runV (As := []) (rest := [.int (y2.1 - y2.1 / (v5 + (1 : Int32)) * (v5 + (1 : Int32)))]) ⟨hx, hb, hml, hown, htT⟩ (ct_X6_next l G L hJ q k0 y4.2 y8 ey8) ⟨callB_of 0 htT gdX6_next rfl rfl rfl (htT _ tw_8) (htT _ tw_485) hdX6_next ⟨Nat.le_of_ble_eq_true rfl, Nat.le_of_ble_eq_true rfl⟩, (htT _ tw_486), (htT _ tw_592)⟩ ⟨cp_blind, cp_recv hK hP rfl ef7, cp_pre hP hK hN hZ hS⟩ rfl rfl hl.1 rfl (lv_room (Nat.le_of_ble_eq_true rfl)) dX6_inherit_23 ⟨Nat.zero_le _, Nat.zero_le _⟩) hS (fun H locs hP hS => ?_)
  refine lv_bipush (v := (8 : Int32)) hx hb dX6_inherit_26 (by decide) ?_
  refine lv_irem hx hb dX6_inherit_28 (by decide) ?_
  refine lv_iadd hx hb dX6_inherit_29 ?_
  refine lv_istore (lv' := [(5, .int ((y2.1 - y2.1 / (v5 + (1 : Int32)) * (v5 + (1 : Int32))) + (y8.1 - y8.1 / (8 : Int32) * (8 : Int32)))), (4, .int (y2.1 - y2.1 / (v5 + (1 : Int32)) * (v5 + (1 : Int32)))), (0, .ref (L.2.1 k0)), (1, .int x1), (2, .int x2), (3, .int x3)]) hx hb dX6_inherit_30 hl (by decide) rfl (fun ls hl => ?_)
  refine lv_iconst (v := (0 : Int32)) hx hb dX6_inherit_32 (by decide) ?_
  refine lv_istore (lv' := [(6, .int (0 : Int32)), (5, .int ((y2.1 - y2.1 / (v5 + (1 : Int32)) * (v5 + (1 : Int32))) + (y8.1 - y8.1 / (8 : Int32) * (8 : Int32)))), (4, .int (y2.1 - y2.1 / (v5 + (1 : Int32)) * (v5 + (1 : Int32)))), (0, .ref (L.2.1 k0)), (1, .int x1), (2, .int x2), (3, .int x3)]) hx hb dX6_inherit_33 hl (by decide) rfl (fun ls hl => ?_)
  refine lv_iconst (v := (0 : Int32)) hx hb dX6_inherit_35 (by decide) ?_
  refine lv_istore (lv' := [(7, .int (0 : Int32)), (6, .int (0 : Int32)), (5, .int ((y2.1 - y2.1 / (v5 + (1 : Int32)) * (v5 + (1 : Int32))) + (y8.1 - y8.1 / (8 : Int32) * (8 : Int32)))), (4, .int (y2.1 - y2.1 / (v5 + (1 : Int32)) * (v5 + (1 : Int32)))), (0, .ref (L.2.1 k0)), (1, .int x1), (2, .int x2), (3, .int x3)]) hx hb dX6_inherit_36 hl (by decide) rfl (fun ls hl => ?_)
  exact hL38 q k0 x1 x2 x3 (y2.1 - y2.1 / (v5 + (1 : Int32)) * (v5 + (1 : Int32))) ((y2.1 - y2.1 / (v5 + (1 : Int32)) * (v5 + (1 : Int32))) + (y8.1 - y8.1 / (8 : Int32) * (8 : Int32))) (0 : Int32) (0 : Int32) y8.2 _ _ _ hF hP hS (lv_sub hl [4, 5, 6, 7, 3, 2, 1, 0] rfl)
