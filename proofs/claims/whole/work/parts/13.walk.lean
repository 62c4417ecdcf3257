theorem dX3_goAhead_0 : decode cX3_goAhead 0 = .ok (.aload_n 0, 1) := by decide +kernel
theorem dX3_goAhead_1 : decode cX3_goAhead 1 = .ok (.getfield 11, 3) := by decide +kernel
theorem dX3_goAhead_4 : decode cX3_goAhead 4 = .ok (.aload_n 1, 1) := by decide +kernel
theorem dX3_goAhead_5 : decode cX3_goAhead 5 = .ok (.invokevirtual 97, 3) := by decide +kernel
theorem dX3_goAhead_8 : decode cX3_goAhead 8 = .ok (.istore_n 2, 1) := by decide +kernel
theorem dX3_goAhead_9 : decode cX3_goAhead 9 = .ok (.aload_n 0, 1) := by decide +kernel
theorem dX3_goAhead_10 : decode cX3_goAhead 10 = .ok (.getfield 11, 3) := by decide +kernel
theorem dX3_goAhead_13 : decode cX3_goAhead 13 = .ok (.getfield 101, 3) := by decide +kernel
theorem dX3_goAhead_16 : decode cX3_goAhead 16 = .ok (.iload_n 2, 1) := by decide +kernel
theorem dX3_goAhead_17 : decode cX3_goAhead 17 = .ok (.iaload, 1) := by decide +kernel
theorem dX3_goAhead_18 : decode cX3_goAhead 18 = .ok (.iconst (-1), 1) := by decide +kernel
theorem dX3_goAhead_19 : decode cX3_goAhead 19 = .ok (.if_icmp .ne 42, 3) := by decide +kernel
theorem dX3_goAhead_22 : decode cX3_goAhead 22 = .ok (.aload_n 0, 1) := by decide +kernel
theorem dX3_goAhead_23 : decode cX3_goAhead 23 = .ok (.getfield 11, 3) := by decide +kernel
theorem dX3_goAhead_26 : decode cX3_goAhead 26 = .ok (.getfield 101, 3) := by decide +kernel
theorem dX3_goAhead_29 : decode cX3_goAhead 29 = .ok (.iload_n 2, 1) := by decide +kernel
theorem dX3_goAhead_30 : decode cX3_goAhead 30 = .ok (.aload_n 0, 1) := by decide +kernel
theorem dX3_goAhead_31 : decode cX3_goAhead 31 = .ok (.getfield 11, 3) := by decide +kernel
theorem dX3_goAhead_34 : decode cX3_goAhead 34 = .ok (.getfield 101, 3) := by decide +kernel
theorem dX3_goAhead_37 : decode cX3_goAhead 37 = .ok (.aload_n 1, 1) := by decide +kernel
theorem dX3_goAhead_38 : decode cX3_goAhead 38 = .ok (.getfield 119, 3) := by decide +kernel
theorem dX3_goAhead_41 : decode cX3_goAhead 41 = .ok (.iaload, 1) := by decide +kernel
theorem dX3_goAhead_42 : decode cX3_goAhead 42 = .ok (.iastore, 1) := by decide +kernel
theorem dX3_goAhead_43 : decode cX3_goAhead 43 = .ok (.aload_n 0, 1) := by decide +kernel
theorem dX3_goAhead_44 : decode cX3_goAhead 44 = .ok (.getfield 11, 3) := by decide +kernel
theorem dX3_goAhead_47 : decode cX3_goAhead 47 = .ok (.getfield 101, 3) := by decide +kernel
theorem dX3_goAhead_50 : decode cX3_goAhead 50 = .ok (.aload_n 1, 1) := by decide +kernel
theorem dX3_goAhead_51 : decode cX3_goAhead 51 = .ok (.getfield 119, 3) := by decide +kernel
theorem dX3_goAhead_54 : decode cX3_goAhead 54 = .ok (.iconst (-1), 1) := by decide +kernel
theorem dX3_goAhead_55 : decode cX3_goAhead 55 = .ok (.iastore, 1) := by decide +kernel
theorem dX3_goAhead_56 : decode cX3_goAhead 56 = .ok (.aload_n 1, 1) := by decide +kernel
theorem dX3_goAhead_57 : decode cX3_goAhead 57 = .ok (.iload_n 2, 1) := by decide +kernel
theorem dX3_goAhead_58 : decode cX3_goAhead 58 = .ok (.putfield 119, 3) := by decide +kernel
theorem dX3_goAhead_61 : decode cX3_goAhead 61 = .ok (.return_, 1) := by decide +kernel
def fn_X3_goAhead (L : cp_Lay) (q : Nat) (k0 : Nat) (k1 : Nat) (D : cp_Dt) : Option (cp_Dt) :=
  (cp_gR L k0 3 0).bind fun r1 =>
  (cp_fl L r1 4).bind fun f2 =>
  (fn_X4_aheadOf L q r1 k1 D).bind fun y3 =>
  (cp_gR L k0 3 0).bind fun r4 =>
  (cp_gR L r4 4 3).bind fun r5 =>
  (cp_aI L y3.2 0 r5 y3.1).bind fun v6 =>
  if v6 = (-1 : Int32) then ((cp_gR L k0 3 0).bind fun r8 =>
  (cp_gR L r8 4 3).bind fun r9 =>
  (cp_gR L k0 3 0).bind fun r10 =>
  (cp_gR L r10 4 3).bind fun r11 =>
  (cp_gI L y3.2 k1 1 5).bind fun v12 =>
  (cp_aI L y3.2 0 r11 v12).bind fun v13 =>
  (cp_aS L y3.2 0 r9 y3.1 v13).bind fun D14 =>
  (cp_gR L k0 3 0).bind fun r15 =>
  (cp_gR L r15 4 3).bind fun r16 =>
  (cp_gI L D14 k1 1 5).bind fun v17 =>
  (cp_aS L D14 0 r16 v17 (-1 : Int32)).bind fun D18 =>
  (cp_pI L D18 k1 1 5 y3.1).bind fun D19 =>
  some D19)
  else (some y3.2)
set_option maxHeartbeats 4000000 in
set_option maxRecDepth 100000 in
theorem ct_X3_goAhead (l : Launch) (G : va_G) (L : cp_Lay) (hJ : cp_J L) (q : Nat) (k0 : Nat) (k1 : Nat) (D : cp_Dt) (res : cp_Dt) (hF : fn_X3_goAhead L q k0 k1 D = some res) : cp_Met l G yX3_goAhead wsX3_goAhead ({ frames := 1, cells := 0, slots := 0, locals := 21 }) L ([.ref (L.2.1 k0), .ref (L.2.1 k1)] : List Value) D res none := by
  refine Met.ofW (cc := cX3_goAhead) (maxL := 3) (ret := none) (by decide) rfl ?_
  intro p e s m args below meth c s₁ B hml hv
  obtain ⟨rfl, hP, hK, hN, hZ⟩ := hv
  have hx := B.exec
  have hb := B.bytes
  have hr := B.returns
  have hts := atoms_spec (ws := wsX3_goAhead) B.pre
  have hown : s.vm.findClass "CreaturePond$Mind" = some m.cls := findClass_of_methodNamed B.named
  have hlocks := B.notSynchronized
  have hS : va_S (cp_A L) s.heap s.heap [] := va_S.rf
  have htT : ∀ w ∈ cp_T, w.before ([.ref (L.2.1 k0), .ref (L.2.1 k1)] : List Value).toArray s = true := fun w h => hts w (List.mem_cons_of_mem _ h)
  have hl := lv_entry (([.ref (L.2.1 k0), .ref (L.2.1 k1)] : List Value)) (n := 3) (Nat.le_of_ble_eq_true rfl)
  rw [lg_entry_eq]
  generalize (lg_sl (([.ref (L.2.1 k0), .ref (L.2.1 k1)] : List Value)) ++ List.replicate (3 - (lg_sl (([.ref (L.2.1 k0), .ref (L.2.1 k1)] : List Value))).length) Slot.unset).toArray = ls at hl ⊢
  have hl : lv_has ls 3 [(0, .ref (L.2.1 k0)), (1, .ref (L.2.1 k1))] := hl
  unfold fn_X3_goAhead at hF
  refine lv_aload_n hx hb dX3_goAhead_0 rfl (lv_at hl 0 rfl) ?_
  obtain ⟨r1, er1, hF⟩ := cp_bind hF
  refine cp_getR (T := TX3) (N := 1) (ci := 3) (j := 0) hx hb htT hinX3 hown hK hP rfl (by decide) rfl (htT _ tw_126) er1 dX3_goAhead_1 ?_
  refine lv_aload_n hx hb dX3_goAhead_4 rfl (lv_at hl 1 rfl) ?_
  obtain ⟨f2, ef2, hF⟩ := cp_bind hF
  obtain ⟨y3, ey3, hF⟩ := cp_bind hF
  refine cp_call (st1 := [.int y3.1]) (va_runVN (As := [.ref (L.2.1 k1)]) (rest := []) ⟨hx, hb, hml, hown, htT⟩ (ct_X4_aheadOf l G L hJ q r1 k1 D y3 ey3) ⟨va_cnB 1 htT gdX4_aheadOf rfl rfl rfl (hN _ (List.mem_of_getElem? (i := 75) rfl)) (htT _ tw_4) hdX4_aheadOf ⟨Nat.le_of_ble_eq_true rfl, Nat.le_of_ble_eq_true rfl⟩, (htT _ tw_284), (htT _ tw_551)⟩ ⟨cp_blind, cp_recv hK hP rfl ef2, cp_pre hP hK hN hZ hS⟩ rfl rfl hl.1 rfl (lv_room (Nat.le_of_ble_eq_true rfl)) dX3_goAhead_5 ⟨Nat.zero_le _, Nat.zero_le _⟩) hS (fun H locs hP hS => ?_)
  refine lv_istore_n (lv' := [(2, .int y3.1), (0, .ref (L.2.1 k0)), (1, .ref (L.2.1 k1))]) hx hb dX3_goAhead_8 rfl hl (by decide) rfl (fun ls hl => ?_)
  refine lv_aload_n hx hb dX3_goAhead_9 rfl (lv_at hl 1 rfl) ?_
  obtain ⟨r4, er4, hF⟩ := cp_bind hF
  refine cp_getR (T := TX3) (N := 1) (ci := 3) (j := 0) hx hb htT hinX3 hown hK hP rfl (by decide) rfl (htT _ tw_126) er4 dX3_goAhead_10 ?_
  obtain ⟨r5, er5, hF⟩ := cp_bind hF
  refine cp_getRN (T := TX4) (N := 12) (ci := 4) (j := 3) hx hb htT hinX4 hown hK hP rfl (by decide) rfl (hN _ (List.mem_of_getElem? (i := 42) rfl)) er5 dX3_goAhead_13 ?_
  refine lv_iload_n hx hb dX3_goAhead_16 rfl (lv_at hl 0 rfl) ?_
  obtain ⟨v6, ev6, hF⟩ := cp_bind hF
  refine cp_iald hx hb hK hP ev6 dX3_goAhead_17 ?_
  refine lv_iconst (v := (-1 : Int32)) hx hb dX3_goAhead_18 (by decide) ?_
  refine lv_icmp_ne (tgt := 61) hx hb dX3_goAhead_19 (by decide) (fun hc7 => ?_) (fun hc7 => ?_)
  · rw [if_neg hc7] at hF
    exact cp_vret hx hb hr hlocks hF hP hS dX3_goAhead_61
  · rw [if_pos hc7] at hF
    refine lv_aload_n hx hb dX3_goAhead_22 rfl (lv_at hl 1 rfl) ?_
    obtain ⟨r8, er8, hF⟩ := cp_bind hF
    refine cp_getR (T := TX3) (N := 1) (ci := 3) (j := 0) hx hb htT hinX3 hown hK hP rfl (by decide) rfl (htT _ tw_126) er8 dX3_goAhead_23 ?_
    obtain ⟨r9, er9, hF⟩ := cp_bind hF
    refine cp_getRN (T := TX4) (N := 12) (ci := 4) (j := 3) hx hb htT hinX4 hown hK hP rfl (by decide) rfl (hN _ (List.mem_of_getElem? (i := 42) rfl)) er9 dX3_goAhead_26 ?_
    refine lv_iload_n hx hb dX3_goAhead_29 rfl (lv_at hl 0 rfl) ?_
    refine lv_aload_n hx hb dX3_goAhead_30 rfl (lv_at hl 1 rfl) ?_
    obtain ⟨r10, er10, hF⟩ := cp_bind hF
    refine cp_getR (T := TX3) (N := 1) (ci := 3) (j := 0) hx hb htT hinX3 hown hK hP rfl (by decide) rfl (htT _ tw_126) er10 dX3_goAhead_31 ?_
    obtain ⟨r11, er11, hF⟩ := cp_bind hF
    refine cp_getRN (T := TX4) (N := 12) (ci := 4) (j := 3) hx hb htT hinX4 hown hK hP rfl (by decide) rfl (hN _ (List.mem_of_getElem? (i := 42) rfl)) er11 dX3_goAhead_34 ?_
    refine lv_aload_n hx hb dX3_goAhead_37 rfl (lv_at hl 2 rfl) ?_
    obtain ⟨v12, ev12, hF⟩ := cp_bind hF
    refine cp_getIN (T := TX1) (N := 14) (ci := 1) (j := 5) hx hb htT hinX1 hown hK hP rfl (by decide) rfl (hN _ (List.mem_of_getElem? (i := 18) rfl)) ev12 dX3_goAhead_38 ?_
    obtain ⟨v13, ev13, hF⟩ := cp_bind hF
    refine cp_iald hx hb hK hP ev13 dX3_goAhead_41 ?_
    obtain ⟨D14, eD14, hF⟩ := cp_bind hF
    refine cp_iast hx hb hK hJ hP hS eD14 dX3_goAhead_42 (fun H locs hP hS => ?_)
    refine lv_aload_n hx hb dX3_goAhead_43 rfl (lv_at hl 1 rfl) ?_
    obtain ⟨r15, er15, hF⟩ := cp_bind hF
    refine cp_getR (T := TX3) (N := 1) (ci := 3) (j := 0) hx hb htT hinX3 hown hK hP rfl (by decide) rfl (htT _ tw_126) er15 dX3_goAhead_44 ?_
    obtain ⟨r16, er16, hF⟩ := cp_bind hF
    refine cp_getRN (T := TX4) (N := 12) (ci := 4) (j := 3) hx hb htT hinX4 hown hK hP rfl (by decide) rfl (hN _ (List.mem_of_getElem? (i := 42) rfl)) er16 dX3_goAhead_47 ?_
    refine lv_aload_n hx hb dX3_goAhead_50 rfl (lv_at hl 2 rfl) ?_
    obtain ⟨v17, ev17, hF⟩ := cp_bind hF
    refine cp_getIN (T := TX1) (N := 14) (ci := 1) (j := 5) hx hb htT hinX1 hown hK hP rfl (by decide) rfl (hN _ (List.mem_of_getElem? (i := 18) rfl)) ev17 dX3_goAhead_51 ?_
    refine lv_iconst (v := (-1 : Int32)) hx hb dX3_goAhead_54 (by decide) ?_
    obtain ⟨D18, eD18, hF⟩ := cp_bind hF
    refine cp_iast hx hb hK hJ hP hS eD18 dX3_goAhead_55 (fun H locs hP hS => ?_)
    refine lv_aload_n hx hb dX3_goAhead_56 rfl (lv_at hl 2 rfl) ?_
    refine lv_iload_n hx hb dX3_goAhead_57 rfl (lv_at hl 0 rfl) ?_
    obtain ⟨D19, eD19, hF⟩ := cp_bind hF
    refine cp_putN (T := TX1) (N := 14) (ci := 1) (j := 5) hx hb htT hinX1 tyX1 tyX1_ok nmX1 hown hK hJ hP hS rfl (by decide) rfl (hN _ (List.mem_of_getElem? (i := 18) rfl)) rfl rfl rfl eD19 dX3_goAhead_58 (fun H locs hP hS => ?_)
    exact cp_vret hx hb hr hlocks hF hP hS dX3_goAhead_61
theorem dX3_eat_0 : decode cX3_eat 0 = .ok (.bipush 30, 2) := by decide +kernel
theorem dX3_eat_2 : decode cX3_eat 2 = .ok (.aload_n 0, 1) := by decide +kernel
theorem dX3_eat_3 : decode cX3_eat 3 = .ok (.getfield 11, 3) := by decide +kernel
theorem dX3_eat_6 : decode cX3_eat 6 = .ok (.getfield 104, 3) := by decide +kernel
theorem dX3_eat_9 : decode cX3_eat 9 = .ok (.aload_n 1, 1) := by decide +kernel
theorem dX3_eat_10 : decode cX3_eat 10 = .ok (.getfield 119, 3) := by decide +kernel
theorem dX3_eat_13 : decode cX3_eat 13 = .ok (.iaload, 1) := by decide +kernel
theorem dX3_eat_14 : decode cX3_eat 14 = .ok (.invokestatic 113, 3) := by decide +kernel
theorem dX3_eat_17 : decode cX3_eat 17 = .ok (.istore_n 2, 1) := by decide +kernel
theorem dX3_eat_18 : decode cX3_eat 18 = .ok (.aload_n 0, 1) := by decide +kernel
theorem dX3_eat_19 : decode cX3_eat 19 = .ok (.getfield 11, 3) := by decide +kernel
theorem dX3_eat_22 : decode cX3_eat 22 = .ok (.getfield 104, 3) := by decide +kernel
theorem dX3_eat_25 : decode cX3_eat 25 = .ok (.aload_n 1, 1) := by decide +kernel
theorem dX3_eat_26 : decode cX3_eat 26 = .ok (.getfield 119, 3) := by decide +kernel
theorem dX3_eat_29 : decode cX3_eat 29 = .ok (.dup2, 1) := by decide +kernel
theorem dX3_eat_30 : decode cX3_eat 30 = .ok (.iaload, 1) := by decide +kernel
theorem dX3_eat_31 : decode cX3_eat 31 = .ok (.iload_n 2, 1) := by decide +kernel
theorem dX3_eat_32 : decode cX3_eat 32 = .ok (.isub, 1) := by decide +kernel
theorem dX3_eat_33 : decode cX3_eat 33 = .ok (.iastore, 1) := by decide +kernel
theorem dX3_eat_34 : decode cX3_eat 34 = .ok (.aload_n 1, 1) := by decide +kernel
theorem dX3_eat_35 : decode cX3_eat 35 = .ok (.dup, 1) := by decide +kernel
theorem dX3_eat_36 : decode cX3_eat 36 = .ok (.getfield 42, 3) := by decide +kernel
theorem dX3_eat_39 : decode cX3_eat 39 = .ok (.iload_n 2, 1) := by decide +kernel
theorem dX3_eat_40 : decode cX3_eat 40 = .ok (.iadd, 1) := by decide +kernel
theorem dX3_eat_41 : decode cX3_eat 41 = .ok (.putfield 42, 3) := by decide +kernel
theorem dX3_eat_44 : decode cX3_eat 44 = .ok (.return_, 1) := by decide +kernel
def fn_X3_eat (L : cp_Lay) (q : Nat) (k0 : Nat) (k1 : Nat) (D : cp_Dt) : Option (cp_Dt) :=
  (cp_gR L k0 3 0).bind fun r1 =>
  (cp_gR L r1 4 1).bind fun r2 =>
  (cp_gI L D k1 1 5).bind fun v3 =>
  (cp_aI L D 0 r2 v3).bind fun v4 =>
  (cp_gR L k0 3 0).bind fun r5 =>
  (cp_gR L r5 4 1).bind fun r6 =>
  (cp_gI L D k1 1 5).bind fun v7 =>
  (cp_aI L D 0 r6 v7).bind fun v8 =>
  (cp_aS L D 0 r6 v7 (v8 - (cp_mn (30 : Int32) v4))).bind fun D9 =>
  (cp_gI L D9 k1 1 7).bind fun v10 =>
  (cp_pI L D9 k1 1 7 (v10 + (cp_mn (30 : Int32) v4))).bind fun D11 =>
  some D11
set_option maxHeartbeats 4000000 in
set_option maxRecDepth 100000 in
theorem ct_X3_eat (l : Launch) (G : va_G) (L : cp_Lay) (hJ : cp_J L) (q : Nat) (k0 : Nat) (k1 : Nat) (D : cp_Dt) (res : cp_Dt) (hF : fn_X3_eat L q k0 k1 D = some res) : cp_Met l G yX3_eat wsX3_eat ({ frames := 1, cells := 0, slots := 0, locals := 21 }) L ([.ref (L.2.1 k0), .ref (L.2.1 k1)] : List Value) D res none := by
  refine Met.ofW (cc := cX3_eat) (maxL := 3) (ret := none) (by decide) rfl ?_
  intro p e s m args below meth c s₁ B hml hv
  obtain ⟨rfl, hP, hK, hN, hZ⟩ := hv
  have hx := B.exec
  have hb := B.bytes
  have hr := B.returns
  have hts := atoms_spec (ws := wsX3_eat) B.pre
  have hown : s.vm.findClass "CreaturePond$Mind" = some m.cls := findClass_of_methodNamed B.named
  have hlocks := B.notSynchronized
  have hS : va_S (cp_A L) s.heap s.heap [] := va_S.rf
  have htT : ∀ w ∈ cp_T, w.before ([.ref (L.2.1 k0), .ref (L.2.1 k1)] : List Value).toArray s = true := fun w h => hts w (List.mem_cons_of_mem _ h)
  have hl := lv_entry (([.ref (L.2.1 k0), .ref (L.2.1 k1)] : List Value)) (n := 3) (Nat.le_of_ble_eq_true rfl)
  rw [lg_entry_eq]
  generalize (lg_sl (([.ref (L.2.1 k0), .ref (L.2.1 k1)] : List Value)) ++ List.replicate (3 - (lg_sl (([.ref (L.2.1 k0), .ref (L.2.1 k1)] : List Value))).length) Slot.unset).toArray = ls at hl ⊢
  have hl : lv_has ls 3 [(0, .ref (L.2.1 k0)), (1, .ref (L.2.1 k1))] := hl
  unfold fn_X3_eat at hF
  refine lv_bipush (v := (30 : Int32)) hx hb dX3_eat_0 (by decide) ?_
  refine lv_aload_n hx hb dX3_eat_2 rfl (lv_at hl 0 rfl) ?_
  obtain ⟨r1, er1, hF⟩ := cp_bind hF
  refine cp_getR (T := TX3) (N := 1) (ci := 3) (j := 0) hx hb htT hinX3 hown hK hP rfl (by decide) rfl (htT _ tw_126) er1 dX3_eat_3 ?_
  obtain ⟨r2, er2, hF⟩ := cp_bind hF
  refine cp_getRN (T := TX4) (N := 12) (ci := 4) (j := 1) hx hb htT hinX4 hown hK hP rfl (by decide) rfl (hN _ (List.mem_of_getElem? (i := 37) rfl)) er2 dX3_eat_6 ?_
  refine lv_aload_n hx hb dX3_eat_9 rfl (lv_at hl 1 rfl) ?_
  obtain ⟨v3, ev3, hF⟩ := cp_bind hF
  refine cp_getIN (T := TX1) (N := 14) (ci := 1) (j := 5) hx hb htT hinX1 hown hK hP rfl (by decide) rfl (hN _ (List.mem_of_getElem? (i := 18) rfl)) ev3 dX3_eat_10 ?_
  obtain ⟨v4, ev4, hF⟩ := cp_bind hF
  refine cp_iald hx hb hK hP ev4 dX3_eat_13 ?_
  refine va_mmin hx hb (by rw [hml]; exact hl.1.symm) hown (htT _ tw_289) (htT _ tw_27) (htT _ tw_3) (htT _ tw_28) (Nat.le_of_ble_eq_true rfl) (Nat.le_of_ble_eq_true rfl) (Nat.zero_le _) (Nat.zero_le _) dX3_eat_14 ?_
  refine lv_istore_n (lv' := [(2, .int (cp_mn (30 : Int32) v4)), (0, .ref (L.2.1 k0)), (1, .ref (L.2.1 k1))]) hx hb dX3_eat_17 rfl hl (by decide) rfl (fun ls hl => ?_)
  refine lv_aload_n hx hb dX3_eat_18 rfl (lv_at hl 1 rfl) ?_
  obtain ⟨r5, er5, hF⟩ := cp_bind hF
  refine cp_getR (T := TX3) (N := 1) (ci := 3) (j := 0) hx hb htT hinX3 hown hK hP rfl (by decide) rfl (htT _ tw_126) er5 dX3_eat_19 ?_
  obtain ⟨r6, er6, hF⟩ := cp_bind hF
  refine cp_getRN (T := TX4) (N := 12) (ci := 4) (j := 1) hx hb htT hinX4 hown hK hP rfl (by decide) rfl (hN _ (List.mem_of_getElem? (i := 37) rfl)) er6 dX3_eat_22 ?_
  refine lv_aload_n hx hb dX3_eat_25 rfl (lv_at hl 2 rfl) ?_
  obtain ⟨v7, ev7, hF⟩ := cp_bind hF
  refine cp_getIN (T := TX1) (N := 14) (ci := 1) (j := 5) hx hb htT hinX1 hown hK hP rfl (by decide) rfl (hN _ (List.mem_of_getElem? (i := 18) rfl)) ev7 dX3_eat_26 ?_
  refine lv_dup2_11 hx hb dX3_eat_29 rfl rfl ?_
  obtain ⟨v8, ev8, hF⟩ := cp_bind hF
  refine cp_iald hx hb hK hP ev8 dX3_eat_30 ?_
  refine lv_iload_n hx hb dX3_eat_31 rfl (lv_at hl 0 rfl) ?_
  refine lv_isub hx hb dX3_eat_32 ?_
  obtain ⟨D9, eD9, hF⟩ := cp_bind hF
  refine cp_iast hx hb hK hJ hP hS eD9 dX3_eat_33 (fun H locs hP hS => ?_)
  refine lv_aload_n hx hb dX3_eat_34 rfl (lv_at hl 2 rfl) ?_
  refine lv_dup hx hb dX3_eat_35 rfl ?_
  obtain ⟨v10, ev10, hF⟩ := cp_bind hF
  refine cp_getIN (T := TX1) (N := 14) (ci := 1) (j := 7) hx hb htT hinX1 hown hK hP rfl (by decide) rfl (hN _ (List.mem_of_getElem? (i := 23) rfl)) ev10 dX3_eat_36 ?_
  refine lv_iload_n hx hb dX3_eat_39 rfl (lv_at hl 0 rfl) ?_
  refine lv_iadd hx hb dX3_eat_40 ?_
  obtain ⟨D11, eD11, hF⟩ := cp_bind hF
  refine cp_putN (T := TX1) (N := 14) (ci := 1) (j := 7) hx hb htT hinX1 tyX1 tyX1_ok nmX1 hown hK hJ hP hS rfl (by decide) rfl (hN _ (List.mem_of_getElem? (i := 23) rfl)) rfl rfl rfl eD11 dX3_eat_41 (fun H locs hP hS => ?_)
  exact cp_vret hx hb hr hlocks hF hP hS dX3_eat_44
theorem dX3_give_0 : decode cX3_give 0 = .ok (.aload_n 0, 1) := by decide +kernel
theorem dX3_give_1 : decode cX3_give 1 = .ok (.getfield 11, 3) := by decide +kernel
theorem dX3_give_4 : decode cX3_give 4 = .ok (.getfield 101, 3) := by decide +kernel
theorem dX3_give_7 : decode cX3_give 7 = .ok (.aload_n 0, 1) := by decide +kernel
theorem dX3_give_8 : decode cX3_give 8 = .ok (.getfield 11, 3) := by decide +kernel
theorem dX3_give_11 : decode cX3_give 11 = .ok (.aload_n 1, 1) := by decide +kernel
theorem dX3_give_12 : decode cX3_give 12 = .ok (.invokevirtual 97, 3) := by decide +kernel
theorem dX3_give_15 : decode cX3_give 15 = .ok (.iaload, 1) := by decide +kernel
theorem dX3_give_16 : decode cX3_give 16 = .ok (.istore_n 3, 1) := by decide +kernel
theorem dX3_give_17 : decode cX3_give 17 = .ok (.iload_n 3, 1) := by decide +kernel
theorem dX3_give_18 : decode cX3_give 18 = .ok (.iconst (-1), 1) := by decide +kernel
theorem dX3_give_19 : decode cX3_give 19 = .ok (.if_icmp .eq 43, 3) := by decide +kernel
theorem dX3_give_22 : decode cX3_give 22 = .ok (.iload_n 2, 1) := by decide +kernel
theorem dX3_give_23 : decode cX3_give 23 = .ok (.aload_n 1, 1) := by decide +kernel
theorem dX3_give_24 : decode cX3_give 24 = .ok (.getfield 42, 3) := by decide +kernel
theorem dX3_give_27 : decode cX3_give 27 = .ok (.invokestatic 113, 3) := by decide +kernel
theorem dX3_give_30 : decode cX3_give 30 = .ok (.istore 4, 2) := by decide +kernel
theorem dX3_give_32 : decode cX3_give 32 = .ok (.aload_n 1, 1) := by decide +kernel
theorem dX3_give_33 : decode cX3_give 33 = .ok (.dup, 1) := by decide +kernel
theorem dX3_give_34 : decode cX3_give 34 = .ok (.getfield 42, 3) := by decide +kernel
theorem dX3_give_37 : decode cX3_give 37 = .ok (.iload 4, 2) := by decide +kernel
theorem dX3_give_39 : decode cX3_give 39 = .ok (.isub, 1) := by decide +kernel
theorem dX3_give_40 : decode cX3_give 40 = .ok (.putfield 42, 3) := by decide +kernel
theorem dX3_give_43 : decode cX3_give 43 = .ok (.aload_n 0, 1) := by decide +kernel
theorem dX3_give_44 : decode cX3_give 44 = .ok (.getfield 11, 3) := by decide +kernel
theorem dX3_give_47 : decode cX3_give 47 = .ok (.getfield 15, 3) := by decide +kernel
theorem dX3_give_50 : decode cX3_give 50 = .ok (.iload_n 3, 1) := by decide +kernel
theorem dX3_give_51 : decode cX3_give 51 = .ok (.aaload, 1) := by decide +kernel
theorem dX3_give_52 : decode cX3_give 52 = .ok (.dup, 1) := by decide +kernel
theorem dX3_give_53 : decode cX3_give 53 = .ok (.getfield 42, 3) := by decide +kernel
theorem dX3_give_56 : decode cX3_give 56 = .ok (.iload 4, 2) := by decide +kernel
theorem dX3_give_58 : decode cX3_give 58 = .ok (.iadd, 1) := by decide +kernel
theorem dX3_give_59 : decode cX3_give 59 = .ok (.putfield 42, 3) := by decide +kernel
theorem dX3_give_62 : decode cX3_give 62 = .ok (.return_, 1) := by decide +kernel
def fn_X3_give (L : cp_Lay) (q : Nat) (k0 : Nat) (k1 : Nat) (x2 : Int32) (D : cp_Dt) : Option (cp_Dt) :=
  (cp_gR L k0 3 0).bind fun r1 =>
  (cp_gR L r1 4 3).bind fun r2 =>
  (cp_gR L k0 3 0).bind fun r3 =>
  (cp_fl L r3 4).bind fun f4 =>
  (fn_X4_aheadOf L q r3 k1 D).bind fun y5 =>
  (cp_aI L y5.2 0 r2 y5.1).bind fun v6 =>
  if v6 = (-1 : Int32) then (some y5.2)
  else ((cp_gI L y5.2 k1 1 7).bind fun v8 =>
  (cp_gI L y5.2 k1 1 7).bind fun v9 =>
  (cp_pI L y5.2 k1 1 7 (v9 - (cp_mn x2 v8))).bind fun D10 =>
  (cp_gR L k0 3 0).bind fun r11 =>
  (cp_gR L r11 4 4).bind fun r12 =>
  (cp_aR L r12 v6).bind fun r13 =>
  (cp_gI L D10 r13 1 7).bind fun v14 =>
  (cp_pI L D10 r13 1 7 (v14 + (cp_mn x2 v8))).bind fun D15 =>
  some D15)
set_option maxHeartbeats 4000000 in
set_option maxRecDepth 100000 in
theorem ct_X3_give (l : Launch) (G : va_G) (L : cp_Lay) (hJ : cp_J L) (q : Nat) (k0 : Nat) (k1 : Nat) (x2 : Int32) (D : cp_Dt) (res : cp_Dt) (hF : fn_X3_give L q k0 k1 x2 D = some res) : cp_Met l G yX3_give wsX3_give ({ frames := 1, cells := 0, slots := 0, locals := 21 }) L ([.ref (L.2.1 k0), .ref (L.2.1 k1), .int x2] : List Value) D res none := by
  refine Met.ofW (cc := cX3_give) (maxL := 5) (ret := none) (by decide) rfl ?_
  intro p e s m args below meth c s₁ B hml hv
  obtain ⟨rfl, hP, hK, hN, hZ⟩ := hv
  have hx := B.exec
  have hb := B.bytes
  have hr := B.returns
  have hts := atoms_spec (ws := wsX3_give) B.pre
  have hown : s.vm.findClass "CreaturePond$Mind" = some m.cls := findClass_of_methodNamed B.named
  have hlocks := B.notSynchronized
  have hS : va_S (cp_A L) s.heap s.heap [] := va_S.rf
  have htT : ∀ w ∈ cp_T, w.before ([.ref (L.2.1 k0), .ref (L.2.1 k1), .int x2] : List Value).toArray s = true := fun w h => hts w (List.mem_cons_of_mem _ h)
  have hl := lv_entry (([.ref (L.2.1 k0), .ref (L.2.1 k1), .int x2] : List Value)) (n := 5) (Nat.le_of_ble_eq_true rfl)
  rw [lg_entry_eq]
  generalize (lg_sl (([.ref (L.2.1 k0), .ref (L.2.1 k1), .int x2] : List Value)) ++ List.replicate (5 - (lg_sl (([.ref (L.2.1 k0), .ref (L.2.1 k1), .int x2] : List Value))).length) Slot.unset).toArray = ls at hl ⊢
  have hl : lv_has ls 5 [(0, .ref (L.2.1 k0)), (1, .ref (L.2.1 k1)), (2, .int x2)] := hl
  unfold fn_X3_give at hF
  refine lv_aload_n hx hb dX3_give_0 rfl (lv_at hl 0 rfl) ?_
  obtain ⟨r1, er1, hF⟩ := cp_bind hF
  refine cp_getR (T := TX3) (N := 1) (ci := 3) (j := 0) hx hb htT hinX3 hown hK hP rfl (by decide) rfl (htT _ tw_126) er1 dX3_give_1 ?_
  obtain ⟨r2, er2, hF⟩ := cp_bind hF
  refine cp_getRN (T := TX4) (N := 12) (ci := 4) (j := 3) hx hb htT hinX4 hown hK hP rfl (by decide) rfl (hN _ (List.mem_of_getElem? (i := 42) rfl)) er2 dX3_give_4 ?_
  refine lv_aload_n hx hb dX3_give_7 rfl (lv_at hl 0 rfl) ?_
  obtain ⟨r3, er3, hF⟩ := cp_bind hF
  refine cp_getR (T := TX3) (N := 1) (ci := 3) (j := 0) hx hb htT hinX3 hown hK hP rfl (by decide) rfl (htT _ tw_126) er3 dX3_give_8 ?_
  refine lv_aload_n hx hb dX3_give_11 rfl (lv_at hl 1 rfl) ?_
  obtain ⟨f4, ef4, hF⟩ := cp_bind hF
  obtain ⟨y5, ey5, hF⟩ := cp_bind hF
  refine cp_call (st1 := [.int y5.1, .ref (L.2.1 r2)]) (va_runVN (As := [.ref (L.2.1 k1)]) (rest := [.ref (L.2.1 r2)]) ⟨hx, hb, hml, hown, htT⟩ (ct_X4_aheadOf l G L hJ q r3 k1 D y5 ey5) ⟨va_cnB 1 htT gdX4_aheadOf rfl rfl rfl (hN _ (List.mem_of_getElem? (i := 75) rfl)) (htT _ tw_4) hdX4_aheadOf ⟨Nat.le_of_ble_eq_true rfl, Nat.le_of_ble_eq_true rfl⟩, (htT _ tw_284), (htT _ tw_551)⟩ ⟨cp_blind, cp_recv hK hP rfl ef4, cp_pre hP hK hN hZ hS⟩ rfl rfl hl.1 rfl (lv_room (Nat.le_of_ble_eq_true rfl)) dX3_give_12 ⟨Nat.zero_le _, Nat.zero_le _⟩) hS (fun H locs hP hS => ?_)
  obtain ⟨v6, ev6, hF⟩ := cp_bind hF
  refine cp_iald hx hb hK hP ev6 dX3_give_15 ?_
  refine lv_istore_n (lv' := [(3, .int v6), (0, .ref (L.2.1 k0)), (1, .ref (L.2.1 k1)), (2, .int x2)]) hx hb dX3_give_16 rfl hl (by decide) rfl (fun ls hl => ?_)
  refine lv_iload_n hx hb dX3_give_17 rfl (lv_at hl 0 rfl) ?_
  refine lv_iconst (v := (-1 : Int32)) hx hb dX3_give_18 (by decide) ?_
  refine lv_icmp_eq (tgt := 62) hx hb dX3_give_19 (by decide) (fun hc7 => ?_) (fun hc7 => ?_)
  · rw [if_pos hc7] at hF
    exact cp_vret hx hb hr hlocks hF hP hS dX3_give_62
  · rw [if_neg hc7] at hF
    refine lv_iload_n hx hb dX3_give_22 rfl (lv_at hl 3 rfl) ?_
    refine lv_aload_n hx hb dX3_give_23 rfl (lv_at hl 2 rfl) ?_
    obtain ⟨v8, ev8, hF⟩ := cp_bind hF
    refine cp_getIN (T := TX1) (N := 14) (ci := 1) (j := 7) hx hb htT hinX1 hown hK hP rfl (by decide) rfl (hN _ (List.mem_of_getElem? (i := 23) rfl)) ev8 dX3_give_24 ?_
    refine va_mmin hx hb (by rw [hml]; exact hl.1.symm) hown (htT _ tw_289) (htT _ tw_27) (htT _ tw_3) (htT _ tw_28) (Nat.le_of_ble_eq_true rfl) (Nat.le_of_ble_eq_true rfl) (Nat.zero_le _) (Nat.zero_le _) dX3_give_27 ?_
    refine lv_istore (lv' := [(4, .int (cp_mn x2 v8)), (3, .int v6), (0, .ref (L.2.1 k0)), (1, .ref (L.2.1 k1)), (2, .int x2)]) hx hb dX3_give_30 hl (by decide) rfl (fun ls hl => ?_)
    refine lv_aload_n hx hb dX3_give_32 rfl (lv_at hl 3 rfl) ?_
    refine lv_dup hx hb dX3_give_33 rfl ?_
    obtain ⟨v9, ev9, hF⟩ := cp_bind hF
    refine cp_getIN (T := TX1) (N := 14) (ci := 1) (j := 7) hx hb htT hinX1 hown hK hP rfl (by decide) rfl (hN _ (List.mem_of_getElem? (i := 23) rfl)) ev9 dX3_give_34 ?_
    refine lv_iload hx hb dX3_give_37 (lv_at hl 0 rfl) ?_
    refine lv_isub hx hb dX3_give_39 ?_
    obtain ⟨D10, eD10, hF⟩ := cp_bind hF
    refine cp_putN (T := TX1) (N := 14) (ci := 1) (j := 7) hx hb htT hinX1 tyX1 tyX1_ok nmX1 hown hK hJ hP hS rfl (by decide) rfl (hN _ (List.mem_of_getElem? (i := 23) rfl)) rfl rfl rfl eD10 dX3_give_40 (fun H locs hP hS => ?_)
    refine lv_aload_n hx hb dX3_give_43 rfl (lv_at hl 2 rfl) ?_
    obtain ⟨r11, er11, hF⟩ := cp_bind hF
    refine cp_getR (T := TX3) (N := 1) (ci := 3) (j := 0) hx hb htT hinX3 hown hK hP rfl (by decide) rfl (htT _ tw_126) er11 dX3_give_44 ?_
    obtain ⟨r12, er12, hF⟩ := cp_bind hF
    refine cp_getRN (T := TX4) (N := 12) (ci := 4) (j := 4) hx hb htT hinX4 hown hK hP rfl (by decide) rfl (hN _ (List.mem_of_getElem? (i := 43) rfl)) er12 dX3_give_47 ?_
    refine lv_iload_n hx hb dX3_give_50 rfl (lv_at hl 1 rfl) ?_
    obtain ⟨r13, er13, hF⟩ := cp_bind hF
    refine cp_aald hx hb hK hP er13 dX3_give_51 ?_
    refine lv_dup hx hb dX3_give_52 rfl ?_
    obtain ⟨v14, ev14, hF⟩ := cp_bind hF
    refine cp_getIN (T := TX1) (N := 14) (ci := 1) (j := 7) hx hb htT hinX1 hown hK hP rfl (by decide) rfl (hN _ (List.mem_of_getElem? (i := 23) rfl)) ev14 dX3_give_53 ?_
    refine lv_iload hx hb dX3_give_56 (lv_at hl 0 rfl) ?_
    refine lv_iadd hx hb dX3_give_58 ?_
    obtain ⟨D15, eD15, hF⟩ := cp_bind hF
    refine cp_putN (T := TX1) (N := 14) (ci := 1) (j := 7) hx hb htT hinX1 tyX1 tyX1_ok nmX1 hown hK hJ hP hS rfl (by decide) rfl (hN _ (List.mem_of_getElem? (i := 23) rfl)) rfl rfl rfl eD15 dX3_give_59 (fun H locs hP hS => ?_)
    exact cp_vret hx hb hr hlocks hF hP hS dX3_give_62
theorem dX3_memoryIndex_0 : decode cX3_memoryIndex 0 = .ok (.aload_n 1, 1) := by decide +kernel
theorem dX3_memoryIndex_1 : decode cX3_memoryIndex 1 = .ok (.getfield 79, 3) := by decide +kernel
theorem dX3_memoryIndex_4 : decode cX3_memoryIndex 4 = .ok (.iload_n 2, 1) := by decide +kernel
theorem dX3_memoryIndex_5 : decode cX3_memoryIndex 5 = .ok (.bipush 7, 2) := by decide +kernel
theorem dX3_memoryIndex_7 : decode cX3_memoryIndex 7 = .ok (.iand, 1) := by decide +kernel
theorem dX3_memoryIndex_8 : decode cX3_memoryIndex 8 = .ok (.baload, 1) := by decide +kernel
theorem dX3_memoryIndex_9 : decode cX3_memoryIndex 9 = .ok (.bipush 15, 2) := by decide +kernel
theorem dX3_memoryIndex_11 : decode cX3_memoryIndex 11 = .ok (.iand, 1) := by decide +kernel
theorem dX3_memoryIndex_12 : decode cX3_memoryIndex 12 = .ok (.ireturn, 1) := by decide +kernel
def fn_X3_memoryIndex (L : cp_Lay) (q : Nat) (k0 : Nat) (k1 : Nat) (x2 : Int32) (D : cp_Dt) : Option (Int32 × cp_Dt) :=
  (cp_gR L k1 1 0).bind fun r1 =>
  (cp_aI L D 1 r1 (x2 &&& (7 : Int32))).bind fun v2 =>
  some ((v2 &&& (15 : Int32)), D)
set_option maxHeartbeats 4000000 in
set_option maxRecDepth 100000 in
theorem ct_X3_memoryIndex (l : Launch) (G : va_G) (L : cp_Lay) (hJ : cp_J L) (q : Nat) (k0 : Nat) (k1 : Nat) (x2 : Int32) (D : cp_Dt) (res : Int32 × cp_Dt) (hF : fn_X3_memoryIndex L q k0 k1 x2 D = some res) : cp_Met l G yX3_memoryIndex wsX3_memoryIndex ({ frames := 0, cells := 0, slots := 0, locals := 0 }) L ([.ref (L.2.1 k0), .ref (L.2.1 k1), .int x2] : List Value) D res.2 (some (.int res.1)) := by
  refine Met.ofW (cc := cX3_memoryIndex) (maxL := 3) (ret := (some .int)) (by decide) rfl ?_
  intro p e s m args below meth c s₁ B hml hv
  obtain ⟨rfl, hP, hK, hN, hZ⟩ := hv
  have hx := B.exec
  have hb := B.bytes
  have hr := B.returns
  have hts := atoms_spec (ws := wsX3_memoryIndex) B.pre
  have hown : s.vm.findClass "CreaturePond$Mind" = some m.cls := findClass_of_methodNamed B.named
  have hlocks := B.notSynchronized
  have hS : va_S (cp_A L) s.heap s.heap [] := va_S.rf
  have htT : ∀ w ∈ cp_T, w.before ([.ref (L.2.1 k0), .ref (L.2.1 k1), .int x2] : List Value).toArray s = true := fun w h => hts w (List.mem_cons_of_mem _ h)
  have hl := lv_entry (([.ref (L.2.1 k0), .ref (L.2.1 k1), .int x2] : List Value)) (n := 3) (Nat.le_of_ble_eq_true rfl)
  rw [lg_entry_eq]
  generalize (lg_sl (([.ref (L.2.1 k0), .ref (L.2.1 k1), .int x2] : List Value)) ++ List.replicate (3 - (lg_sl (([.ref (L.2.1 k0), .ref (L.2.1 k1), .int x2] : List Value))).length) Slot.unset).toArray = ls at hl ⊢
  have hl : lv_has ls 3 [(0, .ref (L.2.1 k0)), (1, .ref (L.2.1 k1)), (2, .int x2)] := hl
  unfold fn_X3_memoryIndex at hF
  refine lv_aload_n hx hb dX3_memoryIndex_0 rfl (lv_at hl 1 rfl) ?_
  obtain ⟨r1, er1, hF⟩ := cp_bind hF
  refine cp_getRN (T := TX1) (N := 14) (ci := 1) (j := 0) hx hb htT hinX1 hown hK hP rfl (by decide) rfl (hN _ (List.mem_of_getElem? (i := 5) rfl)) er1 dX3_memoryIndex_1 ?_
  refine lv_iload_n hx hb dX3_memoryIndex_4 rfl (lv_at hl 2 rfl) ?_
  refine lv_bipush (v := (7 : Int32)) hx hb dX3_memoryIndex_5 (by decide) ?_
  refine lv_iand hx hb dX3_memoryIndex_7 ?_
  obtain ⟨v2, ev2, hF⟩ := cp_bind hF
  refine cp_bald hx hb hK hP ev2 dX3_memoryIndex_8 ?_
  refine lv_bipush (v := (15 : Int32)) hx hb dX3_memoryIndex_9 (by decide) ?_
  refine lv_iand hx hb dX3_memoryIndex_11 ?_
  exact cp_iret hx hb hr hlocks hF hP hS dX3_memoryIndex_12
theorem dX3_jump_0 : decode cX3_jump 0 = .ok (.aload_n 1, 1) := by decide +kernel
theorem dX3_jump_1 : decode cX3_jump 1 = .ok (.aload_n 1, 1) := by decide +kernel
theorem dX3_jump_2 : decode cX3_jump 2 = .ok (.iload_n 2, 1) := by decide +kernel
theorem dX3_jump_3 : decode cX3_jump 3 = .ok (.sipush 255, 3) := by decide +kernel
theorem dX3_jump_6 : decode cX3_jump 6 = .ok (.iand, 1) := by decide +kernel
theorem dX3_jump_7 : decode cX3_jump 7 = .ok (.invokevirtual 63, 3) := by decide +kernel
theorem dX3_jump_10 : decode cX3_jump 10 = .ok (.putfield 56, 3) := by decide +kernel
theorem dX3_jump_13 : decode cX3_jump 13 = .ok (.return_, 1) := by decide +kernel
def fn_X3_jump (L : cp_Lay) (q : Nat) (k0 : Nat) (k1 : Nat) (x2 : Int32) (D : cp_Dt) : Option (cp_Dt) :=
  (cp_fl L k1 1).bind fun f1 =>
  (fn_X1_wrapped L q k1 (x2 &&& (255 : Int32)) D).bind fun y2 =>
  (cp_pI L y2.2 k1 1 10 y2.1).bind fun D3 =>
  some D3
set_option maxHeartbeats 4000000 in
set_option maxRecDepth 100000 in
theorem ct_X3_jump (l : Launch) (G : va_G) (L : cp_Lay) (hJ : cp_J L) (q : Nat) (k0 : Nat) (k1 : Nat) (x2 : Int32) (D : cp_Dt) (res : cp_Dt) (hF : fn_X3_jump L q k0 k1 x2 D = some res) : cp_Met l G yX3_jump wsX3_jump ({ frames := 1, cells := 0, slots := 0, locals := 21 }) L ([.ref (L.2.1 k0), .ref (L.2.1 k1), .int x2] : List Value) D res none := by
  refine Met.ofW (cc := cX3_jump) (maxL := 3) (ret := none) (by decide) rfl ?_
  intro p e s m args below meth c s₁ B hml hv
  obtain ⟨rfl, hP, hK, hN, hZ⟩ := hv
  have hx := B.exec
  have hb := B.bytes
  have hr := B.returns
  have hts := atoms_spec (ws := wsX3_jump) B.pre
  have hown : s.vm.findClass "CreaturePond$Mind" = some m.cls := findClass_of_methodNamed B.named
  have hlocks := B.notSynchronized
  have hS : va_S (cp_A L) s.heap s.heap [] := va_S.rf
  have htT : ∀ w ∈ cp_T, w.before ([.ref (L.2.1 k0), .ref (L.2.1 k1), .int x2] : List Value).toArray s = true := fun w h => hts w (List.mem_cons_of_mem _ h)
  have hl := lv_entry (([.ref (L.2.1 k0), .ref (L.2.1 k1), .int x2] : List Value)) (n := 3) (Nat.le_of_ble_eq_true rfl)
  rw [lg_entry_eq]
  generalize (lg_sl (([.ref (L.2.1 k0), .ref (L.2.1 k1), .int x2] : List Value)) ++ List.replicate (3 - (lg_sl (([.ref (L.2.1 k0), .ref (L.2.1 k1), .int x2] : List Value))).length) Slot.unset).toArray = ls at hl ⊢
  have hl : lv_has ls 3 [(0, .ref (L.2.1 k0)), (1, .ref (L.2.1 k1)), (2, .int x2)] := hl
  unfold fn_X3_jump at hF
  refine lv_aload_n hx hb dX3_jump_0 rfl (lv_at hl 1 rfl) ?_
  refine lv_aload_n hx hb dX3_jump_1 rfl (lv_at hl 1 rfl) ?_
  refine lv_iload_n hx hb dX3_jump_2 rfl (lv_at hl 2 rfl) ?_
  refine lv_sipush (v := (255 : Int32)) hx hb dX3_jump_3 (by decide) ?_
  refine lv_iand hx hb dX3_jump_6 ?_
  obtain ⟨f1, ef1, hF⟩ := cp_bind hF
  obtain ⟨y2, ey2, hF⟩ := cp_bind hF
  refine cp_call (st1 := [.int y2.1, .ref (L.2.1 k1)]) (va_runVN (As := [.int (x2 &&& (255 : Int32))]) (rest := [.ref (L.2.1 k1)]) ⟨hx, hb, hml, hown, htT⟩ (ct_X1_wrapped l G L hJ q k1 (x2 &&& (255 : Int32)) D y2 ey2) ⟨va_cnB 1 htT gdX1_wrapped rfl rfl rfl (hN _ (List.mem_of_getElem? (i := 74) rfl)) (htT _ tw_5) hdX1_wrapped ⟨Nat.le_of_ble_eq_true rfl, Nat.le_of_ble_eq_true rfl⟩, (htT _ tw_275), (htT _ tw_548)⟩ ⟨cp_blind, cp_recv hK hP rfl ef1, cp_pre hP hK hN hZ hS⟩ rfl rfl hl.1 rfl (lv_room (Nat.le_of_ble_eq_true rfl)) dX3_jump_7 ⟨Nat.zero_le _, Nat.zero_le _⟩) hS (fun H locs hP hS => ?_)
  obtain ⟨D3, eD3, hF⟩ := cp_bind hF
  refine cp_putN (T := TX1) (N := 14) (ci := 1) (j := 10) hx hb htT hinX1 tyX1 tyX1_ok nmX1 hown hK hJ hP hS rfl (by decide) rfl (hN _ (List.mem_of_getElem? (i := 31) rfl)) rfl rfl rfl eD3 dX3_jump_10 (fun H locs hP hS => ?_)
  exact cp_vret hx hb hr hlocks hF hP hS dX3_jump_13
theorem dX3_seenAhead_0 : decode cX3_seenAhead 0 = .ok (.aload_n 0, 1) := by decide +kernel
theorem dX3_seenAhead_1 : decode cX3_seenAhead 1 = .ok (.getfield 11, 3) := by decide +kernel
theorem dX3_seenAhead_4 : decode cX3_seenAhead 4 = .ok (.aload_n 1, 1) := by decide +kernel
theorem dX3_seenAhead_5 : decode cX3_seenAhead 5 = .ok (.invokevirtual 97, 3) := by decide +kernel
theorem dX3_seenAhead_8 : decode cX3_seenAhead 8 = .ok (.istore_n 3, 1) := by decide +kernel
theorem dX3_seenAhead_9 : decode cX3_seenAhead 9 = .ok (.aload_n 0, 1) := by decide +kernel
theorem dX3_seenAhead_10 : decode cX3_seenAhead 10 = .ok (.getfield 11, 3) := by decide +kernel
theorem dX3_seenAhead_13 : decode cX3_seenAhead 13 = .ok (.getfield 101, 3) := by decide +kernel
theorem dX3_seenAhead_16 : decode cX3_seenAhead 16 = .ok (.iload_n 3, 1) := by decide +kernel
theorem dX3_seenAhead_17 : decode cX3_seenAhead 17 = .ok (.iaload, 1) := by decide +kernel
theorem dX3_seenAhead_18 : decode cX3_seenAhead 18 = .ok (.istore 4, 2) := by decide +kernel
theorem dX3_seenAhead_20 : decode cX3_seenAhead 20 = .ok (.iload_n 2, 1) := by decide +kernel
theorem dX3_seenAhead_21 : decode cX3_seenAhead 21 = .ok (.tableswitch 61 0 2 #[27, 39, 51], 27) := by decide +kernel
theorem dX3_seenAhead_48 : decode cX3_seenAhead 48 = .ok (.aload_n 0, 1) := by decide +kernel
theorem dX3_seenAhead_49 : decode cX3_seenAhead 49 = .ok (.getfield 11, 3) := by decide +kernel
theorem dX3_seenAhead_52 : decode cX3_seenAhead 52 = .ok (.getfield 104, 3) := by decide +kernel
theorem dX3_seenAhead_55 : decode cX3_seenAhead 55 = .ok (.iload_n 3, 1) := by decide +kernel
theorem dX3_seenAhead_56 : decode cX3_seenAhead 56 = .ok (.iaload, 1) := by decide +kernel
theorem dX3_seenAhead_57 : decode cX3_seenAhead 57 = .ok (.iconst 1, 1) := by decide +kernel
theorem dX3_seenAhead_58 : decode cX3_seenAhead 58 = .ok (.ishr, 1) := by decide +kernel
theorem dX3_seenAhead_59 : decode cX3_seenAhead 59 = .ok (.ireturn, 1) := by decide +kernel
theorem dX3_seenAhead_60 : decode cX3_seenAhead 60 = .ok (.iload 4, 2) := by decide +kernel
theorem dX3_seenAhead_62 : decode cX3_seenAhead 62 = .ok (.iconst (-1), 1) := by decide +kernel
theorem dX3_seenAhead_63 : decode cX3_seenAhead 63 = .ok (.if_icmp .ne 7, 3) := by decide +kernel
theorem dX3_seenAhead_66 : decode cX3_seenAhead 66 = .ok (.iconst 0, 1) := by decide +kernel
theorem dX3_seenAhead_67 : decode cX3_seenAhead 67 = .ok (.goto 4, 3) := by decide +kernel
theorem dX3_seenAhead_70 : decode cX3_seenAhead 70 = .ok (.iconst 1, 1) := by decide +kernel
theorem dX3_seenAhead_71 : decode cX3_seenAhead 71 = .ok (.ireturn, 1) := by decide +kernel
theorem dX3_seenAhead_72 : decode cX3_seenAhead 72 = .ok (.aload_n 0, 1) := by decide +kernel
theorem dX3_seenAhead_73 : decode cX3_seenAhead 73 = .ok (.getfield 11, 3) := by decide +kernel
theorem dX3_seenAhead_76 : decode cX3_seenAhead 76 = .ok (.getfield 107, 3) := by decide +kernel
theorem dX3_seenAhead_79 : decode cX3_seenAhead 79 = .ok (.iload_n 3, 1) := by decide +kernel
theorem dX3_seenAhead_80 : decode cX3_seenAhead 80 = .ok (.baload, 1) := by decide +kernel
theorem dX3_seenAhead_81 : decode cX3_seenAhead 81 = .ok (.ireturn, 1) := by decide +kernel
theorem dX3_seenAhead_82 : decode cX3_seenAhead 82 = .ok (.iload 4, 2) := by decide +kernel
theorem dX3_seenAhead_84 : decode cX3_seenAhead 84 = .ok (.iconst (-1), 1) := by decide +kernel
theorem dX3_seenAhead_85 : decode cX3_seenAhead 85 = .ok (.if_icmp .ne 7, 3) := by decide +kernel
theorem dX3_seenAhead_88 : decode cX3_seenAhead 88 = .ok (.iconst (-1), 1) := by decide +kernel
theorem dX3_seenAhead_89 : decode cX3_seenAhead 89 = .ok (.goto 16, 3) := by decide +kernel
theorem dX3_seenAhead_92 : decode cX3_seenAhead 92 = .ok (.aload_n 0, 1) := by decide +kernel
theorem dX3_seenAhead_93 : decode cX3_seenAhead 93 = .ok (.getfield 11, 3) := by decide +kernel
theorem dX3_seenAhead_96 : decode cX3_seenAhead 96 = .ok (.getfield 15, 3) := by decide +kernel
theorem dX3_seenAhead_99 : decode cX3_seenAhead 99 = .ok (.iload 4, 2) := by decide +kernel
theorem dX3_seenAhead_101 : decode cX3_seenAhead 101 = .ok (.aaload, 1) := by decide +kernel
theorem dX3_seenAhead_102 : decode cX3_seenAhead 102 = .ok (.getfield 110, 3) := by decide +kernel
theorem dX3_seenAhead_105 : decode cX3_seenAhead 105 = .ok (.ireturn, 1) := by decide +kernel
def fn_X3_seenAhead (L : cp_Lay) (q : Nat) (k0 : Nat) (k1 : Nat) (x2 : Int32) (D : cp_Dt) : Option (Int32 × cp_Dt) :=
  (cp_gR L k0 3 0).bind fun r1 =>
  (cp_fl L r1 4).bind fun f2 =>
  (fn_X4_aheadOf L q r1 k1 D).bind fun y3 =>
  (cp_gR L k0 3 0).bind fun r4 =>
  (cp_gR L r4 4 3).bind fun r5 =>
  (cp_aI L y3.2 0 r5 y3.1).bind fun v6 =>
  if x2 = (0 : Int32) then ((cp_gR L k0 3 0).bind fun r8 =>
  (cp_gR L r8 4 1).bind fun r9 =>
  (cp_aI L y3.2 0 r9 y3.1).bind fun v10 =>
  some ((v10 >>> ((1 : Int32) &&& 31)), y3.2))
  else if x2 = (1 : Int32) then (if v6 = (-1 : Int32) then (some ((0 : Int32), y3.2))
  else (some ((1 : Int32), y3.2)))
  else if x2 = (2 : Int32) then ((cp_gR L k0 3 0).bind fun r14 =>
  (cp_gR L r14 4 2).bind fun r15 =>
  (cp_aI L y3.2 1 r15 y3.1).bind fun v16 =>
  some (v16, y3.2))
  else (if v6 = (-1 : Int32) then (some ((-1 : Int32), y3.2))
  else ((cp_gR L k0 3 0).bind fun r18 =>
  (cp_gR L r18 4 4).bind fun r19 =>
  (cp_aR L r19 v6).bind fun r20 =>
  (cp_gI L y3.2 r20 1 6).bind fun v21 =>
  some (v21, y3.2)))
set_option maxHeartbeats 4000000 in
set_option maxRecDepth 100000 in
theorem ct_X3_seenAhead (l : Launch) (G : va_G) (L : cp_Lay) (hJ : cp_J L) (q : Nat) (k0 : Nat) (k1 : Nat) (x2 : Int32) (D : cp_Dt) (res : Int32 × cp_Dt) (hF : fn_X3_seenAhead L q k0 k1 x2 D = some res) : cp_Met l G yX3_seenAhead wsX3_seenAhead ({ frames := 1, cells := 0, slots := 0, locals := 21 }) L ([.ref (L.2.1 k0), .ref (L.2.1 k1), .int x2] : List Value) D res.2 (some (.int res.1)) := by
  refine Met.ofW (cc := cX3_seenAhead) (maxL := 5) (ret := (some .int)) (by decide) rfl ?_
  intro p e s m args below meth c s₁ B hml hv
  obtain ⟨rfl, hP, hK, hN, hZ⟩ := hv
  have hx := B.exec
  have hb := B.bytes
  have hr := B.returns
  have hts := atoms_spec (ws := wsX3_seenAhead) B.pre
  have hown : s.vm.findClass "CreaturePond$Mind" = some m.cls := findClass_of_methodNamed B.named
  have hlocks := B.notSynchronized
  have hS : va_S (cp_A L) s.heap s.heap [] := va_S.rf
  have htT : ∀ w ∈ cp_T, w.before ([.ref (L.2.1 k0), .ref (L.2.1 k1), .int x2] : List Value).toArray s = true := fun w h => hts w (List.mem_cons_of_mem _ h)
  have hl := lv_entry (([.ref (L.2.1 k0), .ref (L.2.1 k1), .int x2] : List Value)) (n := 5) (Nat.le_of_ble_eq_true rfl)
  rw [lg_entry_eq]
  generalize (lg_sl (([.ref (L.2.1 k0), .ref (L.2.1 k1), .int x2] : List Value)) ++ List.replicate (5 - (lg_sl (([.ref (L.2.1 k0), .ref (L.2.1 k1), .int x2] : List Value))).length) Slot.unset).toArray = ls at hl ⊢
  have hl : lv_has ls 5 [(0, .ref (L.2.1 k0)), (1, .ref (L.2.1 k1)), (2, .int x2)] := hl
  unfold fn_X3_seenAhead at hF
  refine lv_aload_n hx hb dX3_seenAhead_0 rfl (lv_at hl 0 rfl) ?_
  obtain ⟨r1, er1, hF⟩ := cp_bind hF
  refine cp_getR (T := TX3) (N := 1) (ci := 3) (j := 0) hx hb htT hinX3 hown hK hP rfl (by decide) rfl (htT _ tw_126) er1 dX3_seenAhead_1 ?_
  refine lv_aload_n hx hb dX3_seenAhead_4 rfl (lv_at hl 1 rfl) ?_
  obtain ⟨f2, ef2, hF⟩ := cp_bind hF
  obtain ⟨y3, ey3, hF⟩ := cp_bind hF
  refine cp_call (st1 := [.int y3.1]) (va_runVN (As := [.ref (L.2.1 k1)]) (rest := []) ⟨hx, hb, hml, hown, htT⟩ (ct_X4_aheadOf l G L hJ q r1 k1 D y3 ey3) ⟨va_cnB 1 htT gdX4_aheadOf rfl rfl rfl (hN _ (List.mem_of_getElem? (i := 75) rfl)) (htT _ tw_4) hdX4_aheadOf ⟨Nat.le_of_ble_eq_true rfl, Nat.le_of_ble_eq_true rfl⟩, (htT _ tw_284), (htT _ tw_551)⟩ ⟨cp_blind, cp_recv hK hP rfl ef2, cp_pre hP hK hN hZ hS⟩ rfl rfl hl.1 rfl (lv_room (Nat.le_of_ble_eq_true rfl)) dX3_seenAhead_5 ⟨Nat.zero_le _, Nat.zero_le _⟩) hS (fun H locs hP hS => ?_)
  refine lv_istore_n (lv' := [(3, .int y3.1), (0, .ref (L.2.1 k0)), (1, .ref (L.2.1 k1)), (2, .int x2)]) hx hb dX3_seenAhead_8 rfl hl (by decide) rfl (fun ls hl => ?_)
  refine lv_aload_n hx hb dX3_seenAhead_9 rfl (lv_at hl 1 rfl) ?_
  obtain ⟨r4, er4, hF⟩ := cp_bind hF
  refine cp_getR (T := TX3) (N := 1) (ci := 3) (j := 0) hx hb htT hinX3 hown hK hP rfl (by decide) rfl (htT _ tw_126) er4 dX3_seenAhead_10 ?_
  obtain ⟨r5, er5, hF⟩ := cp_bind hF
  refine cp_getRN (T := TX4) (N := 12) (ci := 4) (j := 3) hx hb htT hinX4 hown hK hP rfl (by decide) rfl (hN _ (List.mem_of_getElem? (i := 42) rfl)) er5 dX3_seenAhead_13 ?_
  refine lv_iload_n hx hb dX3_seenAhead_16 rfl (lv_at hl 0 rfl) ?_
  obtain ⟨v6, ev6, hF⟩ := cp_bind hF
  refine cp_iald hx hb hK hP ev6 dX3_seenAhead_17 ?_
  refine lv_istore (lv' := [(4, .int v6), (3, .int y3.1), (0, .ref (L.2.1 k0)), (1, .ref (L.2.1 k1)), (2, .int x2)]) hx hb dX3_seenAhead_18 hl (by decide) rfl (fun ls hl => ?_)
  refine lv_iload_n hx hb dX3_seenAhead_20 rfl (lv_at hl 4 rfl) ?_
  by_cases hc7 : x2 = (0 : Int32)
  · rw [if_pos hc7] at hF
    refine lv_tableIn (tgt := 48) hx hb dX3_seenAhead_21 (by rw [hc7]; decide) (by rw [hc7]; decide) (by rw [hc7]; rfl) (by decide) ?_
    refine lv_aload_n hx hb dX3_seenAhead_48 rfl (lv_at hl 2 rfl) ?_
    obtain ⟨r8, er8, hF⟩ := cp_bind hF
    refine cp_getR (T := TX3) (N := 1) (ci := 3) (j := 0) hx hb htT hinX3 hown hK hP rfl (by decide) rfl (htT _ tw_126) er8 dX3_seenAhead_49 ?_
    obtain ⟨r9, er9, hF⟩ := cp_bind hF
    refine cp_getRN (T := TX4) (N := 12) (ci := 4) (j := 1) hx hb htT hinX4 hown hK hP rfl (by decide) rfl (hN _ (List.mem_of_getElem? (i := 37) rfl)) er9 dX3_seenAhead_52 ?_
    refine lv_iload_n hx hb dX3_seenAhead_55 rfl (lv_at hl 1 rfl) ?_
    obtain ⟨v10, ev10, hF⟩ := cp_bind hF
    refine cp_iald hx hb hK hP ev10 dX3_seenAhead_56 ?_
    refine lv_iconst (v := (1 : Int32)) hx hb dX3_seenAhead_57 (by decide) ?_
    refine lv_ishr hx hb dX3_seenAhead_58 ?_
    exact cp_iret hx hb hr hlocks hF hP hS dX3_seenAhead_59
  · rw [if_neg hc7] at hF
    by_cases hc11 : x2 = (1 : Int32)
    · rw [if_pos hc11] at hF
      refine lv_tableIn (tgt := 60) hx hb dX3_seenAhead_21 (by rw [hc11]; decide) (by rw [hc11]; decide) (by rw [hc11]; rfl) (by decide) ?_
      refine lv_iload hx hb dX3_seenAhead_60 (lv_at hl 0 rfl) ?_
      refine lv_iconst (v := (-1 : Int32)) hx hb dX3_seenAhead_62 (by decide) ?_
      refine lv_icmp_ne (tgt := 70) hx hb dX3_seenAhead_63 (by decide) (fun hc12 => ?_) (fun hc12 => ?_)
      · rw [if_neg hc12] at hF
        refine lv_iconst (v := (1 : Int32)) hx hb dX3_seenAhead_70 (by decide) ?_
        exact cp_iret hx hb hr hlocks hF hP hS dX3_seenAhead_71
      · rw [if_pos hc12] at hF
        refine lv_iconst (v := (0 : Int32)) hx hb dX3_seenAhead_66 (by decide) ?_
        refine lv_goto (tgt := 71) hx hb dX3_seenAhead_67 (by decide) ?_
        exact cp_iret hx hb hr hlocks hF hP hS dX3_seenAhead_71
    · rw [if_neg hc11] at hF
      by_cases hc13 : x2 = (2 : Int32)
      · rw [if_pos hc13] at hF
        refine lv_tableIn (tgt := 72) hx hb dX3_seenAhead_21 (by rw [hc13]; decide) (by rw [hc13]; decide) (by rw [hc13]; rfl) (by decide) ?_
        refine lv_aload_n hx hb dX3_seenAhead_72 rfl (lv_at hl 2 rfl) ?_
        obtain ⟨r14, er14, hF⟩ := cp_bind hF
        refine cp_getR (T := TX3) (N := 1) (ci := 3) (j := 0) hx hb htT hinX3 hown hK hP rfl (by decide) rfl (htT _ tw_126) er14 dX3_seenAhead_73 ?_
        obtain ⟨r15, er15, hF⟩ := cp_bind hF
        refine cp_getRN (T := TX4) (N := 12) (ci := 4) (j := 2) hx hb htT hinX4 hown hK hP rfl (by decide) rfl (hN _ (List.mem_of_getElem? (i := 39) rfl)) er15 dX3_seenAhead_76 ?_
        refine lv_iload_n hx hb dX3_seenAhead_79 rfl (lv_at hl 1 rfl) ?_
        obtain ⟨v16, ev16, hF⟩ := cp_bind hF
        refine cp_bald hx hb hK hP ev16 dX3_seenAhead_80 ?_
        exact cp_iret hx hb hr hlocks hF hP hS dX3_seenAhead_81
      · rw [if_neg hc13] at hF
        have zhc7 := lv_neT (a := 0) hc7 (by decide)
        have zhc11 := lv_neT (a := 1) hc11 (by decide)
        have zhc13 := lv_neT (a := 2) hc13 (by decide)
        refine lv_tableOut (tgt := 82) hx hb dX3_seenAhead_21 (by omega) (by decide) ?_
        refine lv_iload hx hb dX3_seenAhead_82 (lv_at hl 0 rfl) ?_
        refine lv_iconst (v := (-1 : Int32)) hx hb dX3_seenAhead_84 (by decide) ?_
        refine lv_icmp_ne (tgt := 92) hx hb dX3_seenAhead_85 (by decide) (fun hc17 => ?_) (fun hc17 => ?_)
        · rw [if_neg hc17] at hF
          refine lv_aload_n hx hb dX3_seenAhead_92 rfl (lv_at hl 2 rfl) ?_
          obtain ⟨r18, er18, hF⟩ := cp_bind hF
          refine cp_getR (T := TX3) (N := 1) (ci := 3) (j := 0) hx hb htT hinX3 hown hK hP rfl (by decide) rfl (htT _ tw_126) er18 dX3_seenAhead_93 ?_
          obtain ⟨r19, er19, hF⟩ := cp_bind hF
          refine cp_getRN (T := TX4) (N := 12) (ci := 4) (j := 4) hx hb htT hinX4 hown hK hP rfl (by decide) rfl (hN _ (List.mem_of_getElem? (i := 43) rfl)) er19 dX3_seenAhead_96 ?_
          refine lv_iload hx hb dX3_seenAhead_99 (lv_at hl 0 rfl) ?_
          obtain ⟨r20, er20, hF⟩ := cp_bind hF
          refine cp_aald hx hb hK hP er20 dX3_seenAhead_101 ?_
          obtain ⟨v21, ev21, hF⟩ := cp_bind hF
          refine cp_getIN (T := TX1) (N := 14) (ci := 1) (j := 6) hx hb htT hinX1 hown hK hP rfl (by decide) rfl (hN _ (List.mem_of_getElem? (i := 22) rfl)) ev21 dX3_seenAhead_102 ?_
          exact cp_iret hx hb hr hlocks hF hP hS dX3_seenAhead_105
        · rw [if_pos hc17] at hF
          refine lv_iconst (v := (-1 : Int32)) hx hb dX3_seenAhead_88 (by decide) ?_
          refine lv_goto (tgt := 105) hx hb dX3_seenAhead_89 (by decide) ?_
          exact cp_iret hx hb hr hlocks hF hP hS dX3_seenAhead_105
theorem dX3_seenInside_0 : decode cX3_seenInside 0 = .ok (.iload_n 2, 1) := by decide +kernel
theorem dX3_seenInside_1 : decode cX3_seenInside 1 = .ok (.tableswitch 50 0 2 #[27, 37, 45], 27) := by decide +kernel
theorem dX3_seenInside_28 : decode cX3_seenInside 28 = .ok (.aload_n 1, 1) := by decide +kernel
theorem dX3_seenInside_29 : decode cX3_seenInside 29 = .ok (.getfield 42, 3) := by decide +kernel
theorem dX3_seenInside_32 : decode cX3_seenInside 32 = .ok (.bipush 127, 2) := by decide +kernel
theorem dX3_seenInside_34 : decode cX3_seenInside 34 = .ok (.invokestatic 113, 3) := by decide +kernel
theorem dX3_seenInside_37 : decode cX3_seenInside 37 = .ok (.ireturn, 1) := by decide +kernel
theorem dX3_seenInside_38 : decode cX3_seenInside 38 = .ok (.aload_n 1, 1) := by decide +kernel
theorem dX3_seenInside_39 : decode cX3_seenInside 39 = .ok (.getfield 34, 3) := by decide +kernel
theorem dX3_seenInside_42 : decode cX3_seenInside 42 = .ok (.bipush 127, 2) := by decide +kernel
theorem dX3_seenInside_44 : decode cX3_seenInside 44 = .ok (.iand, 1) := by decide +kernel
theorem dX3_seenInside_45 : decode cX3_seenInside 45 = .ok (.ireturn, 1) := by decide +kernel
theorem dX3_seenInside_46 : decode cX3_seenInside 46 = .ok (.aload_n 1, 1) := by decide +kernel
theorem dX3_seenInside_47 : decode cX3_seenInside 47 = .ok (.getfield 110, 3) := by decide +kernel
theorem dX3_seenInside_50 : decode cX3_seenInside 50 = .ok (.ireturn, 1) := by decide +kernel
theorem dX3_seenInside_51 : decode cX3_seenInside 51 = .ok (.aload_n 0, 1) := by decide +kernel
theorem dX3_seenInside_52 : decode cX3_seenInside 52 = .ok (.getfield 11, 3) := by decide +kernel
theorem dX3_seenInside_55 : decode cX3_seenInside 55 = .ok (.getfield 104, 3) := by decide +kernel
theorem dX3_seenInside_58 : decode cX3_seenInside 58 = .ok (.aload_n 1, 1) := by decide +kernel
theorem dX3_seenInside_59 : decode cX3_seenInside 59 = .ok (.getfield 119, 3) := by decide +kernel
theorem dX3_seenInside_62 : decode cX3_seenInside 62 = .ok (.iaload, 1) := by decide +kernel
theorem dX3_seenInside_63 : decode cX3_seenInside 63 = .ok (.iconst 1, 1) := by decide +kernel
theorem dX3_seenInside_64 : decode cX3_seenInside 64 = .ok (.ishr, 1) := by decide +kernel
theorem dX3_seenInside_65 : decode cX3_seenInside 65 = .ok (.ireturn, 1) := by decide +kernel
def fn_X3_seenInside (L : cp_Lay) (q : Nat) (k0 : Nat) (k1 : Nat) (x2 : Int32) (D : cp_Dt) : Option (Int32 × cp_Dt) :=
  if x2 = (0 : Int32) then ((cp_gI L D k1 1 7).bind fun v2 =>
  some ((cp_mn v2 (127 : Int32)), D))
  else if x2 = (1 : Int32) then ((cp_gI L D k1 1 8).bind fun v4 =>
  some ((v4 &&& (127 : Int32)), D))
  else if x2 = (2 : Int32) then ((cp_gI L D k1 1 6).bind fun v6 =>
  some (v6, D))
  else ((cp_gR L k0 3 0).bind fun r7 =>
  (cp_gR L r7 4 1).bind fun r8 =>
  (cp_gI L D k1 1 5).bind fun v9 =>
  (cp_aI L D 0 r8 v9).bind fun v10 =>
  some ((v10 >>> ((1 : Int32) &&& 31)), D))
set_option maxHeartbeats 4000000 in
set_option maxRecDepth 100000 in
theorem ct_X3_seenInside (l : Launch) (G : va_G) (L : cp_Lay) (hJ : cp_J L) (q : Nat) (k0 : Nat) (k1 : Nat) (x2 : Int32) (D : cp_Dt) (res : Int32 × cp_Dt) (hF : fn_X3_seenInside L q k0 k1 x2 D = some res) : cp_Met l G yX3_seenInside wsX3_seenInside ({ frames := 1, cells := 0, slots := 0, locals := 21 }) L ([.ref (L.2.1 k0), .ref (L.2.1 k1), .int x2] : List Value) D res.2 (some (.int res.1)) := by
  refine Met.ofW (cc := cX3_seenInside) (maxL := 3) (ret := (some .int)) (by decide) rfl ?_
  intro p e s m args below meth c s₁ B hml hv
  obtain ⟨rfl, hP, hK, hN, hZ⟩ := hv
  have hx := B.exec
  have hb := B.bytes
  have hr := B.returns
  have hts := atoms_spec (ws := wsX3_seenInside) B.pre
  have hown : s.vm.findClass "CreaturePond$Mind" = some m.cls := findClass_of_methodNamed B.named
  have hlocks := B.notSynchronized
  have hS : va_S (cp_A L) s.heap s.heap [] := va_S.rf
  have htT : ∀ w ∈ cp_T, w.before ([.ref (L.2.1 k0), .ref (L.2.1 k1), .int x2] : List Value).toArray s = true := fun w h => hts w (List.mem_cons_of_mem _ h)
  have hl := lv_entry (([.ref (L.2.1 k0), .ref (L.2.1 k1), .int x2] : List Value)) (n := 3) (Nat.le_of_ble_eq_true rfl)
  rw [lg_entry_eq]
  generalize (lg_sl (([.ref (L.2.1 k0), .ref (L.2.1 k1), .int x2] : List Value)) ++ List.replicate (3 - (lg_sl (([.ref (L.2.1 k0), .ref (L.2.1 k1), .int x2] : List Value))).length) Slot.unset).toArray = ls at hl ⊢
  have hl : lv_has ls 3 [(0, .ref (L.2.1 k0)), (1, .ref (L.2.1 k1)), (2, .int x2)] := hl
  unfold fn_X3_seenInside at hF
  refine lv_iload_n hx hb dX3_seenInside_0 rfl (lv_at hl 2 rfl) ?_
  by_cases hc1 : x2 = (0 : Int32)
  · rw [if_pos hc1] at hF
    refine lv_tableIn (tgt := 28) hx hb dX3_seenInside_1 (by rw [hc1]; decide) (by rw [hc1]; decide) (by rw [hc1]; rfl) (by decide) ?_
    refine lv_aload_n hx hb dX3_seenInside_28 rfl (lv_at hl 1 rfl) ?_
    obtain ⟨v2, ev2, hF⟩ := cp_bind hF
    refine cp_getIN (T := TX1) (N := 14) (ci := 1) (j := 7) hx hb htT hinX1 hown hK hP rfl (by decide) rfl (hN _ (List.mem_of_getElem? (i := 23) rfl)) ev2 dX3_seenInside_29 ?_
    refine lv_bipush (v := (127 : Int32)) hx hb dX3_seenInside_32 (by decide) ?_
    refine va_mmin hx hb (by rw [hml]; exact hl.1.symm) hown (htT _ tw_289) (htT _ tw_27) (htT _ tw_3) (htT _ tw_28) (Nat.le_of_ble_eq_true rfl) (Nat.le_of_ble_eq_true rfl) (Nat.zero_le _) (Nat.zero_le _) dX3_seenInside_34 ?_
    exact cp_iret hx hb hr hlocks hF hP hS dX3_seenInside_37
  · rw [if_neg hc1] at hF
    by_cases hc3 : x2 = (1 : Int32)
    · rw [if_pos hc3] at hF
      refine lv_tableIn (tgt := 38) hx hb dX3_seenInside_1 (by rw [hc3]; decide) (by rw [hc3]; decide) (by rw [hc3]; rfl) (by decide) ?_
      refine lv_aload_n hx hb dX3_seenInside_38 rfl (lv_at hl 1 rfl) ?_
      obtain ⟨v4, ev4, hF⟩ := cp_bind hF
      refine cp_getIN (T := TX1) (N := 14) (ci := 1) (j := 8) hx hb htT hinX1 hown hK hP rfl (by decide) rfl (hN _ (List.mem_of_getElem? (i := 26) rfl)) ev4 dX3_seenInside_39 ?_
      refine lv_bipush (v := (127 : Int32)) hx hb dX3_seenInside_42 (by decide) ?_
      refine lv_iand hx hb dX3_seenInside_44 ?_
      exact cp_iret hx hb hr hlocks hF hP hS dX3_seenInside_45
    · rw [if_neg hc3] at hF
      by_cases hc5 : x2 = (2 : Int32)
      · rw [if_pos hc5] at hF
        refine lv_tableIn (tgt := 46) hx hb dX3_seenInside_1 (by rw [hc5]; decide) (by rw [hc5]; decide) (by rw [hc5]; rfl) (by decide) ?_
        refine lv_aload_n hx hb dX3_seenInside_46 rfl (lv_at hl 1 rfl) ?_
        obtain ⟨v6, ev6, hF⟩ := cp_bind hF
        refine cp_getIN (T := TX1) (N := 14) (ci := 1) (j := 6) hx hb htT hinX1 hown hK hP rfl (by decide) rfl (hN _ (List.mem_of_getElem? (i := 22) rfl)) ev6 dX3_seenInside_47 ?_
        exact cp_iret hx hb hr hlocks hF hP hS dX3_seenInside_50
      · rw [if_neg hc5] at hF
        have zhc1 := lv_neT (a := 0) hc1 (by decide)
        have zhc3 := lv_neT (a := 1) hc3 (by decide)
        have zhc5 := lv_neT (a := 2) hc5 (by decide)
        refine lv_tableOut (tgt := 51) hx hb dX3_seenInside_1 (by omega) (by decide) ?_
        refine lv_aload_n hx hb dX3_seenInside_51 rfl (lv_at hl 0 rfl) ?_
        obtain ⟨r7, er7, hF⟩ := cp_bind hF
        refine cp_getR (T := TX3) (N := 1) (ci := 3) (j := 0) hx hb htT hinX3 hown hK hP rfl (by decide) rfl (htT _ tw_126) er7 dX3_seenInside_52 ?_
        obtain ⟨r8, er8, hF⟩ := cp_bind hF
        refine cp_getRN (T := TX4) (N := 12) (ci := 4) (j := 1) hx hb htT hinX4 hown hK hP rfl (by decide) rfl (hN _ (List.mem_of_getElem? (i := 37) rfl)) er8 dX3_seenInside_55 ?_
        refine lv_aload_n hx hb dX3_seenInside_58 rfl (lv_at hl 1 rfl) ?_
        obtain ⟨v9, ev9, hF⟩ := cp_bind hF
        refine cp_getIN (T := TX1) (N := 14) (ci := 1) (j := 5) hx hb htT hinX1 hown hK hP rfl (by decide) rfl (hN _ (List.mem_of_getElem? (i := 18) rfl)) ev9 dX3_seenInside_59 ?_
        obtain ⟨v10, ev10, hF⟩ := cp_bind hF
        refine cp_iald hx hb hK hP ev10 dX3_seenInside_62 ?_
        refine lv_iconst (v := (1 : Int32)) hx hb dX3_seenInside_63 (by decide) ?_
        refine lv_ishr hx hb dX3_seenInside_64 ?_
        exact cp_iret hx hb hr hlocks hF hP hS dX3_seenInside_65
theorem dX2_greaterOfPair_0 : decode cX2_greaterOfPair 0 = .ok (.aload_n 0, 1) := by decide +kernel
theorem dX2_greaterOfPair_1 : decode cX2_greaterOfPair 1 = .ok (.getfield 9, 3) := by decide +kernel
theorem dX2_greaterOfPair_4 : decode cX2_greaterOfPair 4 = .ok (.getfield 23, 3) := by decide +kernel
theorem dX2_greaterOfPair_7 : decode cX2_greaterOfPair 7 = .ok (.iload_n 1, 1) := by decide +kernel
theorem dX2_greaterOfPair_8 : decode cX2_greaterOfPair 8 = .ok (.aaload, 1) := by decide +kernel
theorem dX2_greaterOfPair_9 : decode cX2_greaterOfPair 9 = .ok (.astore_n 2, 1) := by decide +kernel
theorem dX2_greaterOfPair_10 : decode cX2_greaterOfPair 10 = .ok (.aload_n 2, 1) := by decide +kernel
theorem dX2_greaterOfPair_11 : decode cX2_greaterOfPair 11 = .ok (.getfield 29, 3) := by decide +kernel
theorem dX2_greaterOfPair_14 : decode cX2_greaterOfPair 14 = .ok (.ifCond .eq 10, 3) := by decide +kernel
theorem dX2_greaterOfPair_17 : decode cX2_greaterOfPair 17 = .ok (.aload_n 2, 1) := by decide +kernel
theorem dX2_greaterOfPair_18 : decode cX2_greaterOfPair 18 = .ok (.getfield 35, 3) := by decide +kernel
theorem dX2_greaterOfPair_21 : decode cX2_greaterOfPair 21 = .ok (.ifCond .ne 5, 3) := by decide +kernel
theorem dX2_greaterOfPair_24 : decode cX2_greaterOfPair 24 = .ok (.iconst (-1), 1) := by decide +kernel
theorem dX2_greaterOfPair_25 : decode cX2_greaterOfPair 25 = .ok (.ireturn, 1) := by decide +kernel
theorem dX2_greaterOfPair_26 : decode cX2_greaterOfPair 26 = .ok (.aload_n 0, 1) := by decide +kernel
theorem dX2_greaterOfPair_27 : decode cX2_greaterOfPair 27 = .ok (.getfield 9, 3) := by decide +kernel
theorem dX2_greaterOfPair_30 : decode cX2_greaterOfPair 30 = .ok (.getfield 38, 3) := by decide +kernel
theorem dX2_greaterOfPair_33 : decode cX2_greaterOfPair 33 = .ok (.aload_n 0, 1) := by decide +kernel
theorem dX2_greaterOfPair_34 : decode cX2_greaterOfPair 34 = .ok (.getfield 9, 3) := by decide +kernel
theorem dX2_greaterOfPair_37 : decode cX2_greaterOfPair 37 = .ok (.aload_n 2, 1) := by decide +kernel
theorem dX2_greaterOfPair_38 : decode cX2_greaterOfPair 38 = .ok (.invokevirtual 42, 3) := by decide +kernel
theorem dX2_greaterOfPair_41 : decode cX2_greaterOfPair 41 = .ok (.iaload, 1) := by decide +kernel
theorem dX2_greaterOfPair_42 : decode cX2_greaterOfPair 42 = .ok (.istore_n 3, 1) := by decide +kernel
theorem dX2_greaterOfPair_43 : decode cX2_greaterOfPair 43 = .ok (.iload_n 3, 1) := by decide +kernel
theorem dX2_greaterOfPair_44 : decode cX2_greaterOfPair 44 = .ok (.iload_n 1, 1) := by decide +kernel
theorem dX2_greaterOfPair_45 : decode cX2_greaterOfPair 45 = .ok (.if_icmp .gt 5, 3) := by decide +kernel
theorem dX2_greaterOfPair_48 : decode cX2_greaterOfPair 48 = .ok (.iconst (-1), 1) := by decide +kernel
theorem dX2_greaterOfPair_49 : decode cX2_greaterOfPair 49 = .ok (.ireturn, 1) := by decide +kernel
theorem dX2_greaterOfPair_50 : decode cX2_greaterOfPair 50 = .ok (.aload_n 0, 1) := by decide +kernel
theorem dX2_greaterOfPair_51 : decode cX2_greaterOfPair 51 = .ok (.getfield 9, 3) := by decide +kernel
theorem dX2_greaterOfPair_54 : decode cX2_greaterOfPair 54 = .ok (.getfield 23, 3) := by decide +kernel
theorem dX2_greaterOfPair_57 : decode cX2_greaterOfPair 57 = .ok (.iload_n 3, 1) := by decide +kernel
theorem dX2_greaterOfPair_58 : decode cX2_greaterOfPair 58 = .ok (.aaload, 1) := by decide +kernel
theorem dX2_greaterOfPair_59 : decode cX2_greaterOfPair 59 = .ok (.astore 4, 2) := by decide +kernel
theorem dX2_greaterOfPair_61 : decode cX2_greaterOfPair 61 = .ok (.aload 4, 2) := by decide +kernel
theorem dX2_greaterOfPair_63 : decode cX2_greaterOfPair 63 = .ok (.getfield 35, 3) := by decide +kernel
theorem dX2_greaterOfPair_66 : decode cX2_greaterOfPair 66 = .ok (.ifCond .eq 23, 3) := by decide +kernel
theorem dX2_greaterOfPair_69 : decode cX2_greaterOfPair 69 = .ok (.aload_n 0, 1) := by decide +kernel
theorem dX2_greaterOfPair_70 : decode cX2_greaterOfPair 70 = .ok (.getfield 9, 3) := by decide +kernel
theorem dX2_greaterOfPair_73 : decode cX2_greaterOfPair 73 = .ok (.aload 4, 2) := by decide +kernel
theorem dX2_greaterOfPair_75 : decode cX2_greaterOfPair 75 = .ok (.invokevirtual 42, 3) := by decide +kernel
theorem dX2_greaterOfPair_78 : decode cX2_greaterOfPair 78 = .ok (.aload_n 2, 1) := by decide +kernel
theorem dX2_greaterOfPair_79 : decode cX2_greaterOfPair 79 = .ok (.getfield 46, 3) := by decide +kernel
theorem dX2_greaterOfPair_82 : decode cX2_greaterOfPair 82 = .ok (.if_icmp .ne 7, 3) := by decide +kernel
theorem dX2_greaterOfPair_85 : decode cX2_greaterOfPair 85 = .ok (.iload_n 3, 1) := by decide +kernel
theorem dX2_greaterOfPair_86 : decode cX2_greaterOfPair 86 = .ok (.goto 4, 3) := by decide +kernel
theorem dX2_greaterOfPair_89 : decode cX2_greaterOfPair 89 = .ok (.iconst (-1), 1) := by decide +kernel
theorem dX2_greaterOfPair_90 : decode cX2_greaterOfPair 90 = .ok (.ireturn, 1) := by decide +kernel
def fn_X2_greaterOfPair (L : cp_Lay) (q : Nat) (k0 : Nat) (x1 : Int32) (D : cp_Dt) : Option (Int32 × cp_Dt) :=
  (cp_gR L k0 2 0).bind fun r1 =>
  (cp_gR L r1 4 4).bind fun r2 =>
  (cp_aR L r2 x1).bind fun r3 =>
  (cp_gI L D r3 1 3).bind fun v4 =>
  if v4 = 0 then (some ((-1 : Int32), D))
  else ((cp_gI L D r3 1 4).bind fun v6 =>
  if v6 = 0 then (some ((-1 : Int32), D))
  else ((cp_gR L k0 2 0).bind fun r8 =>
  (cp_gR L r8 4 3).bind fun r9 =>
  (cp_gR L k0 2 0).bind fun r10 =>
  (cp_fl L r10 4).bind fun f11 =>
  (fn_X4_aheadOf L q r10 r3 D).bind fun y12 =>
  (cp_aI L y12.2 0 r9 y12.1).bind fun v13 =>
  if x1 < v13 then ((cp_gR L k0 2 0).bind fun r15 =>
  (cp_gR L r15 4 4).bind fun r16 =>
  (cp_aR L r16 v13).bind fun r17 =>
  (cp_gI L y12.2 r17 1 4).bind fun v18 =>
  if v18 = 0 then (some ((-1 : Int32), y12.2))
  else ((cp_gR L k0 2 0).bind fun r20 =>
  (cp_fl L r20 4).bind fun f21 =>
  (fn_X4_aheadOf L q r20 r17 y12.2).bind fun y22 =>
  (cp_gI L y22.2 r3 1 5).bind fun v23 =>
  if y22.1 = v23 then (some (v13, y22.2))
  else (some ((-1 : Int32), y22.2))))
  else (some ((-1 : Int32), y12.2))))
set_option maxHeartbeats 4000000 in
set_option maxRecDepth 100000 in
theorem ct_X2_greaterOfPair (l : Launch) (G : va_G) (L : cp_Lay) (hJ : cp_J L) (q : Nat) (k0 : Nat) (x1 : Int32) (D : cp_Dt) (res : Int32 × cp_Dt) (hF : fn_X2_greaterOfPair L q k0 x1 D = some res) : cp_Met l G yX2_greaterOfPair wsX2_greaterOfPair ({ frames := 1, cells := 0, slots := 0, locals := 21 }) L ([.ref (L.2.1 k0), .int x1] : List Value) D res.2 (some (.int res.1)) := by
  refine Met.ofW (cc := cX2_greaterOfPair) (maxL := 5) (ret := (some .int)) (by decide) rfl ?_
  intro p e s m args below meth c s₁ B hml hv
  obtain ⟨rfl, hP, hK, hN, hZ⟩ := hv
  have hx := B.exec
  have hb := B.bytes
  have hr := B.returns
  have hts := atoms_spec (ws := wsX2_greaterOfPair) B.pre
  have hown : s.vm.findClass "CreaturePond$Breeding" = some m.cls := findClass_of_methodNamed B.named
  have hlocks := B.notSynchronized
  have hS : va_S (cp_A L) s.heap s.heap [] := va_S.rf
  have htT : ∀ w ∈ cp_T, w.before ([.ref (L.2.1 k0), .int x1] : List Value).toArray s = true := fun w h => hts w (List.mem_cons_of_mem _ h)
  have hl := lv_entry (([.ref (L.2.1 k0), .int x1] : List Value)) (n := 5) (Nat.le_of_ble_eq_true rfl)
  rw [lg_entry_eq]
  generalize (lg_sl (([.ref (L.2.1 k0), .int x1] : List Value)) ++ List.replicate (5 - (lg_sl (([.ref (L.2.1 k0), .int x1] : List Value))).length) Slot.unset).toArray = ls at hl ⊢
  have hl : lv_has ls 5 [(0, .ref (L.2.1 k0)), (1, .int x1)] := hl
  unfold fn_X2_greaterOfPair at hF
  refine lv_aload_n hx hb dX2_greaterOfPair_0 rfl (lv_at hl 0 rfl) ?_
  obtain ⟨r1, er1, hF⟩ := cp_bind hF
  refine cp_getR (T := TX2) (N := 1) (ci := 2) (j := 0) hx hb htT hinX2 hown hK hP rfl (by decide) rfl (htT _ tw_133) er1 dX2_greaterOfPair_1 ?_
  obtain ⟨r2, er2, hF⟩ := cp_bind hF
  refine cp_getRN (T := TX4) (N := 12) (ci := 4) (j := 4) hx hb htT hinX4 hown hK hP rfl (by decide) rfl (hN _ (List.mem_of_getElem? (i := 44) rfl)) er2 dX2_greaterOfPair_4 ?_
  refine lv_iload_n hx hb dX2_greaterOfPair_7 rfl (lv_at hl 1 rfl) ?_
  obtain ⟨r3, er3, hF⟩ := cp_bind hF
  refine cp_aald hx hb hK hP er3 dX2_greaterOfPair_8 ?_
  refine lv_astore_n (lv' := [(2, .ref (L.2.1 r3)), (0, .ref (L.2.1 k0)), (1, .int x1)]) hx hb dX2_greaterOfPair_9 rfl hl (by decide) rfl (fun ls hl => ?_)
  refine lv_aload_n hx hb dX2_greaterOfPair_10 rfl (lv_at hl 0 rfl) ?_
  obtain ⟨v4, ev4, hF⟩ := cp_bind hF
  refine cp_getIN (T := TX1) (N := 14) (ci := 1) (j := 3) hx hb htT hinX1 hown hK hP rfl (by decide) rfl (hN _ (List.mem_of_getElem? (i := 12) rfl)) ev4 dX2_greaterOfPair_11 ?_
  refine lv_if_eq (tgt := 24) hx hb dX2_greaterOfPair_14 (by decide) (fun hc5 => ?_) (fun hc5 => ?_)
  · rw [if_pos hc5] at hF
    refine lv_iconst (v := (-1 : Int32)) hx hb dX2_greaterOfPair_24 (by decide) ?_
    exact cp_iret hx hb hr hlocks hF hP hS dX2_greaterOfPair_25
  · rw [if_neg hc5] at hF
    refine lv_aload_n hx hb dX2_greaterOfPair_17 rfl (lv_at hl 0 rfl) ?_
    obtain ⟨v6, ev6, hF⟩ := cp_bind hF
    refine cp_getIN (T := TX1) (N := 14) (ci := 1) (j := 4) hx hb htT hinX1 hown hK hP rfl (by decide) rfl (hN _ (List.mem_of_getElem? (i := 15) rfl)) ev6 dX2_greaterOfPair_18 ?_
    refine lv_if_ne (tgt := 26) hx hb dX2_greaterOfPair_21 (by decide) (fun hc7 => ?_) (fun hc7 => ?_)
    · rw [if_neg hc7] at hF
      refine lv_aload_n hx hb dX2_greaterOfPair_26 rfl (lv_at hl 1 rfl) ?_
      obtain ⟨r8, er8, hF⟩ := cp_bind hF
      refine cp_getR (T := TX2) (N := 1) (ci := 2) (j := 0) hx hb htT hinX2 hown hK hP rfl (by decide) rfl (htT _ tw_133) er8 dX2_greaterOfPair_27 ?_
      obtain ⟨r9, er9, hF⟩ := cp_bind hF
      refine cp_getRN (T := TX4) (N := 12) (ci := 4) (j := 3) hx hb htT hinX4 hown hK hP rfl (by decide) rfl (hN _ (List.mem_of_getElem? (i := 40) rfl)) er9 dX2_greaterOfPair_30 ?_
      refine lv_aload_n hx hb dX2_greaterOfPair_33 rfl (lv_at hl 1 rfl) ?_
      obtain ⟨r10, er10, hF⟩ := cp_bind hF
      refine cp_getR (T := TX2) (N := 1) (ci := 2) (j := 0) hx hb htT hinX2 hown hK hP rfl (by decide) rfl (htT _ tw_133) er10 dX2_greaterOfPair_34 ?_
      refine lv_aload_n hx hb dX2_greaterOfPair_37 rfl (lv_at hl 0 rfl) ?_
      obtain ⟨f11, ef11, hF⟩ := cp_bind hF
      obtain ⟨y12, ey12, hF⟩ := cp_bind hF
      refine cp_call (st1 := [.int y12.1, .ref (L.2.1 r9)]) (va_runVN (As := [.ref (L.2.1 r3)]) (rest := [.ref (L.2.1 r9)]) ⟨hx, hb, hml, hown, htT⟩ (ct_X4_aheadOf l G L hJ q r10 r3 D y12 ey12) ⟨va_cnB 1 htT gdX4_aheadOf rfl rfl rfl (hN _ (List.mem_of_getElem? (i := 77) rfl)) (htT _ tw_4) hdX4_aheadOf ⟨Nat.le_of_ble_eq_true rfl, Nat.le_of_ble_eq_true rfl⟩, (htT _ tw_284), (htT _ tw_551)⟩ ⟨cp_blind, cp_recv hK hP rfl ef11, cp_pre hP hK hN hZ hS⟩ rfl rfl hl.1 rfl (lv_room (Nat.le_of_ble_eq_true rfl)) dX2_greaterOfPair_38 ⟨Nat.zero_le _, Nat.zero_le _⟩) hS (fun H locs hP hS => ?_)
      obtain ⟨v13, ev13, hF⟩ := cp_bind hF
      refine cp_iald hx hb hK hP ev13 dX2_greaterOfPair_41 ?_
      refine lv_istore_n (lv' := [(3, .int v13), (2, .ref (L.2.1 r3)), (0, .ref (L.2.1 k0)), (1, .int x1)]) hx hb dX2_greaterOfPair_42 rfl hl (by decide) rfl (fun ls hl => ?_)
      refine lv_iload_n hx hb dX2_greaterOfPair_43 rfl (lv_at hl 0 rfl) ?_
      refine lv_iload_n hx hb dX2_greaterOfPair_44 rfl (lv_at hl 3 rfl) ?_
      refine lv_icmp_gt (tgt := 50) hx hb dX2_greaterOfPair_45 (by decide) (fun hc14 => ?_) (fun hc14 => ?_)
      · rw [if_pos hc14] at hF
        refine lv_aload_n hx hb dX2_greaterOfPair_50 rfl (lv_at hl 2 rfl) ?_
        obtain ⟨r15, er15, hF⟩ := cp_bind hF
        refine cp_getR (T := TX2) (N := 1) (ci := 2) (j := 0) hx hb htT hinX2 hown hK hP rfl (by decide) rfl (htT _ tw_133) er15 dX2_greaterOfPair_51 ?_
        obtain ⟨r16, er16, hF⟩ := cp_bind hF
        refine cp_getRN (T := TX4) (N := 12) (ci := 4) (j := 4) hx hb htT hinX4 hown hK hP rfl (by decide) rfl (hN _ (List.mem_of_getElem? (i := 44) rfl)) er16 dX2_greaterOfPair_54 ?_
        refine lv_iload_n hx hb dX2_greaterOfPair_57 rfl (lv_at hl 0 rfl) ?_
        obtain ⟨r17, er17, hF⟩ := cp_bind hF
        refine cp_aald hx hb hK hP er17 dX2_greaterOfPair_58 ?_
        refine lv_astore (lv' := [(4, .ref (L.2.1 r17)), (3, .int v13), (2, .ref (L.2.1 r3)), (0, .ref (L.2.1 k0)), (1, .int x1)]) hx hb dX2_greaterOfPair_59 hl (by decide) rfl (fun ls hl => ?_)
        refine lv_aload hx hb dX2_greaterOfPair_61 (lv_at hl 0 rfl) ?_
        obtain ⟨v18, ev18, hF⟩ := cp_bind hF
        refine cp_getIN (T := TX1) (N := 14) (ci := 1) (j := 4) hx hb htT hinX1 hown hK hP rfl (by decide) rfl (hN _ (List.mem_of_getElem? (i := 15) rfl)) ev18 dX2_greaterOfPair_63 ?_
        refine lv_if_eq (tgt := 89) hx hb dX2_greaterOfPair_66 (by decide) (fun hc19 => ?_) (fun hc19 => ?_)
        · rw [if_pos hc19] at hF
          refine lv_iconst (v := (-1 : Int32)) hx hb dX2_greaterOfPair_89 (by decide) ?_
          exact cp_iret hx hb hr hlocks hF hP hS dX2_greaterOfPair_90
        · rw [if_neg hc19] at hF
          refine lv_aload_n hx hb dX2_greaterOfPair_69 rfl (lv_at hl 3 rfl) ?_
          obtain ⟨r20, er20, hF⟩ := cp_bind hF
          refine cp_getR (T := TX2) (N := 1) (ci := 2) (j := 0) hx hb htT hinX2 hown hK hP rfl (by decide) rfl (htT _ tw_133) er20 dX2_greaterOfPair_70 ?_
          refine lv_aload hx hb dX2_greaterOfPair_73 (lv_at hl 0 rfl) ?_
          obtain ⟨f21, ef21, hF⟩ := cp_bind hF
          obtain ⟨y22, ey22, hF⟩ := cp_bind hF
          refine cp_call (st1 := [.int y22.1]) (va_runVN (As := [.ref (L.2.1 r17)]) (rest := []) ⟨hx, hb, hml, hown, htT⟩ (ct_X4_aheadOf l G L hJ q r20 r17 y12.2 y22 ey22) ⟨va_cnB 1 htT gdX4_aheadOf rfl rfl rfl (hN _ (List.mem_of_getElem? (i := 77) rfl)) (htT _ tw_4) hdX4_aheadOf ⟨Nat.le_of_ble_eq_true rfl, Nat.le_of_ble_eq_true rfl⟩, (htT _ tw_284), (htT _ tw_551)⟩ ⟨cp_blind, cp_recv hK hP rfl ef21, cp_pre hP hK hN hZ hS⟩ rfl rfl hl.1 rfl (lv_room (Nat.le_of_ble_eq_true rfl)) dX2_greaterOfPair_75 ⟨Nat.zero_le _, Nat.zero_le _⟩) hS (fun H locs hP hS => ?_)
          refine lv_aload_n hx hb dX2_greaterOfPair_78 rfl (lv_at hl 2 rfl) ?_
          obtain ⟨v23, ev23, hF⟩ := cp_bind hF
          refine cp_getIN (T := TX1) (N := 14) (ci := 1) (j := 5) hx hb htT hinX1 hown hK hP rfl (by decide) rfl (hN _ (List.mem_of_getElem? (i := 17) rfl)) ev23 dX2_greaterOfPair_79 ?_
          refine lv_icmp_ne (tgt := 89) hx hb dX2_greaterOfPair_82 (by decide) (fun hc24 => ?_) (fun hc24 => ?_)
          · rw [if_neg hc24] at hF
            refine lv_iconst (v := (-1 : Int32)) hx hb dX2_greaterOfPair_89 (by decide) ?_
            exact cp_iret hx hb hr hlocks hF hP hS dX2_greaterOfPair_90
          · rw [if_pos hc24] at hF
            refine lv_iload_n hx hb dX2_greaterOfPair_85 rfl (lv_at hl 1 rfl) ?_
            refine lv_goto (tgt := 90) hx hb dX2_greaterOfPair_86 (by decide) ?_
            exact cp_iret hx hb hr hlocks hF hP hS dX2_greaterOfPair_90
      · rw [if_neg hc14] at hF
        refine lv_iconst (v := (-1 : Int32)) hx hb dX2_greaterOfPair_48 (by decide) ?_
        exact cp_iret hx hb hr hlocks hF hP hS dX2_greaterOfPair_49
    · rw [if_pos hc7] at hF
      refine lv_iconst (v := (-1 : Int32)) hx hb dX2_greaterOfPair_24 (by decide) ?_
      exact cp_iret hx hb hr hlocks hF hP hS dX2_greaterOfPair_25
