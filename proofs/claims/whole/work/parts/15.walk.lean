theorem dX0_field_0 : decode cX0_field 0 = .ok (.aload_n 0, 1) := by decide +kernel
theorem dX0_field_1 : decode cX0_field 1 = .ok (.getfield 32, 3) := by decide +kernel
theorem dX0_field_4 : decode cX0_field 4 = .ok (.iload_n 1, 1) := by decide +kernel
theorem dX0_field_5 : decode cX0_field 5 = .ok (.invokevirtual 96, 3) := by decide +kernel
theorem dX0_field_8 : decode cX0_field 8 = .ok (.ifCond .ne 5, 3) := by decide +kernel
theorem dX0_field_11 : decode cX0_field 11 = .ok (.iconst (-1), 1) := by decide +kernel
theorem dX0_field_12 : decode cX0_field 12 = .ok (.ireturn, 1) := by decide +kernel
theorem dX0_field_13 : decode cX0_field 13 = .ok (.aload_n 0, 1) := by decide +kernel
theorem dX0_field_14 : decode cX0_field 14 = .ok (.getfield 32, 3) := by decide +kernel
theorem dX0_field_17 : decode cX0_field 17 = .ok (.getfield 102, 3) := by decide +kernel
theorem dX0_field_20 : decode cX0_field 20 = .ok (.iload_n 1, 1) := by decide +kernel
theorem dX0_field_21 : decode cX0_field 21 = .ok (.aaload, 1) := by decide +kernel
theorem dX0_field_22 : decode cX0_field 22 = .ok (.astore_n 3, 1) := by decide +kernel
theorem dX0_field_23 : decode cX0_field 23 = .ok (.iload_n 2, 1) := by decide +kernel
theorem dX0_field_24 : decode cX0_field 24 = .ok (.ifCond .lt 16, 3) := by decide +kernel
theorem dX0_field_27 : decode cX0_field 27 = .ok (.iload_n 2, 1) := by decide +kernel
theorem dX0_field_28 : decode cX0_field 28 = .ok (.bipush 8, 2) := by decide +kernel
theorem dX0_field_30 : decode cX0_field 30 = .ok (.if_icmp .ge 10, 3) := by decide +kernel
theorem dX0_field_33 : decode cX0_field 33 = .ok (.aload_n 3, 1) := by decide +kernel
theorem dX0_field_34 : decode cX0_field 34 = .ok (.getfield 141, 3) := by decide +kernel
theorem dX0_field_37 : decode cX0_field 37 = .ok (.iload_n 2, 1) := by decide +kernel
theorem dX0_field_38 : decode cX0_field 38 = .ok (.baload, 1) := by decide +kernel
theorem dX0_field_39 : decode cX0_field 39 = .ok (.ireturn, 1) := by decide +kernel
theorem dX0_field_40 : decode cX0_field 40 = .ok (.iload_n 2, 1) := by decide +kernel
theorem dX0_field_41 : decode cX0_field 41 = .ok (.lookupswitch 51 #[(8, 27), (9, 39)], 27) := by decide +kernel
theorem dX0_field_68 : decode cX0_field 68 = .ok (.aload_n 0, 1) := by decide +kernel
theorem dX0_field_69 : decode cX0_field 69 = .ok (.getfield 23, 3) := by decide +kernel
theorem dX0_field_72 : decode cX0_field 72 = .ok (.aload_n 3, 1) := by decide +kernel
theorem dX0_field_73 : decode cX0_field 73 = .ok (.getfield 144, 3) := by decide +kernel
theorem dX0_field_76 : decode cX0_field 76 = .ok (.invokevirtual 147, 3) := by decide +kernel
theorem dX0_field_79 : decode cX0_field 79 = .ok (.ireturn, 1) := by decide +kernel
theorem dX0_field_80 : decode cX0_field 80 = .ok (.aload_n 0, 1) := by decide +kernel
theorem dX0_field_81 : decode cX0_field 81 = .ok (.getfield 23, 3) := by decide +kernel
theorem dX0_field_84 : decode cX0_field 84 = .ok (.aload_n 3, 1) := by decide +kernel
theorem dX0_field_85 : decode cX0_field 85 = .ok (.getfield 144, 3) := by decide +kernel
theorem dX0_field_88 : decode cX0_field 88 = .ok (.invokevirtual 151, 3) := by decide +kernel
theorem dX0_field_91 : decode cX0_field 91 = .ok (.ireturn, 1) := by decide +kernel
theorem dX0_field_92 : decode cX0_field 92 = .ok (.aload_n 3, 1) := by decide +kernel
theorem dX0_field_93 : decode cX0_field 93 = .ok (.iload_n 2, 1) := by decide +kernel
theorem dX0_field_94 : decode cX0_field 94 = .ok (.invokevirtual 154, 3) := by decide +kernel
theorem dX0_field_97 : decode cX0_field 97 = .ok (.ireturn, 1) := by decide +kernel
def fn_X0_field (L : cp_Lay) (q : Nat) (k0 : Nat) (x1 : Int32) (x2 : Int32) (D : cp_Dt) : Option (Int32 × cp_Dt) :=
  (cp_gR L k0 0 1).bind fun r1 =>
  (cp_fl L r1 4).bind fun f2 =>
  (fn_X4_has L q r1 x1 D).bind fun y3 =>
  if y3.1 = 0 then (some ((-1 : Int32), y3.2))
  else ((cp_gR L k0 0 1).bind fun r5 =>
  (cp_gR L r5 4 4).bind fun r6 =>
  (cp_aR L r6 x1).bind fun r7 =>
  if x2 < 0 then (if x2 = (8 : Int32) then ((cp_gR L k0 0 0).bind fun r10 =>
  (cp_gI L y3.2 r7 1 5).bind fun v11 =>
  (cp_fl L r10 5).bind fun f12 =>
  (fn_X5_columnOf L q r10 v11 y3.2).bind fun y13 =>
  some (y13.1, y13.2))
  else if x2 = (9 : Int32) then ((cp_gR L k0 0 0).bind fun r15 =>
  (cp_gI L y3.2 r7 1 5).bind fun v16 =>
  (cp_fl L r15 5).bind fun f17 =>
  (fn_X5_rowOf L q r15 v16 y3.2).bind fun y18 =>
  some (y18.1, y18.2))
  else ((cp_fl L r7 1).bind fun f19 =>
  (fn_X1_trait L q r7 x2 y3.2).bind fun y20 =>
  some (y20.1, y20.2)))
  else (if (8 : Int32) ≤ x2 then (if x2 = (8 : Int32) then ((cp_gR L k0 0 0).bind fun r23 =>
  (cp_gI L y3.2 r7 1 5).bind fun v24 =>
  (cp_fl L r23 5).bind fun f25 =>
  (fn_X5_columnOf L q r23 v24 y3.2).bind fun y26 =>
  some (y26.1, y26.2))
  else if x2 = (9 : Int32) then ((cp_gR L k0 0 0).bind fun r28 =>
  (cp_gI L y3.2 r7 1 5).bind fun v29 =>
  (cp_fl L r28 5).bind fun f30 =>
  (fn_X5_rowOf L q r28 v29 y3.2).bind fun y31 =>
  some (y31.1, y31.2))
  else ((cp_fl L r7 1).bind fun f32 =>
  (fn_X1_trait L q r7 x2 y3.2).bind fun y33 =>
  some (y33.1, y33.2)))
  else ((cp_gR L r7 1 0).bind fun r34 =>
  (cp_aI L y3.2 1 r34 x2).bind fun v35 =>
  some (v35, y3.2))))
set_option maxHeartbeats 4000000 in
set_option maxRecDepth 100000 in
theorem ct_X0_field (l : Launch) (G : va_G) (L : cp_Lay) (hJ : cp_J L) (q : Nat) (k0 : Nat) (x1 : Int32) (x2 : Int32) (D : cp_Dt) (res : Int32 × cp_Dt) (hF : fn_X0_field L q k0 x1 x2 D = some res) : cp_Met l G yX0_field wsX0_field ({ frames := 1, cells := 0, slots := 0, locals := 21 }) L ([.ref (L.2.1 k0), .int x1, .int x2] : List Value) D res.2 (some (.int res.1)) := by
  refine Met.ofW (cc := cX0_field) (maxL := 4) (ret := (some .int)) (by decide) rfl ?_
  intro p e s m args below meth c s₁ B hml hv
  obtain ⟨rfl, hP, hK, hN, hZ⟩ := hv
  have hx := B.exec
  have hb := B.bytes
  have hr := B.returns
  have hts := atoms_spec (ws := wsX0_field) B.pre
  have hown : s.vm.findClass "CreaturePond" = some m.cls := findClass_of_methodNamed B.named
  have hlocks := B.notSynchronized
  have hS : va_S (cp_A L) s.heap s.heap [] := va_S.rf
  have htT : ∀ w ∈ cp_T, w.before ([.ref (L.2.1 k0), .int x1, .int x2] : List Value).toArray s = true := fun w h => hts w (List.mem_cons_of_mem _ h)
  have hl := lv_entry (([.ref (L.2.1 k0), .int x1, .int x2] : List Value)) (n := 4) (Nat.le_of_ble_eq_true rfl)
  rw [lg_entry_eq]
  generalize (lg_sl (([.ref (L.2.1 k0), .int x1, .int x2] : List Value)) ++ List.replicate (4 - (lg_sl (([.ref (L.2.1 k0), .int x1, .int x2] : List Value))).length) Slot.unset).toArray = ls at hl ⊢
  have hl : lv_has ls 4 [(0, .ref (L.2.1 k0)), (1, .int x1), (2, .int x2)] := hl
  unfold fn_X0_field at hF
  refine lv_aload_n hx hb dX0_field_0 rfl (lv_at hl 0 rfl) ?_
  obtain ⟨r1, er1, hF⟩ := cp_bind hF
  refine cp_getR (T := TX0) (N := 6) (ci := 0) (j := 1) hx hb htT hinX0 hown hK hP rfl (by decide) rfl (htT _ tw_136) er1 dX0_field_1 ?_
  refine lv_iload_n hx hb dX0_field_4 rfl (lv_at hl 1 rfl) ?_
  obtain ⟨f2, ef2, hF⟩ := cp_bind hF
  obtain ⟨y3, ey3, hF⟩ := cp_bind hF
  refine cp_call (st1 := [.int y3.1]) (va_runVN (As := [.int x1]) (rest := []) ⟨hx, hb, hml, hown, htT⟩ (ct_X4_has l G L hJ q r1 x1 D y3 ey3) ⟨va_cnB 1 htT gdX4_has rfl rfl rfl (hN _ (List.mem_of_getElem? (i := 57) rfl)) (htT _ tw_4) hdX4_has ⟨Nat.le_of_ble_eq_true rfl, Nat.le_of_ble_eq_true rfl⟩, (htT _ tw_168), (htT _ tw_531)⟩ ⟨cp_blind, cp_recv hK hP rfl ef2, cp_pre hP hK hN hZ hS⟩ rfl rfl hl.1 rfl (lv_room (Nat.le_of_ble_eq_true rfl)) dX0_field_5 ⟨Nat.zero_le _, Nat.zero_le _⟩) hS (fun H locs hP hS => ?_)
  refine lv_if_ne (tgt := 13) hx hb dX0_field_8 (by decide) (fun hc4 => ?_) (fun hc4 => ?_)
  · rw [if_neg hc4] at hF
    refine lv_aload_n hx hb dX0_field_13 rfl (lv_at hl 0 rfl) ?_
    obtain ⟨r5, er5, hF⟩ := cp_bind hF
    refine cp_getR (T := TX0) (N := 6) (ci := 0) (j := 1) hx hb htT hinX0 hown hK hP rfl (by decide) rfl (htT _ tw_136) er5 dX0_field_14 ?_
    obtain ⟨r6, er6, hF⟩ := cp_bind hF
    refine cp_getRN (T := TX4) (N := 12) (ci := 4) (j := 4) hx hb htT hinX4 hown hK hP rfl (by decide) rfl (hN _ (List.mem_of_getElem? (i := 45) rfl)) er6 dX0_field_17 ?_
    refine lv_iload_n hx hb dX0_field_20 rfl (lv_at hl 1 rfl) ?_
    obtain ⟨r7, er7, hF⟩ := cp_bind hF
    refine cp_aald hx hb hK hP er7 dX0_field_21 ?_
    refine lv_astore_n (lv' := [(3, .ref (L.2.1 r7)), (0, .ref (L.2.1 k0)), (1, .int x1), (2, .int x2)]) hx hb dX0_field_22 rfl hl (by decide) rfl (fun ls hl => ?_)
    refine lv_iload_n hx hb dX0_field_23 rfl (lv_at hl 3 rfl) ?_
    refine lv_if_lt (tgt := 40) hx hb dX0_field_24 (by decide) (fun hc8 => ?_) (fun hc8 => ?_)
    · rw [if_pos hc8] at hF
      refine lv_iload_n hx hb dX0_field_40 rfl (lv_at hl 3 rfl) ?_
      by_cases hc9 : x2 = (8 : Int32)
      · rw [if_pos hc9] at hF
        refine lv_lookup (off := 27) (tgt := 68) hx hb dX0_field_41 (by decide) (by rw [hc9] <;> rfl) (by decide) ?_
        refine lv_aload_n hx hb dX0_field_68 rfl (lv_at hl 1 rfl) ?_
        obtain ⟨r10, er10, hF⟩ := cp_bind hF
        refine cp_getR (T := TX0) (N := 6) (ci := 0) (j := 0) hx hb htT hinX0 hown hK hP rfl (by decide) rfl (htT _ tw_135) er10 dX0_field_69 ?_
        refine lv_aload_n hx hb dX0_field_72 rfl (lv_at hl 0 rfl) ?_
        obtain ⟨v11, ev11, hF⟩ := cp_bind hF
        refine cp_getIN (T := TX1) (N := 14) (ci := 1) (j := 5) hx hb htT hinX1 hown hK hP rfl (by decide) rfl (hN _ (List.mem_of_getElem? (i := 19) rfl)) ev11 dX0_field_73 ?_
        obtain ⟨f12, ef12, hF⟩ := cp_bind hF
        obtain ⟨y13, ey13, hF⟩ := cp_bind hF
        refine cp_call (st1 := [.int y13.1]) (va_runVN (As := [.int v11]) (rest := []) ⟨hx, hb, hml, hown, htT⟩ (ct_X5_columnOf l G L hJ q r10 v11 y3.2 y13 ey13) ⟨va_cnB 1 htT gdX5_columnOf rfl rfl rfl (hN _ (List.mem_of_getElem? (i := 58) rfl)) (htT _ tw_2) hdX5_columnOf ⟨Nat.le_of_ble_eq_true rfl, Nat.le_of_ble_eq_true rfl⟩, (htT _ tw_36), (htT _ tw_528)⟩ ⟨cp_blind, cp_recv hK hP rfl ef12, cp_pre hP hK hN hZ hS⟩ rfl rfl hl.1 rfl (lv_room (Nat.le_of_ble_eq_true rfl)) dX0_field_76 ⟨Nat.zero_le _, Nat.zero_le _⟩) hS (fun H locs hP hS => ?_)
        exact cp_iret hx hb hr hlocks hF hP hS dX0_field_79
      · rw [if_neg hc9] at hF
        by_cases hc14 : x2 = (9 : Int32)
        · rw [if_pos hc14] at hF
          refine lv_lookup (off := 39) (tgt := 80) hx hb dX0_field_41 (by decide) (by rw [hc14] <;> rfl) (by decide) ?_
          refine lv_aload_n hx hb dX0_field_80 rfl (lv_at hl 1 rfl) ?_
          obtain ⟨r15, er15, hF⟩ := cp_bind hF
          refine cp_getR (T := TX0) (N := 6) (ci := 0) (j := 0) hx hb htT hinX0 hown hK hP rfl (by decide) rfl (htT _ tw_135) er15 dX0_field_81 ?_
          refine lv_aload_n hx hb dX0_field_84 rfl (lv_at hl 0 rfl) ?_
          obtain ⟨v16, ev16, hF⟩ := cp_bind hF
          refine cp_getIN (T := TX1) (N := 14) (ci := 1) (j := 5) hx hb htT hinX1 hown hK hP rfl (by decide) rfl (hN _ (List.mem_of_getElem? (i := 19) rfl)) ev16 dX0_field_85 ?_
          obtain ⟨f17, ef17, hF⟩ := cp_bind hF
          obtain ⟨y18, ey18, hF⟩ := cp_bind hF
          refine cp_call (st1 := [.int y18.1]) (va_runVN (As := [.int v16]) (rest := []) ⟨hx, hb, hml, hown, htT⟩ (ct_X5_rowOf l G L hJ q r15 v16 y3.2 y18 ey18) ⟨va_cnB 1 htT gdX5_rowOf rfl rfl rfl (hN _ (List.mem_of_getElem? (i := 59) rfl)) (htT _ tw_2) hdX5_rowOf ⟨Nat.le_of_ble_eq_true rfl, Nat.le_of_ble_eq_true rfl⟩, (htT _ tw_40), (htT _ tw_529)⟩ ⟨cp_blind, cp_recv hK hP rfl ef17, cp_pre hP hK hN hZ hS⟩ rfl rfl hl.1 rfl (lv_room (Nat.le_of_ble_eq_true rfl)) dX0_field_88 ⟨Nat.zero_le _, Nat.zero_le _⟩) hS (fun H locs hP hS => ?_)
          exact cp_iret hx hb hr hlocks hF hP hS dX0_field_91
        · rw [if_neg hc14] at hF
          refine lv_lookup (off := 51) (tgt := 92) hx hb dX0_field_41 (by decide) (by rw [lv_osw hc9 (by decide), lv_osw hc14 (by decide)] <;> rfl) (by decide) ?_
          refine lv_aload_n hx hb dX0_field_92 rfl (lv_at hl 0 rfl) ?_
          refine lv_iload_n hx hb dX0_field_93 rfl (lv_at hl 3 rfl) ?_
          obtain ⟨f19, ef19, hF⟩ := cp_bind hF
          obtain ⟨y20, ey20, hF⟩ := cp_bind hF
          refine cp_call (st1 := [.int y20.1]) (va_runVN (As := [.int x2]) (rest := []) ⟨hx, hb, hml, hown, htT⟩ (ct_X1_trait l G L hJ q r7 x2 y3.2 y20 ey20) ⟨va_cnB 1 htT gdX1_trait rfl rfl rfl (hN _ (List.mem_of_getElem? (i := 60) rfl)) (htT _ tw_5) hdX1_trait ⟨Nat.le_of_ble_eq_true rfl, Nat.le_of_ble_eq_true rfl⟩, (htT _ tw_170), (htT _ tw_532)⟩ ⟨cp_blind, cp_recv hK hP rfl ef19, cp_pre hP hK hN hZ hS⟩ rfl rfl hl.1 rfl (lv_room (Nat.le_of_ble_eq_true rfl)) dX0_field_94 ⟨Nat.zero_le _, Nat.zero_le _⟩) hS (fun H locs hP hS => ?_)
          exact cp_iret hx hb hr hlocks hF hP hS dX0_field_97
    · rw [if_neg hc8] at hF
      refine lv_iload_n hx hb dX0_field_27 rfl (lv_at hl 3 rfl) ?_
      refine lv_bipush (v := (8 : Int32)) hx hb dX0_field_28 (by decide) ?_
      refine lv_icmp_ge (tgt := 40) hx hb dX0_field_30 (by decide) (fun hc21 => ?_) (fun hc21 => ?_)
      · rw [if_pos hc21] at hF
        refine lv_iload_n hx hb dX0_field_40 rfl (lv_at hl 3 rfl) ?_
        by_cases hc22 : x2 = (8 : Int32)
        · rw [if_pos hc22] at hF
          refine lv_lookup (off := 27) (tgt := 68) hx hb dX0_field_41 (by decide) (by rw [hc22] <;> rfl) (by decide) ?_
          refine lv_aload_n hx hb dX0_field_68 rfl (lv_at hl 1 rfl) ?_
          obtain ⟨r23, er23, hF⟩ := cp_bind hF
          refine cp_getR (T := TX0) (N := 6) (ci := 0) (j := 0) hx hb htT hinX0 hown hK hP rfl (by decide) rfl (htT _ tw_135) er23 dX0_field_69 ?_
          refine lv_aload_n hx hb dX0_field_72 rfl (lv_at hl 0 rfl) ?_
          obtain ⟨v24, ev24, hF⟩ := cp_bind hF
          refine cp_getIN (T := TX1) (N := 14) (ci := 1) (j := 5) hx hb htT hinX1 hown hK hP rfl (by decide) rfl (hN _ (List.mem_of_getElem? (i := 19) rfl)) ev24 dX0_field_73 ?_
          obtain ⟨f25, ef25, hF⟩ := cp_bind hF
          obtain ⟨y26, ey26, hF⟩ := cp_bind hF
          refine cp_call (st1 := [.int y26.1]) (va_runVN (As := [.int v24]) (rest := []) ⟨hx, hb, hml, hown, htT⟩ (ct_X5_columnOf l G L hJ q r23 v24 y3.2 y26 ey26) ⟨va_cnB 1 htT gdX5_columnOf rfl rfl rfl (hN _ (List.mem_of_getElem? (i := 58) rfl)) (htT _ tw_2) hdX5_columnOf ⟨Nat.le_of_ble_eq_true rfl, Nat.le_of_ble_eq_true rfl⟩, (htT _ tw_36), (htT _ tw_528)⟩ ⟨cp_blind, cp_recv hK hP rfl ef25, cp_pre hP hK hN hZ hS⟩ rfl rfl hl.1 rfl (lv_room (Nat.le_of_ble_eq_true rfl)) dX0_field_76 ⟨Nat.zero_le _, Nat.zero_le _⟩) hS (fun H locs hP hS => ?_)
          exact cp_iret hx hb hr hlocks hF hP hS dX0_field_79
        · rw [if_neg hc22] at hF
          by_cases hc27 : x2 = (9 : Int32)
          · rw [if_pos hc27] at hF
            refine lv_lookup (off := 39) (tgt := 80) hx hb dX0_field_41 (by decide) (by rw [hc27] <;> rfl) (by decide) ?_
            refine lv_aload_n hx hb dX0_field_80 rfl (lv_at hl 1 rfl) ?_
            obtain ⟨r28, er28, hF⟩ := cp_bind hF
            refine cp_getR (T := TX0) (N := 6) (ci := 0) (j := 0) hx hb htT hinX0 hown hK hP rfl (by decide) rfl (htT _ tw_135) er28 dX0_field_81 ?_
            refine lv_aload_n hx hb dX0_field_84 rfl (lv_at hl 0 rfl) ?_
            obtain ⟨v29, ev29, hF⟩ := cp_bind hF
            refine cp_getIN (T := TX1) (N := 14) (ci := 1) (j := 5) hx hb htT hinX1 hown hK hP rfl (by decide) rfl (hN _ (List.mem_of_getElem? (i := 19) rfl)) ev29 dX0_field_85 ?_
            obtain ⟨f30, ef30, hF⟩ := cp_bind hF
            obtain ⟨y31, ey31, hF⟩ := cp_bind hF
            refine cp_call (st1 := [.int y31.1]) (va_runVN (As := [.int v29]) (rest := []) ⟨hx, hb, hml, hown, htT⟩ (ct_X5_rowOf l G L hJ q r28 v29 y3.2 y31 ey31) ⟨va_cnB 1 htT gdX5_rowOf rfl rfl rfl (hN _ (List.mem_of_getElem? (i := 59) rfl)) (htT _ tw_2) hdX5_rowOf ⟨Nat.le_of_ble_eq_true rfl, Nat.le_of_ble_eq_true rfl⟩, (htT _ tw_40), (htT _ tw_529)⟩ ⟨cp_blind, cp_recv hK hP rfl ef30, cp_pre hP hK hN hZ hS⟩ rfl rfl hl.1 rfl (lv_room (Nat.le_of_ble_eq_true rfl)) dX0_field_88 ⟨Nat.zero_le _, Nat.zero_le _⟩) hS (fun H locs hP hS => ?_)
            exact cp_iret hx hb hr hlocks hF hP hS dX0_field_91
          · rw [if_neg hc27] at hF
            refine lv_lookup (off := 51) (tgt := 92) hx hb dX0_field_41 (by decide) (by rw [lv_osw hc22 (by decide), lv_osw hc27 (by decide)] <;> rfl) (by decide) ?_
            refine lv_aload_n hx hb dX0_field_92 rfl (lv_at hl 0 rfl) ?_
            refine lv_iload_n hx hb dX0_field_93 rfl (lv_at hl 3 rfl) ?_
            obtain ⟨f32, ef32, hF⟩ := cp_bind hF
            obtain ⟨y33, ey33, hF⟩ := cp_bind hF
            refine cp_call (st1 := [.int y33.1]) (va_runVN (As := [.int x2]) (rest := []) ⟨hx, hb, hml, hown, htT⟩ (ct_X1_trait l G L hJ q r7 x2 y3.2 y33 ey33) ⟨va_cnB 1 htT gdX1_trait rfl rfl rfl (hN _ (List.mem_of_getElem? (i := 60) rfl)) (htT _ tw_5) hdX1_trait ⟨Nat.le_of_ble_eq_true rfl, Nat.le_of_ble_eq_true rfl⟩, (htT _ tw_170), (htT _ tw_532)⟩ ⟨cp_blind, cp_recv hK hP rfl ef32, cp_pre hP hK hN hZ hS⟩ rfl rfl hl.1 rfl (lv_room (Nat.le_of_ble_eq_true rfl)) dX0_field_94 ⟨Nat.zero_le _, Nat.zero_le _⟩) hS (fun H locs hP hS => ?_)
            exact cp_iret hx hb hr hlocks hF hP hS dX0_field_97
      · rw [if_neg hc21] at hF
        refine lv_aload_n hx hb dX0_field_33 rfl (lv_at hl 0 rfl) ?_
        obtain ⟨r34, er34, hF⟩ := cp_bind hF
        refine cp_getRN (T := TX1) (N := 14) (ci := 1) (j := 0) hx hb htT hinX1 hown hK hP rfl (by decide) rfl (hN _ (List.mem_of_getElem? (i := 6) rfl)) er34 dX0_field_34 ?_
        refine lv_iload_n hx hb dX0_field_37 rfl (lv_at hl 3 rfl) ?_
        obtain ⟨v35, ev35, hF⟩ := cp_bind hF
        refine cp_bald hx hb hK hP ev35 dX0_field_38 ?_
        exact cp_iret hx hb hr hlocks hF hP hS dX0_field_39
  · rw [if_pos hc4] at hF
    refine lv_iconst (v := (-1 : Int32)) hx hb dX0_field_11 (by decide) ?_
    exact cp_iret hx hb hr hlocks hF hP hS dX0_field_12
theorem dX0_total_0 : decode cX0_total 0 = .ok (.iload_n 1, 1) := by decide +kernel
theorem dX0_total_1 : decode cX0_total 1 = .ok (.tableswitch 151 0 9 #[55, 63, 71, 79, 103, 111, 119, 127, 135, 143], 55) := by decide +kernel
theorem dX0_total_56 : decode cX0_total 56 = .ok (.aload_n 0, 1) := by decide +kernel
theorem dX0_total_57 : decode cX0_total 57 = .ok (.getfield 32, 3) := by decide +kernel
theorem dX0_total_60 : decode cX0_total 60 = .ok (.invokevirtual 170, 3) := by decide +kernel
theorem dX0_total_63 : decode cX0_total 63 = .ok (.ireturn, 1) := by decide +kernel
theorem dX0_total_64 : decode cX0_total 64 = .ok (.aload_n 0, 1) := by decide +kernel
theorem dX0_total_65 : decode cX0_total 65 = .ok (.getfield 32, 3) := by decide +kernel
theorem dX0_total_68 : decode cX0_total 68 = .ok (.invokevirtual 173, 3) := by decide +kernel
theorem dX0_total_71 : decode cX0_total 71 = .ok (.ireturn, 1) := by decide +kernel
theorem dX0_total_72 : decode cX0_total 72 = .ok (.aload_n 0, 1) := by decide +kernel
theorem dX0_total_73 : decode cX0_total 73 = .ok (.getfield 32, 3) := by decide +kernel
theorem dX0_total_76 : decode cX0_total 76 = .ok (.getfield 62, 3) := by decide +kernel
theorem dX0_total_79 : decode cX0_total 79 = .ok (.ireturn, 1) := by decide +kernel
theorem dX0_total_80 : decode cX0_total 80 = .ok (.aload_n 0, 1) := by decide +kernel
theorem dX0_total_81 : decode cX0_total 81 = .ok (.getfield 32, 3) := by decide +kernel
theorem dX0_total_84 : decode cX0_total 84 = .ok (.invokevirtual 170, 3) := by decide +kernel
theorem dX0_total_87 : decode cX0_total 87 = .ok (.aload_n 0, 1) := by decide +kernel
theorem dX0_total_88 : decode cX0_total 88 = .ok (.getfield 32, 3) := by decide +kernel
theorem dX0_total_91 : decode cX0_total 91 = .ok (.invokevirtual 173, 3) := by decide +kernel
theorem dX0_total_94 : decode cX0_total 94 = .ok (.iadd, 1) := by decide +kernel
theorem dX0_total_95 : decode cX0_total 95 = .ok (.aload_n 0, 1) := by decide +kernel
theorem dX0_total_96 : decode cX0_total 96 = .ok (.getfield 32, 3) := by decide +kernel
theorem dX0_total_99 : decode cX0_total 99 = .ok (.getfield 62, 3) := by decide +kernel
theorem dX0_total_102 : decode cX0_total 102 = .ok (.iadd, 1) := by decide +kernel
theorem dX0_total_103 : decode cX0_total 103 = .ok (.ireturn, 1) := by decide +kernel
theorem dX0_total_104 : decode cX0_total 104 = .ok (.aload_n 0, 1) := by decide +kernel
theorem dX0_total_105 : decode cX0_total 105 = .ok (.getfield 32, 3) := by decide +kernel
theorem dX0_total_108 : decode cX0_total 108 = .ok (.invokevirtual 134, 3) := by decide +kernel
theorem dX0_total_111 : decode cX0_total 111 = .ok (.ireturn, 1) := by decide +kernel
theorem dX0_total_112 : decode cX0_total 112 = .ok (.aload_n 0, 1) := by decide +kernel
theorem dX0_total_113 : decode cX0_total 113 = .ok (.getfield 32, 3) := by decide +kernel
theorem dX0_total_116 : decode cX0_total 116 = .ok (.getfield 176, 3) := by decide +kernel
theorem dX0_total_119 : decode cX0_total 119 = .ok (.ireturn, 1) := by decide +kernel
theorem dX0_total_120 : decode cX0_total 120 = .ok (.aload_n 0, 1) := by decide +kernel
theorem dX0_total_121 : decode cX0_total 121 = .ok (.getfield 32, 3) := by decide +kernel
theorem dX0_total_124 : decode cX0_total 124 = .ok (.getfield 179, 3) := by decide +kernel
theorem dX0_total_127 : decode cX0_total 127 = .ok (.ireturn, 1) := by decide +kernel
theorem dX0_total_128 : decode cX0_total 128 = .ok (.aload_n 0, 1) := by decide +kernel
theorem dX0_total_129 : decode cX0_total 129 = .ok (.getfield 32, 3) := by decide +kernel
theorem dX0_total_132 : decode cX0_total 132 = .ok (.getfield 131, 3) := by decide +kernel
theorem dX0_total_135 : decode cX0_total 135 = .ok (.ireturn, 1) := by decide +kernel
theorem dX0_total_136 : decode cX0_total 136 = .ok (.aload_n 0, 1) := by decide +kernel
theorem dX0_total_137 : decode cX0_total 137 = .ok (.getfield 32, 3) := by decide +kernel
theorem dX0_total_140 : decode cX0_total 140 = .ok (.getfield 59, 3) := by decide +kernel
theorem dX0_total_143 : decode cX0_total 143 = .ok (.ireturn, 1) := by decide +kernel
theorem dX0_total_144 : decode cX0_total 144 = .ok (.aload_n 0, 1) := by decide +kernel
theorem dX0_total_145 : decode cX0_total 145 = .ok (.getfield 32, 3) := by decide +kernel
theorem dX0_total_148 : decode cX0_total 148 = .ok (.getfield 182, 3) := by decide +kernel
theorem dX0_total_151 : decode cX0_total 151 = .ok (.ireturn, 1) := by decide +kernel
theorem dX0_total_152 : decode cX0_total 152 = .ok (.iconst (-1), 1) := by decide +kernel
theorem dX0_total_153 : decode cX0_total 153 = .ok (.ireturn, 1) := by decide +kernel
def fn_X0_total (L : cp_Lay) (q : Nat) (k0 : Nat) (x1 : Int32) (D : cp_Dt) : Option (Int32 × cp_Dt) :=
  if x1 = (0 : Int32) then ((cp_gR L k0 0 1).bind fun r2 =>
  (cp_fl L r2 4).bind fun f3 =>
  (fn_X4_energyOfAll L q r2 D).bind fun y4 =>
  some (y4.1, y4.2))
  else if x1 = (1 : Int32) then ((cp_gR L k0 0 1).bind fun r6 =>
  (cp_fl L r6 4).bind fun f7 =>
  (fn_X4_grainOfAll L q r6 D).bind fun y8 =>
  some (y8.1, y8.2))
  else if x1 = (2 : Int32) then ((cp_gR L k0 0 1).bind fun r10 =>
  (cp_gI L D r10 4 5).bind fun v11 =>
  some (v11, D))
  else if x1 = (3 : Int32) then ((cp_gR L k0 0 1).bind fun r13 =>
  (cp_fl L r13 4).bind fun f14 =>
  (fn_X4_energyOfAll L q r13 D).bind fun y15 =>
  (cp_gR L k0 0 1).bind fun r16 =>
  (cp_fl L r16 4).bind fun f17 =>
  (fn_X4_grainOfAll L q r16 y15.2).bind fun y18 =>
  (cp_gR L k0 0 1).bind fun r19 =>
  (cp_gI L y18.2 r19 4 5).bind fun v20 =>
  some (((y15.1 + y18.1) + v20), y18.2))
  else if x1 = (4 : Int32) then ((cp_gR L k0 0 1).bind fun r22 =>
  (cp_fl L r22 4).bind fun f23 =>
  (fn_X4_countAnimals L q r22 D).bind fun y24 =>
  some (y24.1, y24.2))
  else if x1 = (5 : Int32) then ((cp_gR L k0 0 1).bind fun r26 =>
  (cp_gI L D r26 4 9).bind fun v27 =>
  some (v27, D))
  else if x1 = (6 : Int32) then ((cp_gR L k0 0 1).bind fun r29 =>
  (cp_gI L D r29 4 10).bind fun v30 =>
  some (v30, D))
  else if x1 = (7 : Int32) then ((cp_gR L k0 0 1).bind fun r32 =>
  (cp_gI L D r32 4 11).bind fun v33 =>
  some (v33, D))
  else if x1 = (8 : Int32) then ((cp_gR L k0 0 1).bind fun r35 =>
  (cp_gI L D r35 4 7).bind fun v36 =>
  some (v36, D))
  else if x1 = (9 : Int32) then ((cp_gR L k0 0 1).bind fun r38 =>
  (cp_gI L D r38 4 8).bind fun v39 =>
  some (v39, D))
  else (some ((-1 : Int32), D))
set_option maxHeartbeats 4000000 in
set_option maxRecDepth 100000 in
theorem ct_X0_total (l : Launch) (G : va_G) (L : cp_Lay) (hJ : cp_J L) (q : Nat) (k0 : Nat) (x1 : Int32) (D : cp_Dt) (res : Int32 × cp_Dt) (hF : fn_X0_total L q k0 x1 D = some res) : cp_Met l G yX0_total wsX0_total ({ frames := 1, cells := 0, slots := 0, locals := 25 }) L ([.ref (L.2.1 k0), .int x1] : List Value) D res.2 (some (.int res.1)) := by
  refine Met.ofW (cc := cX0_total) (maxL := 2) (ret := (some .int)) (by decide) rfl ?_
  intro p e s m args below meth c s₁ B hml hv
  obtain ⟨rfl, hP, hK, hN, hZ⟩ := hv
  have hx := B.exec
  have hb := B.bytes
  have hr := B.returns
  have hts := atoms_spec (ws := wsX0_total) B.pre
  have hown : s.vm.findClass "CreaturePond" = some m.cls := findClass_of_methodNamed B.named
  have hlocks := B.notSynchronized
  have hS : va_S (cp_A L) s.heap s.heap [] := va_S.rf
  have htT : ∀ w ∈ cp_T, w.before ([.ref (L.2.1 k0), .int x1] : List Value).toArray s = true := fun w h => hts w (List.mem_cons_of_mem _ h)
  have hl := lv_entry (([.ref (L.2.1 k0), .int x1] : List Value)) (n := 2) (Nat.le_of_ble_eq_true rfl)
  rw [lg_entry_eq]
  generalize (lg_sl (([.ref (L.2.1 k0), .int x1] : List Value)) ++ List.replicate (2 - (lg_sl (([.ref (L.2.1 k0), .int x1] : List Value))).length) Slot.unset).toArray = ls at hl ⊢
  have hl : lv_has ls 2 [(0, .ref (L.2.1 k0)), (1, .int x1)] := hl
  unfold fn_X0_total at hF
  refine lv_iload_n hx hb dX0_total_0 rfl (lv_at hl 1 rfl) ?_
  by_cases hc1 : x1 = (0 : Int32)
  · rw [if_pos hc1] at hF
    refine lv_tableIn (tgt := 56) hx hb dX0_total_1 (by rw [hc1]; decide) (by rw [hc1]; decide) (by rw [hc1]; rfl) (by decide) ?_
    refine lv_aload_n hx hb dX0_total_56 rfl (lv_at hl 0 rfl) ?_
    obtain ⟨r2, er2, hF⟩ := cp_bind hF
    refine cp_getR (T := TX0) (N := 6) (ci := 0) (j := 1) hx hb htT hinX0 hown hK hP rfl (by decide) rfl (htT _ tw_136) er2 dX0_total_57 ?_
    obtain ⟨f3, ef3, hF⟩ := cp_bind hF
    obtain ⟨y4, ey4, hF⟩ := cp_bind hF
    refine cp_call (st1 := [.int y4.1]) (va_runVN (As := []) (rest := []) ⟨hx, hb, hml, hown, htT⟩ (ct_X4_energyOfAll l G L hJ q r2 D y4 ey4) ⟨va_cnB 0 htT gdX4_energyOfAll rfl rfl rfl (hN _ (List.mem_of_getElem? (i := 61) rfl)) (htT _ tw_4) hdX4_energyOfAll ⟨Nat.le_of_ble_eq_true rfl, Nat.le_of_ble_eq_true rfl⟩, (htT _ tw_176), (htT _ tw_533)⟩ ⟨cp_blind, cp_recv hK hP rfl ef3, cp_pre hP hK hN hZ hS⟩ rfl rfl hl.1 rfl (lv_room (Nat.le_of_ble_eq_true rfl)) dX0_total_60 ⟨Nat.zero_le _, Nat.zero_le _⟩) hS (fun H locs hP hS => ?_)
    exact cp_iret hx hb hr hlocks hF hP hS dX0_total_63
  · rw [if_neg hc1] at hF
    by_cases hc5 : x1 = (1 : Int32)
    · rw [if_pos hc5] at hF
      refine lv_tableIn (tgt := 64) hx hb dX0_total_1 (by rw [hc5]; decide) (by rw [hc5]; decide) (by rw [hc5]; rfl) (by decide) ?_
      refine lv_aload_n hx hb dX0_total_64 rfl (lv_at hl 0 rfl) ?_
      obtain ⟨r6, er6, hF⟩ := cp_bind hF
      refine cp_getR (T := TX0) (N := 6) (ci := 0) (j := 1) hx hb htT hinX0 hown hK hP rfl (by decide) rfl (htT _ tw_136) er6 dX0_total_65 ?_
      obtain ⟨f7, ef7, hF⟩ := cp_bind hF
      obtain ⟨y8, ey8, hF⟩ := cp_bind hF
      refine cp_call (st1 := [.int y8.1]) (va_runVN (As := []) (rest := []) ⟨hx, hb, hml, hown, htT⟩ (ct_X4_grainOfAll l G L hJ q r6 D y8 ey8) ⟨va_cnB 0 htT gdX4_grainOfAll rfl rfl rfl (hN _ (List.mem_of_getElem? (i := 62) rfl)) (htT _ tw_4) hdX4_grainOfAll ⟨Nat.le_of_ble_eq_true rfl, Nat.le_of_ble_eq_true rfl⟩, (htT _ tw_178), (htT _ tw_534)⟩ ⟨cp_blind, cp_recv hK hP rfl ef7, cp_pre hP hK hN hZ hS⟩ rfl rfl hl.1 rfl (lv_room (Nat.le_of_ble_eq_true rfl)) dX0_total_68 ⟨Nat.zero_le _, Nat.zero_le _⟩) hS (fun H locs hP hS => ?_)
      exact cp_iret hx hb hr hlocks hF hP hS dX0_total_71
    · rw [if_neg hc5] at hF
      by_cases hc9 : x1 = (2 : Int32)
      · rw [if_pos hc9] at hF
        refine lv_tableIn (tgt := 72) hx hb dX0_total_1 (by rw [hc9]; decide) (by rw [hc9]; decide) (by rw [hc9]; rfl) (by decide) ?_
        refine lv_aload_n hx hb dX0_total_72 rfl (lv_at hl 0 rfl) ?_
        obtain ⟨r10, er10, hF⟩ := cp_bind hF
        refine cp_getR (T := TX0) (N := 6) (ci := 0) (j := 1) hx hb htT hinX0 hown hK hP rfl (by decide) rfl (htT _ tw_136) er10 dX0_total_73 ?_
        obtain ⟨v11, ev11, hF⟩ := cp_bind hF
        refine cp_getIN (T := TX4) (N := 12) (ci := 4) (j := 5) hx hb htT hinX4 hown hK hP rfl (by decide) rfl (hN _ (List.mem_of_getElem? (i := 46) rfl)) ev11 dX0_total_76 ?_
        exact cp_iret hx hb hr hlocks hF hP hS dX0_total_79
      · rw [if_neg hc9] at hF
        by_cases hc12 : x1 = (3 : Int32)
        · rw [if_pos hc12] at hF
          refine lv_tableIn (tgt := 80) hx hb dX0_total_1 (by rw [hc12]; decide) (by rw [hc12]; decide) (by rw [hc12]; rfl) (by decide) ?_
          refine lv_aload_n hx hb dX0_total_80 rfl (lv_at hl 0 rfl) ?_
          obtain ⟨r13, er13, hF⟩ := cp_bind hF
          refine cp_getR (T := TX0) (N := 6) (ci := 0) (j := 1) hx hb htT hinX0 hown hK hP rfl (by decide) rfl (htT _ tw_136) er13 dX0_total_81 ?_
          obtain ⟨f14, ef14, hF⟩ := cp_bind hF
          obtain ⟨y15, ey15, hF⟩ := cp_bind hF
          refine cp_call (st1 := [.int y15.1]) (va_runVN (As := []) (rest := []) ⟨hx, hb, hml, hown, htT⟩ (ct_X4_energyOfAll l G L hJ q r13 D y15 ey15) ⟨va_cnB 0 htT gdX4_energyOfAll rfl rfl rfl (hN _ (List.mem_of_getElem? (i := 61) rfl)) (htT _ tw_4) hdX4_energyOfAll ⟨Nat.le_of_ble_eq_true rfl, Nat.le_of_ble_eq_true rfl⟩, (htT _ tw_176), (htT _ tw_533)⟩ ⟨cp_blind, cp_recv hK hP rfl ef14, cp_pre hP hK hN hZ hS⟩ rfl rfl hl.1 rfl (lv_room (Nat.le_of_ble_eq_true rfl)) dX0_total_84 ⟨Nat.zero_le _, Nat.zero_le _⟩) hS (fun H locs hP hS => ?_)
          refine lv_aload_n hx hb dX0_total_87 rfl (lv_at hl 0 rfl) ?_
          obtain ⟨r16, er16, hF⟩ := cp_bind hF
          refine cp_getR (T := TX0) (N := 6) (ci := 0) (j := 1) hx hb htT hinX0 hown hK hP rfl (by decide) rfl (htT _ tw_136) er16 dX0_total_88 ?_
          obtain ⟨f17, ef17, hF⟩ := cp_bind hF
          obtain ⟨y18, ey18, hF⟩ := cp_bind hF
          refine cp_call (st1 := [.int y18.1, .int y15.1]) (va_runVN (As := []) (rest := [.int y15.1]) ⟨hx, hb, hml, hown, htT⟩ (ct_X4_grainOfAll l G L hJ q r16 y15.2 y18 ey18) ⟨va_cnB 0 htT gdX4_grainOfAll rfl rfl rfl (hN _ (List.mem_of_getElem? (i := 62) rfl)) (htT _ tw_4) hdX4_grainOfAll ⟨Nat.le_of_ble_eq_true rfl, Nat.le_of_ble_eq_true rfl⟩, (htT _ tw_178), (htT _ tw_534)⟩ ⟨cp_blind, cp_recv hK hP rfl ef17, cp_pre hP hK hN hZ hS⟩ rfl rfl hl.1 rfl (lv_room (Nat.le_of_ble_eq_true rfl)) dX0_total_91 ⟨Nat.zero_le _, Nat.zero_le _⟩) hS (fun H locs hP hS => ?_)
          refine lv_iadd hx hb dX0_total_94 ?_
          refine lv_aload_n hx hb dX0_total_95 rfl (lv_at hl 0 rfl) ?_
          obtain ⟨r19, er19, hF⟩ := cp_bind hF
          refine cp_getR (T := TX0) (N := 6) (ci := 0) (j := 1) hx hb htT hinX0 hown hK hP rfl (by decide) rfl (htT _ tw_136) er19 dX0_total_96 ?_
          obtain ⟨v20, ev20, hF⟩ := cp_bind hF
          refine cp_getIN (T := TX4) (N := 12) (ci := 4) (j := 5) hx hb htT hinX4 hown hK hP rfl (by decide) rfl (hN _ (List.mem_of_getElem? (i := 46) rfl)) ev20 dX0_total_99 ?_
          refine lv_iadd hx hb dX0_total_102 ?_
          exact cp_iret hx hb hr hlocks hF hP hS dX0_total_103
        · rw [if_neg hc12] at hF
          by_cases hc21 : x1 = (4 : Int32)
          · rw [if_pos hc21] at hF
            refine lv_tableIn (tgt := 104) hx hb dX0_total_1 (by rw [hc21]; decide) (by rw [hc21]; decide) (by rw [hc21]; rfl) (by decide) ?_
            refine lv_aload_n hx hb dX0_total_104 rfl (lv_at hl 0 rfl) ?_
            obtain ⟨r22, er22, hF⟩ := cp_bind hF
            refine cp_getR (T := TX0) (N := 6) (ci := 0) (j := 1) hx hb htT hinX0 hown hK hP rfl (by decide) rfl (htT _ tw_136) er22 dX0_total_105 ?_
            obtain ⟨f23, ef23, hF⟩ := cp_bind hF
            obtain ⟨y24, ey24, hF⟩ := cp_bind hF
            refine cp_call (st1 := [.int y24.1]) (va_runVN (As := []) (rest := []) ⟨hx, hb, hml, hown, htT⟩ (ct_X4_countAnimals l G L hJ q r22 D y24 ey24) ⟨va_cnB 0 htT gdX4_countAnimals rfl rfl rfl (hN _ (List.mem_of_getElem? (i := 63) rfl)) (htT _ tw_4) hdX4_countAnimals ⟨Nat.le_of_ble_eq_true rfl, Nat.le_of_ble_eq_true rfl⟩, (htT _ tw_180), (htT _ tw_535)⟩ ⟨cp_blind, cp_recv hK hP rfl ef23, cp_pre hP hK hN hZ hS⟩ rfl rfl hl.1 rfl (lv_room (Nat.le_of_ble_eq_true rfl)) dX0_total_108 ⟨Nat.zero_le _, Nat.zero_le _⟩) hS (fun H locs hP hS => ?_)
            exact cp_iret hx hb hr hlocks hF hP hS dX0_total_111
          · rw [if_neg hc21] at hF
            by_cases hc25 : x1 = (5 : Int32)
            · rw [if_pos hc25] at hF
              refine lv_tableIn (tgt := 112) hx hb dX0_total_1 (by rw [hc25]; decide) (by rw [hc25]; decide) (by rw [hc25]; rfl) (by decide) ?_
              refine lv_aload_n hx hb dX0_total_112 rfl (lv_at hl 0 rfl) ?_
              obtain ⟨r26, er26, hF⟩ := cp_bind hF
              refine cp_getR (T := TX0) (N := 6) (ci := 0) (j := 1) hx hb htT hinX0 hown hK hP rfl (by decide) rfl (htT _ tw_136) er26 dX0_total_113 ?_
              obtain ⟨v27, ev27, hF⟩ := cp_bind hF
              refine cp_getIN (T := TX4) (N := 12) (ci := 4) (j := 9) hx hb htT hinX4 hown hK hP rfl (by decide) rfl (hN _ (List.mem_of_getElem? (i := 51) rfl)) ev27 dX0_total_116 ?_
              exact cp_iret hx hb hr hlocks hF hP hS dX0_total_119
            · rw [if_neg hc25] at hF
              by_cases hc28 : x1 = (6 : Int32)
              · rw [if_pos hc28] at hF
                refine lv_tableIn (tgt := 120) hx hb dX0_total_1 (by rw [hc28]; decide) (by rw [hc28]; decide) (by rw [hc28]; rfl) (by decide) ?_
                refine lv_aload_n hx hb dX0_total_120 rfl (lv_at hl 0 rfl) ?_
                obtain ⟨r29, er29, hF⟩ := cp_bind hF
                refine cp_getR (T := TX0) (N := 6) (ci := 0) (j := 1) hx hb htT hinX0 hown hK hP rfl (by decide) rfl (htT _ tw_136) er29 dX0_total_121 ?_
                obtain ⟨v30, ev30, hF⟩ := cp_bind hF
                refine cp_getIN (T := TX4) (N := 12) (ci := 4) (j := 10) hx hb htT hinX4 hown hK hP rfl (by decide) rfl (hN _ (List.mem_of_getElem? (i := 52) rfl)) ev30 dX0_total_124 ?_
                exact cp_iret hx hb hr hlocks hF hP hS dX0_total_127
              · rw [if_neg hc28] at hF
                by_cases hc31 : x1 = (7 : Int32)
                · rw [if_pos hc31] at hF
                  refine lv_tableIn (tgt := 128) hx hb dX0_total_1 (by rw [hc31]; decide) (by rw [hc31]; decide) (by rw [hc31]; rfl) (by decide) ?_
                  refine lv_aload_n hx hb dX0_total_128 rfl (lv_at hl 0 rfl) ?_
                  obtain ⟨r32, er32, hF⟩ := cp_bind hF
                  refine cp_getR (T := TX0) (N := 6) (ci := 0) (j := 1) hx hb htT hinX0 hown hK hP rfl (by decide) rfl (htT _ tw_136) er32 dX0_total_129 ?_
                  obtain ⟨v33, ev33, hF⟩ := cp_bind hF
                  refine cp_getIN (T := TX4) (N := 12) (ci := 4) (j := 11) hx hb htT hinX4 hown hK hP rfl (by decide) rfl (hN _ (List.mem_of_getElem? (i := 53) rfl)) ev33 dX0_total_132 ?_
                  exact cp_iret hx hb hr hlocks hF hP hS dX0_total_135
                · rw [if_neg hc31] at hF
                  by_cases hc34 : x1 = (8 : Int32)
                  · rw [if_pos hc34] at hF
                    refine lv_tableIn (tgt := 136) hx hb dX0_total_1 (by rw [hc34]; decide) (by rw [hc34]; decide) (by rw [hc34]; rfl) (by decide) ?_
                    refine lv_aload_n hx hb dX0_total_136 rfl (lv_at hl 0 rfl) ?_
                    obtain ⟨r35, er35, hF⟩ := cp_bind hF
                    refine cp_getR (T := TX0) (N := 6) (ci := 0) (j := 1) hx hb htT hinX0 hown hK hP rfl (by decide) rfl (htT _ tw_136) er35 dX0_total_137 ?_
                    obtain ⟨v36, ev36, hF⟩ := cp_bind hF
                    refine cp_getIN (T := TX4) (N := 12) (ci := 4) (j := 7) hx hb htT hinX4 hown hK hP rfl (by decide) rfl (hN _ (List.mem_of_getElem? (i := 48) rfl)) ev36 dX0_total_140 ?_
                    exact cp_iret hx hb hr hlocks hF hP hS dX0_total_143
                  · rw [if_neg hc34] at hF
                    by_cases hc37 : x1 = (9 : Int32)
                    · rw [if_pos hc37] at hF
                      refine lv_tableIn (tgt := 144) hx hb dX0_total_1 (by rw [hc37]; decide) (by rw [hc37]; decide) (by rw [hc37]; rfl) (by decide) ?_
                      refine lv_aload_n hx hb dX0_total_144 rfl (lv_at hl 0 rfl) ?_
                      obtain ⟨r38, er38, hF⟩ := cp_bind hF
                      refine cp_getR (T := TX0) (N := 6) (ci := 0) (j := 1) hx hb htT hinX0 hown hK hP rfl (by decide) rfl (htT _ tw_136) er38 dX0_total_145 ?_
                      obtain ⟨v39, ev39, hF⟩ := cp_bind hF
                      refine cp_getIN (T := TX4) (N := 12) (ci := 4) (j := 8) hx hb htT hinX4 hown hK hP rfl (by decide) rfl (hN _ (List.mem_of_getElem? (i := 49) rfl)) ev39 dX0_total_148 ?_
                      exact cp_iret hx hb hr hlocks hF hP hS dX0_total_151
                    · rw [if_neg hc37] at hF
                      have zhc1 := lv_neT (a := 0) hc1 (by decide)
                      have zhc5 := lv_neT (a := 1) hc5 (by decide)
                      have zhc9 := lv_neT (a := 2) hc9 (by decide)
                      have zhc12 := lv_neT (a := 3) hc12 (by decide)
                      have zhc21 := lv_neT (a := 4) hc21 (by decide)
                      have zhc25 := lv_neT (a := 5) hc25 (by decide)
                      have zhc28 := lv_neT (a := 6) hc28 (by decide)
                      have zhc31 := lv_neT (a := 7) hc31 (by decide)
                      have zhc34 := lv_neT (a := 8) hc34 (by decide)
                      have zhc37 := lv_neT (a := 9) hc37 (by decide)
                      refine lv_tableOut (tgt := 152) hx hb dX0_total_1 (by omega) (by decide) ?_
                      refine lv_iconst (v := (-1 : Int32)) hx hb dX0_total_152 (by decide) ?_
                      exact cp_iret hx hb hr hlocks hF hP hS dX0_total_153
theorem dX0_keep_0 : decode cX0_keep 0 = .ok (.aload_n 0, 1) := by decide +kernel
theorem dX0_keep_1 : decode cX0_keep 1 = .ok (.getfield 36, 3) := by decide +kernel
theorem dX0_keep_4 : decode cX0_keep 4 = .ok (.aload_n 0, 1) := by decide +kernel
theorem dX0_keep_5 : decode cX0_keep 5 = .ok (.getfield 32, 3) := by decide +kernel
theorem dX0_keep_8 : decode cX0_keep 8 = .ok (.invokevirtual 185, 3) := by decide +kernel
theorem dX0_keep_11 : decode cX0_keep 11 = .ok (.aload_n 0, 1) := by decide +kernel
theorem dX0_keep_12 : decode cX0_keep 12 = .ok (.iconst 1, 1) := by decide +kernel
theorem dX0_keep_13 : decode cX0_keep 13 = .ok (.putfield 188, 3) := by decide +kernel
theorem dX0_keep_16 : decode cX0_keep 16 = .ok (.return_, 1) := by decide +kernel
def fn_X0_keep (L : cp_Lay) (q : Nat) (k0 : Nat) (D : cp_Dt) : Option (cp_Dt) :=
  (cp_gR L k0 0 2).bind fun r1 =>
  (cp_gR L k0 0 1).bind fun r2 =>
  (cp_fl L r1 4).bind fun f3 =>
  (fn_X4_copyFrom L q r1 r2 D).bind fun D4 =>
  (cp_pZ L D4 k0 0 5 (1 : Int32)).bind fun D5 =>
  some D5
set_option maxHeartbeats 4000000 in
set_option maxRecDepth 100000 in
theorem ct_X0_keep (l : Launch) (G : va_G) (L : cp_Lay) (hJ : cp_J L) (q : Nat) (k0 : Nat) (D : cp_Dt) (res : cp_Dt) (hF : fn_X0_keep L q k0 D = some res) : cp_Met l G yX0_keep wsX0_keep ({ frames := 3, cells := 0, slots := 0, locals := 69 }) L ([.ref (L.2.1 k0)] : List Value) D res none := by
  refine Met.ofW (cc := cX0_keep) (maxL := 1) (ret := none) (by decide) rfl ?_
  intro p e s m args below meth c s₁ B hml hv
  obtain ⟨rfl, hP, hK, hN, hZ⟩ := hv
  have hx := B.exec
  have hb := B.bytes
  have hr := B.returns
  have hts := atoms_spec (ws := wsX0_keep) B.pre
  have hown : s.vm.findClass "CreaturePond" = some m.cls := findClass_of_methodNamed B.named
  have hlocks := B.notSynchronized
  have hS : va_S (cp_A L) s.heap s.heap [] := va_S.rf
  have htT : ∀ w ∈ cp_T, w.before ([.ref (L.2.1 k0)] : List Value).toArray s = true := fun w h => hts w (List.mem_cons_of_mem _ h)
  have hl := lv_entry (([.ref (L.2.1 k0)] : List Value)) (n := 1) (Nat.le_of_ble_eq_true rfl)
  rw [lg_entry_eq]
  generalize (lg_sl (([.ref (L.2.1 k0)] : List Value)) ++ List.replicate (1 - (lg_sl (([.ref (L.2.1 k0)] : List Value))).length) Slot.unset).toArray = ls at hl ⊢
  have hl : lv_has ls 1 [(0, .ref (L.2.1 k0))] := hl
  unfold fn_X0_keep at hF
  refine lv_aload_n hx hb dX0_keep_0 rfl (lv_at hl 0 rfl) ?_
  obtain ⟨r1, er1, hF⟩ := cp_bind hF
  refine cp_getR (T := TX0) (N := 6) (ci := 0) (j := 2) hx hb htT hinX0 hown hK hP rfl (by decide) rfl (htT _ tw_137) er1 dX0_keep_1 ?_
  refine lv_aload_n hx hb dX0_keep_4 rfl (lv_at hl 0 rfl) ?_
  obtain ⟨r2, er2, hF⟩ := cp_bind hF
  refine cp_getR (T := TX0) (N := 6) (ci := 0) (j := 1) hx hb htT hinX0 hown hK hP rfl (by decide) rfl (htT _ tw_136) er2 dX0_keep_5 ?_
  obtain ⟨f3, ef3, hF⟩ := cp_bind hF
  obtain ⟨D4, eD4, hF⟩ := cp_bind hF
  refine cp_call (st1 := []) (va_runVN (As := [.ref (L.2.1 r2)]) (rest := []) ⟨hx, hb, hml, hown, htT⟩ (ct_X4_copyFrom l G L hJ q r1 r2 D D4 eD4) ⟨va_cnB 1 htT gdX4_copyFrom rfl rfl rfl (hN _ (List.mem_of_getElem? (i := 64) rfl)) (htT _ tw_4) hdX4_copyFrom ⟨Nat.le_of_ble_eq_true rfl, Nat.le_of_ble_eq_true rfl⟩, (htT _ tw_186), (htT _ tw_536)⟩ ⟨cp_blind, cp_recv hK hP rfl ef3, cp_pre hP hK hN hZ hS⟩ rfl rfl hl.1 rfl (lv_room (Nat.le_of_ble_eq_true rfl)) dX0_keep_8 ⟨Nat.zero_le _, Nat.zero_le _⟩) hS (fun H locs hP hS => ?_)
  refine lv_aload_n hx hb dX0_keep_11 rfl (lv_at hl 0 rfl) ?_
  refine lv_iconst (v := (1 : Int32)) hx hb dX0_keep_12 (by decide) ?_
  obtain ⟨D5, eD5, hF⟩ := cp_bind hF
  refine cp_put (T := TX0) (N := 6) (ci := 0) (j := 5) hx hb htT hinX0 tyX0 tyX0_ok nmX0 hown hK hJ hP hS rfl (by decide) rfl (htT _ tw_140) rfl (cp_pZ_spec eD5).2.1 (cp_pZ_spec eD5).2.2 (cp_pZ_spec eD5).1 dX0_keep_13 (fun H locs hP hS => ?_)
  exact cp_vret hx hb hr hlocks hF hP hS dX0_keep_16
theorem dX0_back_0 : decode cX0_back 0 = .ok (.aload_n 0, 1) := by decide +kernel
theorem dX0_back_1 : decode cX0_back 1 = .ok (.getfield 188, 3) := by decide +kernel
theorem dX0_back_4 : decode cX0_back 4 = .ok (.ifCond .ne 5, 3) := by decide +kernel
theorem dX0_back_7 : decode cX0_back 7 = .ok (.iconst 0, 1) := by decide +kernel
theorem dX0_back_8 : decode cX0_back 8 = .ok (.ireturn, 1) := by decide +kernel
theorem dX0_back_9 : decode cX0_back 9 = .ok (.aload_n 0, 1) := by decide +kernel
theorem dX0_back_10 : decode cX0_back 10 = .ok (.getfield 32, 3) := by decide +kernel
theorem dX0_back_13 : decode cX0_back 13 = .ok (.aload_n 0, 1) := by decide +kernel
theorem dX0_back_14 : decode cX0_back 14 = .ok (.getfield 36, 3) := by decide +kernel
theorem dX0_back_17 : decode cX0_back 17 = .ok (.invokevirtual 185, 3) := by decide +kernel
theorem dX0_back_20 : decode cX0_back 20 = .ok (.iconst 1, 1) := by decide +kernel
theorem dX0_back_21 : decode cX0_back 21 = .ok (.ireturn, 1) := by decide +kernel
def fn_X0_back (L : cp_Lay) (q : Nat) (k0 : Nat) (D : cp_Dt) : Option (Int32 × cp_Dt) :=
  (cp_gI L D k0 0 5).bind fun v1 =>
  if v1 = 0 then (some ((0 : Int32), D))
  else ((cp_gR L k0 0 1).bind fun r3 =>
  (cp_gR L k0 0 2).bind fun r4 =>
  (cp_fl L r3 4).bind fun f5 =>
  (fn_X4_copyFrom L q r3 r4 D).bind fun D6 =>
  some ((1 : Int32), D6))
set_option maxHeartbeats 4000000 in
set_option maxRecDepth 100000 in
theorem ct_X0_back (l : Launch) (G : va_G) (L : cp_Lay) (hJ : cp_J L) (q : Nat) (k0 : Nat) (D : cp_Dt) (res : Int32 × cp_Dt) (hF : fn_X0_back L q k0 D = some res) : cp_Met l G yX0_back wsX0_back ({ frames := 3, cells := 0, slots := 0, locals := 69 }) L ([.ref (L.2.1 k0)] : List Value) D res.2 (some (.int res.1)) := by
  refine Met.ofW (cc := cX0_back) (maxL := 1) (ret := (some .boolean)) (by decide) rfl ?_
  intro p e s m args below meth c s₁ B hml hv
  obtain ⟨rfl, hP, hK, hN, hZ⟩ := hv
  have hx := B.exec
  have hb := B.bytes
  have hr := B.returns
  have hts := atoms_spec (ws := wsX0_back) B.pre
  have hown : s.vm.findClass "CreaturePond" = some m.cls := findClass_of_methodNamed B.named
  have hlocks := B.notSynchronized
  have hS : va_S (cp_A L) s.heap s.heap [] := va_S.rf
  have htT : ∀ w ∈ cp_T, w.before ([.ref (L.2.1 k0)] : List Value).toArray s = true := fun w h => hts w (List.mem_cons_of_mem _ h)
  have hl := lv_entry (([.ref (L.2.1 k0)] : List Value)) (n := 1) (Nat.le_of_ble_eq_true rfl)
  rw [lg_entry_eq]
  generalize (lg_sl (([.ref (L.2.1 k0)] : List Value)) ++ List.replicate (1 - (lg_sl (([.ref (L.2.1 k0)] : List Value))).length) Slot.unset).toArray = ls at hl ⊢
  have hl : lv_has ls 1 [(0, .ref (L.2.1 k0))] := hl
  unfold fn_X0_back at hF
  refine lv_aload_n hx hb dX0_back_0 rfl (lv_at hl 0 rfl) ?_
  obtain ⟨v1, ev1, hF⟩ := cp_bind hF
  refine cp_getI (T := TX0) (N := 6) (ci := 0) (j := 5) hx hb htT hinX0 hown hK hP rfl (by decide) rfl (htT _ tw_140) ev1 dX0_back_1 ?_
  refine lv_if_ne (tgt := 9) hx hb dX0_back_4 (by decide) (fun hc2 => ?_) (fun hc2 => ?_)
  · rw [if_neg hc2] at hF
    refine lv_aload_n hx hb dX0_back_9 rfl (lv_at hl 0 rfl) ?_
    obtain ⟨r3, er3, hF⟩ := cp_bind hF
    refine cp_getR (T := TX0) (N := 6) (ci := 0) (j := 1) hx hb htT hinX0 hown hK hP rfl (by decide) rfl (htT _ tw_136) er3 dX0_back_10 ?_
    refine lv_aload_n hx hb dX0_back_13 rfl (lv_at hl 0 rfl) ?_
    obtain ⟨r4, er4, hF⟩ := cp_bind hF
    refine cp_getR (T := TX0) (N := 6) (ci := 0) (j := 2) hx hb htT hinX0 hown hK hP rfl (by decide) rfl (htT _ tw_137) er4 dX0_back_14 ?_
    obtain ⟨f5, ef5, hF⟩ := cp_bind hF
    obtain ⟨D6, eD6, hF⟩ := cp_bind hF
    refine cp_call (st1 := []) (va_runVN (As := [.ref (L.2.1 r4)]) (rest := []) ⟨hx, hb, hml, hown, htT⟩ (ct_X4_copyFrom l G L hJ q r3 r4 D D6 eD6) ⟨va_cnB 1 htT gdX4_copyFrom rfl rfl rfl (hN _ (List.mem_of_getElem? (i := 64) rfl)) (htT _ tw_4) hdX4_copyFrom ⟨Nat.le_of_ble_eq_true rfl, Nat.le_of_ble_eq_true rfl⟩, (htT _ tw_186), (htT _ tw_536)⟩ ⟨cp_blind, cp_recv hK hP rfl ef5, cp_pre hP hK hN hZ hS⟩ rfl rfl hl.1 rfl (lv_room (Nat.le_of_ble_eq_true rfl)) dX0_back_17 ⟨Nat.zero_le _, Nat.zero_le _⟩) hS (fun H locs hP hS => ?_)
    refine lv_iconst (v := (1 : Int32)) hx hb dX0_back_20 (by decide) ?_
    exact cp_zret hx hb hr hlocks (by decide) hF hP hS dX0_back_21
  · rw [if_pos hc2] at hF
    refine lv_iconst (v := (0 : Int32)) hx hb dX0_back_7 (by decide) ?_
    exact cp_zret hx hb hr hlocks (by decide) hF hP hS dX0_back_8
theorem dX0_animal_0 : decode cX0_animal 0 = .ok (.iload_n 3, 1) := by decide +kernel
theorem dX0_animal_1 : decode cX0_animal 1 = .ok (.ifCond .lt 22, 3) := by decide +kernel
theorem dX0_animal_4 : decode cX0_animal 4 = .ok (.iload_n 3, 1) := by decide +kernel
theorem dX0_animal_5 : decode cX0_animal 5 = .ok (.iconst 4, 1) := by decide +kernel
theorem dX0_animal_6 : decode cX0_animal 6 = .ok (.if_icmp .ge 17, 3) := by decide +kernel
theorem dX0_animal_9 : decode cX0_animal 9 = .ok (.iload 4, 2) := by decide +kernel
theorem dX0_animal_11 : decode cX0_animal 11 = .ok (.iconst 1, 1) := by decide +kernel
theorem dX0_animal_12 : decode cX0_animal 12 = .ok (.if_icmp .lt 11, 3) := by decide +kernel
theorem dX0_animal_15 : decode cX0_animal 15 = .ok (.iload 4, 2) := by decide +kernel
theorem dX0_animal_17 : decode cX0_animal 17 = .ok (.sipush 1000, 3) := by decide +kernel
theorem dX0_animal_20 : decode cX0_animal 20 = .ok (.if_icmp .le 13, 3) := by decide +kernel
theorem dX0_animal_23 : decode cX0_animal 23 = .ok (.new 73, 3) := by decide +kernel
theorem dX0_animal_26 : decode cX0_animal 26 = .ok (.dup, 1) := by decide +kernel
theorem dX0_animal_27 : decode cX0_animal 27 = .ok (.ldc 75, 2) := by decide +kernel
theorem dX0_animal_29 : decode cX0_animal 29 = .ok (.invokespecial 77, 3) := by decide +kernel
theorem dX0_animal_32 : decode cX0_animal 32 = .ok (.athrow, 1) := by decide +kernel
theorem dX0_animal_33 : decode cX0_animal 33 = .ok (.aload_n 0, 1) := by decide +kernel
theorem dX0_animal_34 : decode cX0_animal 34 = .ok (.getfield 23, 3) := by decide +kernel
theorem dX0_animal_37 : decode cX0_animal 37 = .ok (.iload_n 1, 1) := by decide +kernel
theorem dX0_animal_38 : decode cX0_animal 38 = .ok (.iload_n 2, 1) := by decide +kernel
theorem dX0_animal_39 : decode cX0_animal 39 = .ok (.invokevirtual 70, 3) := by decide +kernel
theorem dX0_animal_42 : decode cX0_animal 42 = .ok (.istore 5, 2) := by decide +kernel
theorem dX0_animal_44 : decode cX0_animal 44 = .ok (.aload_n 0, 1) := by decide +kernel
theorem dX0_animal_45 : decode cX0_animal 45 = .ok (.getfield 32, 3) := by decide +kernel
theorem dX0_animal_48 : decode cX0_animal 48 = .ok (.invokevirtual 80, 3) := by decide +kernel
theorem dX0_animal_51 : decode cX0_animal 51 = .ok (.istore 6, 2) := by decide +kernel
theorem dX0_animal_53 : decode cX0_animal 53 = .ok (.aload_n 0, 1) := by decide +kernel
theorem dX0_animal_54 : decode cX0_animal 54 = .ok (.getfield 32, 3) := by decide +kernel
theorem dX0_animal_57 : decode cX0_animal 57 = .ok (.getfield 84, 3) := by decide +kernel
theorem dX0_animal_60 : decode cX0_animal 60 = .ok (.iload 5, 2) := by decide +kernel
theorem dX0_animal_62 : decode cX0_animal 62 = .ok (.iaload, 1) := by decide +kernel
theorem dX0_animal_63 : decode cX0_animal 63 = .ok (.iconst (-1), 1) := by decide +kernel
theorem dX0_animal_64 : decode cX0_animal 64 = .ok (.if_icmp .ne 9, 3) := by decide +kernel
theorem dX0_animal_67 : decode cX0_animal 67 = .ok (.iload 6, 2) := by decide +kernel
theorem dX0_animal_69 : decode cX0_animal 69 = .ok (.iconst (-1), 1) := by decide +kernel
theorem dX0_animal_70 : decode cX0_animal 70 = .ok (.if_icmp .ne 13, 3) := by decide +kernel
theorem dX0_animal_73 : decode cX0_animal 73 = .ok (.new 87, 3) := by decide +kernel
theorem dX0_animal_76 : decode cX0_animal 76 = .ok (.dup, 1) := by decide +kernel
theorem dX0_animal_77 : decode cX0_animal 77 = .ok (.ldc 89, 2) := by decide +kernel
theorem dX0_animal_79 : decode cX0_animal 79 = .ok (.invokespecial 91, 3) := by decide +kernel
theorem dX0_animal_82 : decode cX0_animal 82 = .ok (.athrow, 1) := by decide +kernel
theorem dX0_animal_83 : decode cX0_animal 83 = .ok (.aload_n 0, 1) := by decide +kernel
theorem dX0_animal_84 : decode cX0_animal 84 = .ok (.getfield 32, 3) := by decide +kernel
theorem dX0_animal_87 : decode cX0_animal 87 = .ok (.iload 6, 2) := by decide +kernel
theorem dX0_animal_89 : decode cX0_animal 89 = .ok (.iload 5, 2) := by decide +kernel
theorem dX0_animal_91 : decode cX0_animal 91 = .ok (.iload_n 3, 1) := by decide +kernel
theorem dX0_animal_92 : decode cX0_animal 92 = .ok (.iload 4, 2) := by decide +kernel
theorem dX0_animal_94 : decode cX0_animal 94 = .ok (.invokevirtual 92, 3) := by decide +kernel
theorem dX0_animal_97 : decode cX0_animal 97 = .ok (.pop, 1) := by decide +kernel
theorem dX0_animal_98 : decode cX0_animal 98 = .ok (.iload 6, 2) := by decide +kernel
theorem dX0_animal_100 : decode cX0_animal 100 = .ok (.ireturn, 1) := by decide +kernel
def fn_X0_animal (L : cp_Lay) (q : Nat) (k0 : Nat) (x1 : Int32) (x2 : Int32) (x3 : Int32) (x4 : Int32) (D : cp_Dt) : Option (Int32 × cp_Dt) :=
  if x3 < 0 then (none)
  else (if (4 : Int32) ≤ x3 then (none)
  else (if x4 < (1 : Int32) then (none)
  else (if x4 ≤ (1000 : Int32) then ((cp_gR L k0 0 0).bind fun r5 =>
  (cp_fl L r5 5).bind fun f6 =>
  (fn_X5_cellAt L q r5 x1 x2 D).bind fun y7 =>
  (cp_gR L k0 0 1).bind fun r8 =>
  (cp_fl L r8 4).bind fun f9 =>
  (fn_X4_freeNumber L q r8 y7.2).bind fun y10 =>
  (cp_gR L k0 0 1).bind fun r11 =>
  (cp_gR L r11 4 3).bind fun r12 =>
  (cp_aI L y10.2 0 r12 y7.1).bind fun v13 =>
  if v13 = (-1 : Int32) then (if y10.1 = (-1 : Int32) then (none)
  else ((cp_gR L k0 0 1).bind fun r16 =>
  (cp_fl L r16 4).bind fun f17 =>
  (fn_X4_settle L q r16 y10.1 y7.1 x3 x4 y10.2).bind fun y18 =>
  some (y10.1, y18.2)))
  else (none))
  else (none))))
set_option maxHeartbeats 4000000 in
set_option maxRecDepth 100000 in
theorem ct_X0_animal (l : Launch) (G : va_G) (L : cp_Lay) (hJ : cp_J L) (q : Nat) (k0 : Nat) (x1 : Int32) (x2 : Int32) (x3 : Int32) (x4 : Int32) (D : cp_Dt) (res : Int32 × cp_Dt) (hF : fn_X0_animal L q k0 x1 x2 x3 x4 D = some res) : cp_Met l G yX0_animal wsX0_animal ({ frames := 2, cells := 0, slots := 0, locals := 49 }) L ([.ref (L.2.1 k0), .int x1, .int x2, .int x3, .int x4] : List Value) D res.2 (some (.int res.1)) := by
  refine Met.ofW (cc := cX0_animal) (maxL := 7) (ret := (some .int)) (by decide) rfl ?_
  intro p e s m args below meth c s₁ B hml hv
  obtain ⟨rfl, hP, hK, hN, hZ⟩ := hv
  have hx := B.exec
  have hb := B.bytes
  have hr := B.returns
  have hts := atoms_spec (ws := wsX0_animal) B.pre
  have hown : s.vm.findClass "CreaturePond" = some m.cls := findClass_of_methodNamed B.named
  have hlocks := B.notSynchronized
  have hS : va_S (cp_A L) s.heap s.heap [] := va_S.rf
  have htT : ∀ w ∈ cp_T, w.before ([.ref (L.2.1 k0), .int x1, .int x2, .int x3, .int x4] : List Value).toArray s = true := fun w h => hts w (List.mem_cons_of_mem _ h)
  have hl := lv_entry (([.ref (L.2.1 k0), .int x1, .int x2, .int x3, .int x4] : List Value)) (n := 7) (Nat.le_of_ble_eq_true rfl)
  rw [lg_entry_eq]
  generalize (lg_sl (([.ref (L.2.1 k0), .int x1, .int x2, .int x3, .int x4] : List Value)) ++ List.replicate (7 - (lg_sl (([.ref (L.2.1 k0), .int x1, .int x2, .int x3, .int x4] : List Value))).length) Slot.unset).toArray = ls at hl ⊢
  have hl : lv_has ls 7 [(0, .ref (L.2.1 k0)), (1, .int x1), (2, .int x2), (3, .int x3), (4, .int x4)] := hl
  unfold fn_X0_animal at hF
  refine lv_iload_n hx hb dX0_animal_0 rfl (lv_at hl 3 rfl) ?_
  refine lv_if_lt (tgt := 23) hx hb dX0_animal_1 (by decide) (fun hc1 => ?_) (fun hc1 => ?_)
  · rw [if_pos hc1] at hF
    cases hF
  · rw [if_neg hc1] at hF
    refine lv_iload_n hx hb dX0_animal_4 rfl (lv_at hl 3 rfl) ?_
    refine lv_iconst (v := (4 : Int32)) hx hb dX0_animal_5 (by decide) ?_
    refine lv_icmp_ge (tgt := 23) hx hb dX0_animal_6 (by decide) (fun hc2 => ?_) (fun hc2 => ?_)
    · rw [if_pos hc2] at hF
      cases hF
    · rw [if_neg hc2] at hF
      refine lv_iload hx hb dX0_animal_9 (lv_at hl 4 rfl) ?_
      refine lv_iconst (v := (1 : Int32)) hx hb dX0_animal_11 (by decide) ?_
      refine lv_icmp_lt (tgt := 23) hx hb dX0_animal_12 (by decide) (fun hc3 => ?_) (fun hc3 => ?_)
      · rw [if_pos hc3] at hF
        cases hF
      · rw [if_neg hc3] at hF
        refine lv_iload hx hb dX0_animal_15 (lv_at hl 4 rfl) ?_
        refine lv_sipush (v := (1000 : Int32)) hx hb dX0_animal_17 (by decide) ?_
        refine lv_icmp_le (tgt := 33) hx hb dX0_animal_20 (by decide) (fun hc4 => ?_) (fun hc4 => ?_)
        · rw [if_pos hc4] at hF
          refine lv_aload_n hx hb dX0_animal_33 rfl (lv_at hl 0 rfl) ?_
          obtain ⟨r5, er5, hF⟩ := cp_bind hF
          refine cp_getR (T := TX0) (N := 6) (ci := 0) (j := 0) hx hb htT hinX0 hown hK hP rfl (by decide) rfl (htT _ tw_135) er5 dX0_animal_34 ?_
          refine lv_iload_n hx hb dX0_animal_37 rfl (lv_at hl 1 rfl) ?_
          refine lv_iload_n hx hb dX0_animal_38 rfl (lv_at hl 2 rfl) ?_
          obtain ⟨f6, ef6, hF⟩ := cp_bind hF
          obtain ⟨y7, ey7, hF⟩ := cp_bind hF
          refine cp_call (st1 := [.int y7.1]) (va_runVN (As := [.int x1, .int x2]) (rest := []) ⟨hx, hb, hml, hown, htT⟩ (ct_X5_cellAt l G L hJ q r5 x1 x2 D y7 ey7) ⟨va_cnB 2 htT gdX5_cellAt rfl rfl rfl (hN _ (List.mem_of_getElem? (i := 56) rfl)) (htT _ tw_2) hdX5_cellAt ⟨Nat.le_of_ble_eq_true rfl, Nat.le_of_ble_eq_true rfl⟩, (htT _ tw_44), (htT _ tw_530)⟩ ⟨cp_blind, cp_recv hK hP rfl ef6, cp_pre hP hK hN hZ hS⟩ rfl rfl hl.1 rfl (lv_room (Nat.le_of_ble_eq_true rfl)) dX0_animal_39 ⟨Nat.zero_le _, Nat.zero_le _⟩) hS (fun H locs hP hS => ?_)
          refine lv_istore (lv' := [(5, .int y7.1), (0, .ref (L.2.1 k0)), (1, .int x1), (2, .int x2), (3, .int x3), (4, .int x4)]) hx hb dX0_animal_42 hl (by decide) rfl (fun ls hl => ?_)
          refine lv_aload_n hx hb dX0_animal_44 rfl (lv_at hl 1 rfl) ?_
          obtain ⟨r8, er8, hF⟩ := cp_bind hF
          refine cp_getR (T := TX0) (N := 6) (ci := 0) (j := 1) hx hb htT hinX0 hown hK hP rfl (by decide) rfl (htT _ tw_136) er8 dX0_animal_45 ?_
          obtain ⟨f9, ef9, hF⟩ := cp_bind hF
          obtain ⟨y10, ey10, hF⟩ := cp_bind hF
          refine cp_call (st1 := [.int y10.1]) (va_runVN (As := []) (rest := []) ⟨hx, hb, hml, hown, htT⟩ (ct_X4_freeNumber l G L hJ q r8 y7.2 y10 ey10) ⟨va_cnB 0 htT gdX4_freeNumber rfl rfl rfl (hN _ (List.mem_of_getElem? (i := 66) rfl)) (htT _ tw_4) hdX4_freeNumber ⟨Nat.le_of_ble_eq_true rfl, Nat.le_of_ble_eq_true rfl⟩, (htT _ tw_231), (htT _ tw_538)⟩ ⟨cp_blind, cp_recv hK hP rfl ef9, cp_pre hP hK hN hZ hS⟩ rfl rfl hl.1 rfl (lv_room (Nat.le_of_ble_eq_true rfl)) dX0_animal_48 ⟨Nat.zero_le _, Nat.zero_le _⟩) hS (fun H locs hP hS => ?_)
          refine lv_istore (lv' := [(6, .int y10.1), (5, .int y7.1), (0, .ref (L.2.1 k0)), (1, .int x1), (2, .int x2), (3, .int x3), (4, .int x4)]) hx hb dX0_animal_51 hl (by decide) rfl (fun ls hl => ?_)
          refine lv_aload_n hx hb dX0_animal_53 rfl (lv_at hl 2 rfl) ?_
          obtain ⟨r11, er11, hF⟩ := cp_bind hF
          refine cp_getR (T := TX0) (N := 6) (ci := 0) (j := 1) hx hb htT hinX0 hown hK hP rfl (by decide) rfl (htT _ tw_136) er11 dX0_animal_54 ?_
          obtain ⟨r12, er12, hF⟩ := cp_bind hF
          refine cp_getRN (T := TX4) (N := 12) (ci := 4) (j := 3) hx hb htT hinX4 hown hK hP rfl (by decide) rfl (hN _ (List.mem_of_getElem? (i := 41) rfl)) er12 dX0_animal_57 ?_
          refine lv_iload hx hb dX0_animal_60 (lv_at hl 1 rfl) ?_
          obtain ⟨v13, ev13, hF⟩ := cp_bind hF
          refine cp_iald hx hb hK hP ev13 dX0_animal_62 ?_
          refine lv_iconst (v := (-1 : Int32)) hx hb dX0_animal_63 (by decide) ?_
          refine lv_icmp_ne (tgt := 73) hx hb dX0_animal_64 (by decide) (fun hc14 => ?_) (fun hc14 => ?_)
          · rw [if_neg hc14] at hF
            cases hF
          · rw [if_pos hc14] at hF
            refine lv_iload hx hb dX0_animal_67 (lv_at hl 0 rfl) ?_
            refine lv_iconst (v := (-1 : Int32)) hx hb dX0_animal_69 (by decide) ?_
            refine lv_icmp_ne (tgt := 83) hx hb dX0_animal_70 (by decide) (fun hc15 => ?_) (fun hc15 => ?_)
            · rw [if_neg hc15] at hF
              refine lv_aload_n hx hb dX0_animal_83 rfl (lv_at hl 2 rfl) ?_
              obtain ⟨r16, er16, hF⟩ := cp_bind hF
              refine cp_getR (T := TX0) (N := 6) (ci := 0) (j := 1) hx hb htT hinX0 hown hK hP rfl (by decide) rfl (htT _ tw_136) er16 dX0_animal_84 ?_
              refine lv_iload hx hb dX0_animal_87 (lv_at hl 0 rfl) ?_
              refine lv_iload hx hb dX0_animal_89 (lv_at hl 1 rfl) ?_
              refine lv_iload_n hx hb dX0_animal_91 rfl (lv_at hl 5 rfl) ?_
              refine lv_iload hx hb dX0_animal_92 (lv_at hl 6 rfl) ?_
              obtain ⟨f17, ef17, hF⟩ := cp_bind hF
              obtain ⟨y18, ey18, hF⟩ := cp_bind hF
              refine cp_call (st1 := [.ref (L.2.1 y18.1)]) (va_runVN (As := [.int y10.1, .int y7.1, .int x3, .int x4]) (rest := []) ⟨hx, hb, hml, hown, htT⟩ (ct_X4_settle l G L hJ q r16 y10.1 y7.1 x3 x4 y10.2 y18 ey18) ⟨va_cnB 4 htT gdX4_settle rfl rfl rfl (hN _ (List.mem_of_getElem? (i := 67) rfl)) (htT _ tw_4) hdX4_settle ⟨Nat.le_of_ble_eq_true rfl, Nat.le_of_ble_eq_true rfl⟩, (htT _ tw_241), (htT _ tw_539)⟩ ⟨cp_blind, cp_recv hK hP rfl ef17, cp_pre hP hK hN hZ hS⟩ rfl rfl hl.1 rfl (lv_room (Nat.le_of_ble_eq_true rfl)) dX0_animal_94 ⟨Nat.zero_le _, Nat.zero_le _⟩) hS (fun H locs hP hS => ?_)
              refine lv_pop hx hb dX0_animal_97 rfl ?_
              refine lv_iload hx hb dX0_animal_98 (lv_at hl 0 rfl) ?_
              exact cp_iret hx hb hr hlocks hF hP hS dX0_animal_100
            · rw [if_pos hc15] at hF
              cases hF
        · rw [if_neg hc4] at hF
          cases hF
theorem dX0_code_0 : decode cX0_code 0 = .ok (.iload_n 2, 1) := by decide +kernel
theorem dX0_code_1 : decode cX0_code 1 = .ok (.iconst 1, 1) := by decide +kernel
theorem dX0_code_2 : decode cX0_code 2 = .ok (.if_icmp .lt 20, 3) := by decide +kernel
theorem dX0_code_5 : decode cX0_code 5 = .ok (.iload_n 2, 1) := by decide +kernel
theorem dX0_code_6 : decode cX0_code 6 = .ok (.bipush 8, 2) := by decide +kernel
theorem dX0_code_8 : decode cX0_code 8 = .ok (.if_icmp .gt 14, 3) := by decide +kernel
theorem dX0_code_11 : decode cX0_code 11 = .ok (.aload_n 0, 1) := by decide +kernel
theorem dX0_code_12 : decode cX0_code 12 = .ok (.getfield 32, 3) := by decide +kernel
theorem dX0_code_15 : decode cX0_code 15 = .ok (.iload_n 1, 1) := by decide +kernel
theorem dX0_code_16 : decode cX0_code 16 = .ok (.invokevirtual 96, 3) := by decide +kernel
theorem dX0_code_19 : decode cX0_code 19 = .ok (.ifCond .ne 13, 3) := by decide +kernel
theorem dX0_code_22 : decode cX0_code 22 = .ok (.new 73, 3) := by decide +kernel
theorem dX0_code_25 : decode cX0_code 25 = .ok (.dup, 1) := by decide +kernel
theorem dX0_code_26 : decode cX0_code 26 = .ok (.ldc 100, 2) := by decide +kernel
theorem dX0_code_28 : decode cX0_code 28 = .ok (.invokespecial 77, 3) := by decide +kernel
theorem dX0_code_31 : decode cX0_code 31 = .ok (.athrow, 1) := by decide +kernel
theorem dX0_code_32 : decode cX0_code 32 = .ok (.aload_n 0, 1) := by decide +kernel
theorem dX0_code_33 : decode cX0_code 33 = .ok (.getfield 32, 3) := by decide +kernel
theorem dX0_code_36 : decode cX0_code 36 = .ok (.getfield 102, 3) := by decide +kernel
theorem dX0_code_39 : decode cX0_code 39 = .ok (.iload_n 1, 1) := by decide +kernel
theorem dX0_code_40 : decode cX0_code 40 = .ok (.aaload, 1) := by decide +kernel
theorem dX0_code_41 : decode cX0_code 41 = .ok (.astore 5, 2) := by decide +kernel
theorem dX0_code_43 : decode cX0_code 43 = .ok (.aload 5, 2) := by decide +kernel
theorem dX0_code_45 : decode cX0_code 45 = .ok (.getfield 106, 3) := by decide +kernel
theorem dX0_code_48 : decode cX0_code 48 = .ok (.iload_n 2, 1) := by decide +kernel
theorem dX0_code_49 : decode cX0_code 49 = .ok (.iadd, 1) := by decide +kernel
theorem dX0_code_50 : decode cX0_code 50 = .ok (.bipush 20, 2) := by decide +kernel
theorem dX0_code_52 : decode cX0_code 52 = .ok (.if_icmp .le 13, 3) := by decide +kernel
theorem dX0_code_55 : decode cX0_code 55 = .ok (.new 87, 3) := by decide +kernel
theorem dX0_code_58 : decode cX0_code 58 = .ok (.dup, 1) := by decide +kernel
theorem dX0_code_59 : decode cX0_code 59 = .ok (.ldc 111, 2) := by decide +kernel
theorem dX0_code_61 : decode cX0_code 61 = .ok (.invokespecial 91, 3) := by decide +kernel
theorem dX0_code_64 : decode cX0_code 64 = .ok (.athrow, 1) := by decide +kernel
theorem dX0_code_65 : decode cX0_code 65 = .ok (.iload_n 2, 1) := by decide +kernel
theorem dX0_code_66 : decode cX0_code 66 = .ok (.iconst 1, 1) := by decide +kernel
theorem dX0_code_67 : decode cX0_code 67 = .ok (.isub, 1) := by decide +kernel
theorem dX0_code_68 : decode cX0_code 68 = .ok (.istore 6, 2) := by decide +kernel
theorem dX0_code_70 : decode cX0_code 70 = .ok (.iload 6, 2) := by decide +kernel
theorem dX0_code_72 : decode cX0_code 72 = .ok (.ifCond .lt 23, 3) := by decide +kernel
theorem dX0_code_75 : decode cX0_code 75 = .ok (.aload 5, 2) := by decide +kernel
theorem dX0_code_77 : decode cX0_code 77 = .ok (.lload_n 3, 1) := by decide +kernel
theorem dX0_code_78 : decode cX0_code 78 = .ok (.bipush 8, 2) := by decide +kernel
theorem dX0_code_80 : decode cX0_code 80 = .ok (.iload 6, 2) := by decide +kernel
theorem dX0_code_82 : decode cX0_code 82 = .ok (.imul, 1) := by decide +kernel
theorem dX0_code_83 : decode cX0_code 83 = .ok (.lshr, 1) := by decide +kernel
theorem dX0_code_84 : decode cX0_code 84 = .ok (.l2i, 1) := by decide +kernel
theorem dX0_code_85 : decode cX0_code 85 = .ok (.i2b, 1) := by decide +kernel
theorem dX0_code_86 : decode cX0_code 86 = .ok (.invokevirtual 113, 3) := by decide +kernel
theorem dX0_code_89 : decode cX0_code 89 = .ok (.iinc 6 (-1), 3) := by decide +kernel
theorem dX0_code_92 : decode cX0_code 92 = .ok (.goto (-22), 3) := by decide +kernel
theorem dX0_code_95 : decode cX0_code 95 = .ok (.aload 5, 2) := by decide +kernel
theorem dX0_code_97 : decode cX0_code 97 = .ok (.getfield 106, 3) := by decide +kernel
theorem dX0_code_100 : decode cX0_code 100 = .ok (.ireturn, 1) := by decide +kernel
def fn_X0_code_L70 (L : cp_Lay) (q : Nat) : Nat → Nat → Int32 → Int32 → Int64 → Nat → Int32 → cp_Dt → Option (Int32 × cp_Dt)
  | 0, _, _, _, _, _, _, _ => none
  | n + 1, a0, i1, i2, i3, a5, i6, D =>
    if i6 < 0 then ((cp_gI L D a5 1 9).bind fun v13 =>
    some (v13, D))
    else ((cp_fl L a5 1).bind fun f14 =>
    (fn_X1_grow L q a5 (((i3 >>> (((8 : Int32) * i6).toInt64 &&& 63)).toInt32).toInt8.toInt32) D).bind fun D15 =>
    fn_X0_code_L70 L q n a0 i1 i2 i3 a5 (i6 + (-1)) D15)
def fn_X0_code (L : cp_Lay) (q : Nat) (k0 : Nat) (x1 : Int32) (x2 : Int32) (x3 : Int64) (D : cp_Dt) : Option (Int32 × cp_Dt) :=
  if x2 < (1 : Int32) then (none)
  else (if (8 : Int32) < x2 then (none)
  else ((cp_gR L k0 0 1).bind fun r3 =>
  (cp_fl L r3 4).bind fun f4 =>
  (fn_X4_has L q r3 x1 D).bind fun y5 =>
  if y5.1 = 0 then (none)
  else ((cp_gR L k0 0 1).bind fun r7 =>
  (cp_gR L r7 4 4).bind fun r8 =>
  (cp_aR L r8 x1).bind fun r9 =>
  (cp_gI L y5.2 r9 1 9).bind fun v10 =>
  if (v10 + x2) ≤ (20 : Int32) then (fn_X0_code_L70 L q q k0 x1 x2 x3 r9 (x2 - (1 : Int32)) y5.2)
  else (none))))
set_option maxHeartbeats 4000000 in
set_option maxRecDepth 100000 in
theorem ct_X0_code (l : Launch) (G : va_G) (L : cp_Lay) (hJ : cp_J L) (q : Nat) (k0 : Nat) (x1 : Int32) (x2 : Int32) (x3 : Int64) (D : cp_Dt) (res : Int32 × cp_Dt) (hF : fn_X0_code L q k0 x1 x2 x3 D = some res) : cp_Met l G yX0_code wsX0_code ({ frames := 1, cells := 0, slots := 0, locals := 21 }) L ([.ref (L.2.1 k0), .int x1, .int x2, .long x3] : List Value) D res.2 (some (.int res.1)) := by
  refine Met.ofW (cc := cX0_code) (maxL := 7) (ret := (some .int)) (by decide) rfl ?_
  intro p e s m args below meth c s₁ B hml hv
  obtain ⟨rfl, hP, hK, hN, hZ⟩ := hv
  have hx := B.exec
  have hb := B.bytes
  have hr := B.returns
  have hts := atoms_spec (ws := wsX0_code) B.pre
  have hown : s.vm.findClass "CreaturePond" = some m.cls := findClass_of_methodNamed B.named
  have hlocks := B.notSynchronized
  have hS : va_S (cp_A L) s.heap s.heap [] := va_S.rf
  have htT : ∀ w ∈ cp_T, w.before ([.ref (L.2.1 k0), .int x1, .int x2, .long x3] : List Value).toArray s = true := fun w h => hts w (List.mem_cons_of_mem _ h)
  have hl := lv_entry (([.ref (L.2.1 k0), .int x1, .int x2, .long x3] : List Value)) (n := 7) (Nat.le_of_ble_eq_true rfl)
  rw [lg_entry_eq]
  generalize (lg_sl (([.ref (L.2.1 k0), .int x1, .int x2, .long x3] : List Value)) ++ List.replicate (7 - (lg_sl (([.ref (L.2.1 k0), .int x1, .int x2, .long x3] : List Value))).length) Slot.unset).toArray = ls at hl ⊢
  have hl : lv_has ls 7 [(0, .ref (L.2.1 k0)), (1, .int x1), (2, .int x2), (3, .long x3)] := hl
  have hL70 : ∀ (n : Nat) (a0 : Nat) (i1 : Int32) (i2 : Int32) (i3 : Int64) (a5 : Nat) (i6 : Int32) (D : cp_Dt) (H : Heap) (locs : List Loc) (ls : Array Slot), fn_X0_code_L70 L q n a0 i1 i2 i3 a5 i6 D = some res → va_P G vwCl (cp_ws L D) H → va_S (cp_A L) s.heap H locs → lv_has ls 7 [(0, .ref (L.2.1 a0)), (1, .int i1), (2, .int i2), (3, .long i3), (5, .ref (L.2.1 a5)), (6, .int i6)] → W p l e (headSpec wsX0_code ({ frames := 1, cells := 0, slots := 0, locals := 21 })).room s m ([.ref (L.2.1 k0), .int x1, .int x2, .long x3] : List Value).toArray below meth c H locs 0 0 (MQ below (cp_Q G L res.2 (some (.int res.1))) ([.ref (L.2.1 k0), .int x1, .int x2, .long x3] : List Value).toArray s 0 0 (cp_A L)) (F0 m 70 ls []) := by
    intro n
    induction n with
    | zero =>
      intro a0 i1 i2 i3 a5 i6 D H locs ls hF
      cases hF
    | succ n ih =>
      intro a0 i1 i2 i3 a5 i6 D H locs ls hF hP hS hl
      unfold fn_X0_code_L70 at hF
      refine lv_iload hx hb dX0_code_70 (lv_at hl 5 rfl) ?_
      refine lv_if_lt (tgt := 95) hx hb dX0_code_72 (by decide) (fun hc12 => ?_) (fun hc12 => ?_)
      · rw [if_pos hc12] at hF
        refine lv_aload hx hb dX0_code_95 (lv_at hl 4 rfl) ?_
        obtain ⟨v13, ev13, hF⟩ := cp_bind hF
        refine cp_getIN (T := TX1) (N := 14) (ci := 1) (j := 9) hx hb htT hinX1 hown hK hP rfl (by decide) rfl (hN _ (List.mem_of_getElem? (i := 29) rfl)) ev13 dX0_code_97 ?_
        exact cp_iret hx hb hr hlocks hF hP hS dX0_code_100
      · rw [if_neg hc12] at hF
        refine lv_aload hx hb dX0_code_75 (lv_at hl 4 rfl) ?_
        refine lv_lload_n hx hb dX0_code_77 rfl (lv_at hl 3 rfl) ?_
        refine lv_bipush (v := (8 : Int32)) hx hb dX0_code_78 (by decide) ?_
        refine lv_iload hx hb dX0_code_80 (lv_at hl 5 rfl) ?_
        refine lv_imul hx hb dX0_code_82 ?_
        refine lv_lshr hx hb dX0_code_83 rfl ?_
        refine lv_l2i hx hb dX0_code_84 rfl ?_
        refine lv_i2b hx hb dX0_code_85 rfl ?_
        obtain ⟨f14, ef14, hF⟩ := cp_bind hF
        obtain ⟨D15, eD15, hF⟩ := cp_bind hF
        refine cp_call (st1 := []) (va_runVN (As := [.int (((i3 >>> (((8 : Int32) * i6).toInt64 &&& 63)).toInt32).toInt8.toInt32)]) (rest := []) ⟨hx, hb, hml, hown, htT⟩ (ct_X1_grow l G L hJ q a5 (((i3 >>> (((8 : Int32) * i6).toInt64 &&& 63)).toInt32).toInt8.toInt32) D D15 eD15) ⟨va_cnB 1 htT gdX1_grow rfl rfl rfl (hN _ (List.mem_of_getElem? (i := 69) rfl)) (htT _ tw_5) hdX1_grow ⟨Nat.le_of_ble_eq_true rfl, Nat.le_of_ble_eq_true rfl⟩, (htT _ tw_251), (htT _ tw_541)⟩ ⟨cp_blind, cp_recv hK hP rfl ef14, cp_pre hP hK hN hZ hS⟩ rfl rfl hl.1 rfl (lv_room (Nat.le_of_ble_eq_true rfl)) dX0_code_86 ⟨Nat.zero_le _, Nat.zero_le _⟩) hS (fun H locs hP hS => ?_)
        refine lv_iinc (k := 5) (v := (i6 + (-1))) (lv' := [(6, .int (i6 + (-1))), (0, .ref (L.2.1 a0)), (1, .int i1), (2, .int i2), (3, .long i3), (5, .ref (L.2.1 a5))]) hx hb dX0_code_89 hl rfl (congrArg (fun z => i6 + z) (by decide)) (by decide) rfl (fun ls hl => ?_)
        refine lv_goto (tgt := 70) hx hb dX0_code_92 (by decide) ?_
        exact ih a0 i1 i2 i3 a5 (i6 + (-1)) D15 _ _ _ hF hP hS (lv_sub hl [1, 2, 3, 4, 5, 0] rfl)
  unfold fn_X0_code at hF
  refine lv_iload_n hx hb dX0_code_0 rfl (lv_at hl 2 rfl) ?_
  refine lv_iconst (v := (1 : Int32)) hx hb dX0_code_1 (by decide) ?_
  refine lv_icmp_lt (tgt := 22) hx hb dX0_code_2 (by decide) (fun hc1 => ?_) (fun hc1 => ?_)
  · rw [if_pos hc1] at hF
    cases hF
  · rw [if_neg hc1] at hF
    refine lv_iload_n hx hb dX0_code_5 rfl (lv_at hl 2 rfl) ?_
    refine lv_bipush (v := (8 : Int32)) hx hb dX0_code_6 (by decide) ?_
    refine lv_icmp_gt (tgt := 22) hx hb dX0_code_8 (by decide) (fun hc2 => ?_) (fun hc2 => ?_)
    · rw [if_pos hc2] at hF
      cases hF
    · rw [if_neg hc2] at hF
      refine lv_aload_n hx hb dX0_code_11 rfl (lv_at hl 0 rfl) ?_
      obtain ⟨r3, er3, hF⟩ := cp_bind hF
      refine cp_getR (T := TX0) (N := 6) (ci := 0) (j := 1) hx hb htT hinX0 hown hK hP rfl (by decide) rfl (htT _ tw_136) er3 dX0_code_12 ?_
      refine lv_iload_n hx hb dX0_code_15 rfl (lv_at hl 1 rfl) ?_
      obtain ⟨f4, ef4, hF⟩ := cp_bind hF
      obtain ⟨y5, ey5, hF⟩ := cp_bind hF
      refine cp_call (st1 := [.int y5.1]) (va_runVN (As := [.int x1]) (rest := []) ⟨hx, hb, hml, hown, htT⟩ (ct_X4_has l G L hJ q r3 x1 D y5 ey5) ⟨va_cnB 1 htT gdX4_has rfl rfl rfl (hN _ (List.mem_of_getElem? (i := 57) rfl)) (htT _ tw_4) hdX4_has ⟨Nat.le_of_ble_eq_true rfl, Nat.le_of_ble_eq_true rfl⟩, (htT _ tw_168), (htT _ tw_531)⟩ ⟨cp_blind, cp_recv hK hP rfl ef4, cp_pre hP hK hN hZ hS⟩ rfl rfl hl.1 rfl (lv_room (Nat.le_of_ble_eq_true rfl)) dX0_code_16 ⟨Nat.zero_le _, Nat.zero_le _⟩) hS (fun H locs hP hS => ?_)
      refine lv_if_ne (tgt := 32) hx hb dX0_code_19 (by decide) (fun hc6 => ?_) (fun hc6 => ?_)
      · rw [if_neg hc6] at hF
        refine lv_aload_n hx hb dX0_code_32 rfl (lv_at hl 0 rfl) ?_
        obtain ⟨r7, er7, hF⟩ := cp_bind hF
        refine cp_getR (T := TX0) (N := 6) (ci := 0) (j := 1) hx hb htT hinX0 hown hK hP rfl (by decide) rfl (htT _ tw_136) er7 dX0_code_33 ?_
        obtain ⟨r8, er8, hF⟩ := cp_bind hF
        refine cp_getRN (T := TX4) (N := 12) (ci := 4) (j := 4) hx hb htT hinX4 hown hK hP rfl (by decide) rfl (hN _ (List.mem_of_getElem? (i := 45) rfl)) er8 dX0_code_36 ?_
        refine lv_iload_n hx hb dX0_code_39 rfl (lv_at hl 1 rfl) ?_
        obtain ⟨r9, er9, hF⟩ := cp_bind hF
        refine cp_aald hx hb hK hP er9 dX0_code_40 ?_
        refine lv_astore (lv' := [(5, .ref (L.2.1 r9)), (0, .ref (L.2.1 k0)), (1, .int x1), (2, .int x2), (3, .long x3)]) hx hb dX0_code_41 hl (by decide) rfl (fun ls hl => ?_)
        refine lv_aload hx hb dX0_code_43 (lv_at hl 0 rfl) ?_
        obtain ⟨v10, ev10, hF⟩ := cp_bind hF
        refine cp_getIN (T := TX1) (N := 14) (ci := 1) (j := 9) hx hb htT hinX1 hown hK hP rfl (by decide) rfl (hN _ (List.mem_of_getElem? (i := 29) rfl)) ev10 dX0_code_45 ?_
        refine lv_iload_n hx hb dX0_code_48 rfl (lv_at hl 3 rfl) ?_
        refine lv_iadd hx hb dX0_code_49 ?_
        refine lv_bipush (v := (20 : Int32)) hx hb dX0_code_50 (by decide) ?_
        refine lv_icmp_le (tgt := 65) hx hb dX0_code_52 (by decide) (fun hc11 => ?_) (fun hc11 => ?_)
        · rw [if_pos hc11] at hF
          refine lv_iload_n hx hb dX0_code_65 rfl (lv_at hl 3 rfl) ?_
          refine lv_iconst (v := (1 : Int32)) hx hb dX0_code_66 (by decide) ?_
          refine lv_isub hx hb dX0_code_67 ?_
          refine lv_istore (lv' := [(6, .int (x2 - (1 : Int32))), (5, .ref (L.2.1 r9)), (0, .ref (L.2.1 k0)), (1, .int x1), (2, .int x2), (3, .long x3)]) hx hb dX0_code_68 hl (by decide) rfl (fun ls hl => ?_)
          exact hL70 q k0 x1 x2 x3 r9 (x2 - (1 : Int32)) y5.2 _ _ _ hF hP hS (lv_sub hl [2, 3, 4, 5, 1, 0] rfl)
        · rw [if_neg hc11] at hF
          cases hF
      · rw [if_pos hc6] at hF
        cases hF
