theorem dX6_ahead_0 : decode cX6_ahead 0 = .ok (.aload_n 0, 1) := by decide +kernel
theorem dX6_ahead_1 : decode cX6_ahead 1 = .ok (.aload_n 0, 1) := by decide +kernel
theorem dX6_ahead_2 : decode cX6_ahead 2 = .ok (.getfield 7, 3) := by decide +kernel
theorem dX6_ahead_5 : decode cX6_ahead 5 = .ok (.iload_n 1, 1) := by decide +kernel
theorem dX6_ahead_6 : decode cX6_ahead 6 = .ok (.invokestatic 30, 3) := by decide +kernel
theorem dX6_ahead_9 : decode cX6_ahead 9 = .ok (.iaload, 1) := by decide +kernel
theorem dX6_ahead_10 : decode cX6_ahead 10 = .ok (.aload_n 0, 1) := by decide +kernel
theorem dX6_ahead_11 : decode cX6_ahead 11 = .ok (.getfield 7, 3) := by decide +kernel
theorem dX6_ahead_14 : decode cX6_ahead 14 = .ok (.iload_n 1, 1) := by decide +kernel
theorem dX6_ahead_15 : decode cX6_ahead 15 = .ok (.invokestatic 30, 3) := by decide +kernel
theorem dX6_ahead_18 : decode cX6_ahead 18 = .ok (.iconst 1, 1) := by decide +kernel
theorem dX6_ahead_19 : decode cX6_ahead 19 = .ok (.iadd, 1) := by decide +kernel
theorem dX6_ahead_20 : decode cX6_ahead 20 = .ok (.iaload, 1) := by decide +kernel
theorem dX6_ahead_21 : decode cX6_ahead 21 = .ok (.invokevirtual 41, 3) := by decide +kernel
theorem dX6_ahead_24 : decode cX6_ahead 24 = .ok (.ireturn, 1) := by decide +kernel
def fn_X6_ahead (L : cp_Lay) (q : Nat) (k0 : Nat) (x1 : Int32) (D : cp_Dt) : Option (Int32 × cp_Dt) :=
  (cp_gR L k0 6 3).bind fun r1 =>
  (fn_X6_at L q x1 D).bind fun y2 =>
  (cp_aI L y2.2 0 r1 y2.1).bind fun v3 =>
  (cp_gR L k0 6 3).bind fun r4 =>
  (fn_X6_at L q x1 y2.2).bind fun y5 =>
  (cp_aI L y5.2 0 r4 (y5.1 + (1 : Int32))).bind fun v6 =>
  (cp_fl L k0 6).bind fun f7 =>
  (fn_X6_beside L q k0 v3 v6 y5.2).bind fun y8 =>
  some (y8.1, y8.2)
set_option maxHeartbeats 4000000 in
set_option maxRecDepth 100000 in
theorem ct_X6_ahead (l : Launch) (G : va_G) (L : cp_Lay) (hJ : cp_J L) (q : Nat) (k0 : Nat) (x1 : Int32) (D : cp_Dt) (res : Int32 × cp_Dt) (hF : fn_X6_ahead L q k0 x1 D = some res) : cp_Met l G yX6_ahead wsX6_ahead ({ frames := 3, cells := 0, slots := 0, locals := 68 }) L ([.ref (L.2.1 k0), .int x1] : List Value) D res.2 (some (.int res.1)) := by
  refine Met.ofW (cc := cX6_ahead) (maxL := 2) (ret := (some .int)) (by decide) rfl ?_
  intro p e s m args below meth c s₁ B hml hv
  obtain ⟨rfl, hP, hK, hN, hZ⟩ := hv
  have hx := B.exec
  have hb := B.bytes
  have hr := B.returns
  have hts := atoms_spec (ws := wsX6_ahead) B.pre
  have hown : s.vm.findClass "CreaturePondModel" = some m.cls := findClass_of_methodNamed B.named
  have hlocks := B.notSynchronized
  have hS : va_S (cp_A L) s.heap s.heap [] := va_S.rf
  have htT : ∀ w ∈ cp_T, w.before ([.ref (L.2.1 k0), .int x1] : List Value).toArray s = true := fun w h => hts w (List.mem_cons_of_mem _ h)
  have hl := lv_entry (([.ref (L.2.1 k0), .int x1] : List Value)) (n := 2) (Nat.le_of_ble_eq_true rfl)
  rw [lg_entry_eq]
  generalize (lg_sl (([.ref (L.2.1 k0), .int x1] : List Value)) ++ List.replicate (2 - (lg_sl (([.ref (L.2.1 k0), .int x1] : List Value))).length) Slot.unset).toArray = ls at hl ⊢
  have hl : lv_has ls 2 [(0, .ref (L.2.1 k0)), (1, .int x1)] := hl
  unfold fn_X6_ahead at hF
  refine lv_aload_n hx hb dX6_ahead_0 rfl (lv_at hl 0 rfl) ?_
  refine lv_aload_n hx hb dX6_ahead_1 rfl (lv_at hl 0 rfl) ?_
  obtain ⟨r1, er1, hF⟩ := cp_bind hF
  refine cp_getR (T := TX6) (N := 6) (ci := 6) (j := 3) hx hb htT hinX6 hown hK hP rfl (by decide) rfl (htT _ tw_378) er1 dX6_ahead_2 ?_
  refine lv_iload_n hx hb dX6_ahead_5 rfl (lv_at hl 1 rfl) ?_
  obtain ⟨y2, ey2, hF⟩ := cp_bind hF
  refine cp_call (st1 := [.int y2.1, .ref (L.2.1 r1), .ref (L.2.1 k0)]) (va_runS (As := [.int x1]) (rest := [.ref (L.2.1 r1), .ref (L.2.1 k0)]) ⟨hx, hb, hml, hown, htT⟩ (ct_X6_at l G L hJ q x1 D y2 ey2) ⟨callB_of 1 htT gdX6_at rfl rfl rfl (htT _ tw_8) (htT _ tw_417) hdX6_at ⟨Nat.le_of_ble_eq_true rfl, Nat.le_of_ble_eq_true rfl⟩, (htT _ tw_418)⟩ ⟨cp_blind, cp_pre hP hK hN hZ hS⟩ rfl rfl hl.1 rfl (lv_room (Nat.le_of_ble_eq_true rfl)) dX6_ahead_6 ⟨Nat.zero_le _, Nat.zero_le _⟩) hS (fun H locs hP hS => ?_)
  obtain ⟨v3, ev3, hF⟩ := cp_bind hF
  refine cp_iald hx hb hK hP ev3 dX6_ahead_9 ?_
  refine lv_aload_n hx hb dX6_ahead_10 rfl (lv_at hl 0 rfl) ?_
  obtain ⟨r4, er4, hF⟩ := cp_bind hF
  refine cp_getR (T := TX6) (N := 6) (ci := 6) (j := 3) hx hb htT hinX6 hown hK hP rfl (by decide) rfl (htT _ tw_378) er4 dX6_ahead_11 ?_
  refine lv_iload_n hx hb dX6_ahead_14 rfl (lv_at hl 1 rfl) ?_
  obtain ⟨y5, ey5, hF⟩ := cp_bind hF
  refine cp_call (st1 := [.int y5.1, .ref (L.2.1 r4), .int v3, .ref (L.2.1 k0)]) (va_runS (As := [.int x1]) (rest := [.ref (L.2.1 r4), .int v3, .ref (L.2.1 k0)]) ⟨hx, hb, hml, hown, htT⟩ (ct_X6_at l G L hJ q x1 y2.2 y5 ey5) ⟨callB_of 1 htT gdX6_at rfl rfl rfl (htT _ tw_8) (htT _ tw_417) hdX6_at ⟨Nat.le_of_ble_eq_true rfl, Nat.le_of_ble_eq_true rfl⟩, (htT _ tw_418)⟩ ⟨cp_blind, cp_pre hP hK hN hZ hS⟩ rfl rfl hl.1 rfl (lv_room (Nat.le_of_ble_eq_true rfl)) dX6_ahead_15 ⟨Nat.zero_le _, Nat.zero_le _⟩) hS (fun H locs hP hS => ?_)
  refine lv_iconst (v := (1 : Int32)) hx hb dX6_ahead_18 (by decide) ?_
  refine lv_iadd hx hb dX6_ahead_19 ?_
  obtain ⟨v6, ev6, hF⟩ := cp_bind hF
  refine cp_iald hx hb hK hP ev6 dX6_ahead_20 ?_
  obtain ⟨f7, ef7, hF⟩ := cp_bind hF
  obtain ⟨y8, ey8, hF⟩ := cp_bind hF
  refine cp_call (st1 := [.int y8.1]) (va_runV (As := [.int v3, .int v6]) (rest := []) ⟨hx, hb, hml, hown, htT⟩ (ct_X6_beside l G L hJ q k0 v3 v6 y5.2 y8 ey8) ⟨callB_of 2 htT gdX6_beside rfl rfl rfl (htT _ tw_8) (htT _ tw_467) hdX6_beside ⟨Nat.le_of_ble_eq_true rfl, Nat.le_of_ble_eq_true rfl⟩, (htT _ tw_468), (htT _ tw_586)⟩ ⟨cp_blind, cp_recv hK hP rfl ef7, cp_pre hP hK hN hZ hS⟩ rfl rfl hl.1 rfl (lv_room (Nat.le_of_ble_eq_true rfl)) dX6_ahead_21 ⟨Nat.zero_le _, Nat.zero_le _⟩) hS (fun H locs hP hS => ?_)
  exact cp_iret hx hb hr hlocks hF hP hS dX6_ahead_24
theorem dX6_looks_0 : decode cX6_looks 0 = .ok (.aload_n 0, 1) := by decide +kernel
theorem dX6_looks_1 : decode cX6_looks 1 = .ok (.iload_n 1, 1) := by decide +kernel
theorem dX6_looks_2 : decode cX6_looks 2 = .ok (.invokevirtual 48, 3) := by decide +kernel
theorem dX6_looks_5 : decode cX6_looks 5 = .ok (.istore_n 3, 1) := by decide +kernel
theorem dX6_looks_6 : decode cX6_looks 6 = .ok (.aload_n 0, 1) := by decide +kernel
theorem dX6_looks_7 : decode cX6_looks 7 = .ok (.iload_n 3, 1) := by decide +kernel
theorem dX6_looks_8 : decode cX6_looks 8 = .ok (.invokevirtual 51, 3) := by decide +kernel
theorem dX6_looks_11 : decode cX6_looks 11 = .ok (.istore 4, 2) := by decide +kernel
theorem dX6_looks_13 : decode cX6_looks 13 = .ok (.iload_n 2, 1) := by decide +kernel
theorem dX6_looks_14 : decode cX6_looks 14 = .ok (.ifCond .ne 14, 3) := by decide +kernel
theorem dX6_looks_17 : decode cX6_looks 17 = .ok (.aload_n 0, 1) := by decide +kernel
theorem dX6_looks_18 : decode cX6_looks 18 = .ok (.getfield 7, 3) := by decide +kernel
theorem dX6_looks_21 : decode cX6_looks 21 = .ok (.iload_n 3, 1) := by decide +kernel
theorem dX6_looks_22 : decode cX6_looks 22 = .ok (.iaload, 1) := by decide +kernel
theorem dX6_looks_23 : decode cX6_looks 23 = .ok (.iconst 1, 1) := by decide +kernel
theorem dX6_looks_24 : decode cX6_looks 24 = .ok (.ishr, 1) := by decide +kernel
theorem dX6_looks_25 : decode cX6_looks 25 = .ok (.goto 59, 3) := by decide +kernel
theorem dX6_looks_28 : decode cX6_looks 28 = .ok (.iload_n 2, 1) := by decide +kernel
theorem dX6_looks_29 : decode cX6_looks 29 = .ok (.iconst 1, 1) := by decide +kernel
theorem dX6_looks_30 : decode cX6_looks 30 = .ok (.if_icmp .ne 16, 3) := by decide +kernel
theorem dX6_looks_33 : decode cX6_looks 33 = .ok (.iload 4, 2) := by decide +kernel
theorem dX6_looks_35 : decode cX6_looks 35 = .ok (.ifCond .ge 7, 3) := by decide +kernel
theorem dX6_looks_38 : decode cX6_looks 38 = .ok (.iconst 0, 1) := by decide +kernel
theorem dX6_looks_39 : decode cX6_looks 39 = .ok (.goto 45, 3) := by decide +kernel
theorem dX6_looks_42 : decode cX6_looks 42 = .ok (.iconst 1, 1) := by decide +kernel
theorem dX6_looks_43 : decode cX6_looks 43 = .ok (.goto 41, 3) := by decide +kernel
theorem dX6_looks_46 : decode cX6_looks 46 = .ok (.iload_n 2, 1) := by decide +kernel
theorem dX6_looks_47 : decode cX6_looks 47 = .ok (.iconst 2, 1) := by decide +kernel
theorem dX6_looks_48 : decode cX6_looks 48 = .ok (.if_icmp .ne 15, 3) := by decide +kernel
theorem dX6_looks_51 : decode cX6_looks 51 = .ok (.aload_n 0, 1) := by decide +kernel
theorem dX6_looks_52 : decode cX6_looks 52 = .ok (.getfield 7, 3) := by decide +kernel
theorem dX6_looks_55 : decode cX6_looks 55 = .ok (.bipush 100, 2) := by decide +kernel
theorem dX6_looks_57 : decode cX6_looks 57 = .ok (.iload_n 3, 1) := by decide +kernel
theorem dX6_looks_58 : decode cX6_looks 58 = .ok (.iadd, 1) := by decide +kernel
theorem dX6_looks_59 : decode cX6_looks 59 = .ok (.iaload, 1) := by decide +kernel
theorem dX6_looks_60 : decode cX6_looks 60 = .ok (.goto 24, 3) := by decide +kernel
theorem dX6_looks_63 : decode cX6_looks 63 = .ok (.iload 4, 2) := by decide +kernel
theorem dX6_looks_65 : decode cX6_looks 65 = .ok (.ifCond .ge 7, 3) := by decide +kernel
theorem dX6_looks_68 : decode cX6_looks 68 = .ok (.iconst (-1), 1) := by decide +kernel
theorem dX6_looks_69 : decode cX6_looks 69 = .ok (.goto 15, 3) := by decide +kernel
theorem dX6_looks_72 : decode cX6_looks 72 = .ok (.aload_n 0, 1) := by decide +kernel
theorem dX6_looks_73 : decode cX6_looks 73 = .ok (.getfield 7, 3) := by decide +kernel
theorem dX6_looks_76 : decode cX6_looks 76 = .ok (.iload 4, 2) := by decide +kernel
theorem dX6_looks_78 : decode cX6_looks 78 = .ok (.invokestatic 30, 3) := by decide +kernel
theorem dX6_looks_81 : decode cX6_looks 81 = .ok (.iconst 1, 1) := by decide +kernel
theorem dX6_looks_82 : decode cX6_looks 82 = .ok (.iadd, 1) := by decide +kernel
theorem dX6_looks_83 : decode cX6_looks 83 = .ok (.iaload, 1) := by decide +kernel
theorem dX6_looks_84 : decode cX6_looks 84 = .ok (.ireturn, 1) := by decide +kernel
def fn_X6_looks (L : cp_Lay) (q : Nat) (k0 : Nat) (x1 : Int32) (x2 : Int32) (D : cp_Dt) : Option (Int32 × cp_Dt) :=
  (cp_fl L k0 6).bind fun f1 =>
  (fn_X6_ahead L q k0 x1 D).bind fun y2 =>
  (cp_fl L k0 6).bind fun f3 =>
  (fn_X6_inCell L q k0 y2.1 y2.2).bind fun y4 =>
  if x2 = 0 then ((cp_gR L k0 6 3).bind fun r15 =>
  (cp_aI L y4.2 0 r15 y2.1).bind fun v16 =>
  some ((v16 >>> ((1 : Int32) &&& 31)), y4.2))
  else (if x2 = (1 : Int32) then (if 0 ≤ y4.1 then (some ((1 : Int32), y4.2))
  else (some ((0 : Int32), y4.2)))
  else (if x2 = (2 : Int32) then ((cp_gR L k0 6 3).bind fun r12 =>
  (cp_aI L y4.2 0 r12 ((100 : Int32) + y2.1)).bind fun v13 =>
  some (v13, y4.2))
  else (if 0 ≤ y4.1 then ((cp_gR L k0 6 3).bind fun r9 =>
  (fn_X6_at L q y4.1 y4.2).bind fun y10 =>
  (cp_aI L y10.2 0 r9 (y10.1 + (1 : Int32))).bind fun v11 =>
  some (v11, y10.2))
  else (some ((-1 : Int32), y4.2)))))
set_option maxHeartbeats 4000000 in
set_option maxRecDepth 100000 in
theorem ct_X6_looks (l : Launch) (G : va_G) (L : cp_Lay) (hJ : cp_J L) (q : Nat) (k0 : Nat) (x1 : Int32) (x2 : Int32) (D : cp_Dt) (res : Int32 × cp_Dt) (hF : fn_X6_looks L q k0 x1 x2 D = some res) : cp_Met l G yX6_looks wsX6_looks ({ frames := 4, cells := 0, slots := 0, locals := 89 }) L ([.ref (L.2.1 k0), .int x1, .int x2] : List Value) D res.2 (some (.int res.1)) := by
  refine Met.ofW (cc := cX6_looks) (maxL := 5) (ret := (some .int)) (by decide) rfl ?_
  intro p e s m args below meth c s₁ B hml hv
  obtain ⟨rfl, hP, hK, hN, hZ⟩ := hv
  have hx := B.exec
  have hb := B.bytes
  have hr := B.returns
  have hts := atoms_spec (ws := wsX6_looks) B.pre
  have hown : s.vm.findClass "CreaturePondModel" = some m.cls := findClass_of_methodNamed B.named
  have hlocks := B.notSynchronized
  have hS : va_S (cp_A L) s.heap s.heap [] := va_S.rf
  have htT : ∀ w ∈ cp_T, w.before ([.ref (L.2.1 k0), .int x1, .int x2] : List Value).toArray s = true := fun w h => hts w (List.mem_cons_of_mem _ h)
  have hl := lv_entry (([.ref (L.2.1 k0), .int x1, .int x2] : List Value)) (n := 5) (Nat.le_of_ble_eq_true rfl)
  rw [lg_entry_eq]
  generalize (lg_sl (([.ref (L.2.1 k0), .int x1, .int x2] : List Value)) ++ List.replicate (5 - (lg_sl (([.ref (L.2.1 k0), .int x1, .int x2] : List Value))).length) Slot.unset).toArray = ls at hl ⊢
  have hl : lv_has ls 5 [(0, .ref (L.2.1 k0)), (1, .int x1), (2, .int x2)] := hl
  unfold fn_X6_looks at hF
  refine lv_aload_n hx hb dX6_looks_0 rfl (lv_at hl 0 rfl) ?_
  refine lv_iload_n hx hb dX6_looks_1 rfl (lv_at hl 1 rfl) ?_
  obtain ⟨f1, ef1, hF⟩ := cp_bind hF
  obtain ⟨y2, ey2, hF⟩ := cp_bind hF
  refine cp_call (st1 := [.int y2.1]) (va_runV (As := [.int x1]) (rest := []) ⟨hx, hb, hml, hown, htT⟩ (ct_X6_ahead l G L hJ q k0 x1 D y2 ey2) ⟨callB_of 1 htT gdX6_ahead rfl rfl rfl (htT _ tw_8) (htT _ tw_464) hdX6_ahead ⟨Nat.le_of_ble_eq_true rfl, Nat.le_of_ble_eq_true rfl⟩, (htT _ tw_465), (htT _ tw_585)⟩ ⟨cp_blind, cp_recv hK hP rfl ef1, cp_pre hP hK hN hZ hS⟩ rfl rfl hl.1 rfl (lv_room (Nat.le_of_ble_eq_true rfl)) dX6_looks_2 ⟨Nat.zero_le _, Nat.zero_le _⟩) hS (fun H locs hP hS => ?_)
  refine lv_istore_n (lv' := [(3, .int y2.1), (0, .ref (L.2.1 k0)), (1, .int x1), (2, .int x2)]) hx hb dX6_looks_5 rfl hl (by decide) rfl (fun ls hl => ?_)
  refine lv_aload_n hx hb dX6_looks_6 rfl (lv_at hl 1 rfl) ?_
  refine lv_iload_n hx hb dX6_looks_7 rfl (lv_at hl 0 rfl) ?_
  obtain ⟨f3, ef3, hF⟩ := cp_bind hF
  obtain ⟨y4, ey4, hF⟩ := cp_bind hF
  refine cp_call (st1 := [.int y4.1]) (va_runV (As := [.int y2.1]) (rest := []) ⟨hx, hb, hml, hown, htT⟩ (ct_X6_inCell l G L hJ q k0 y2.1 y2.2 y4 ey4) ⟨callB_of 1 htT gdX6_inCell rfl rfl rfl (htT _ tw_8) (htT _ tw_414) hdX6_inCell ⟨Nat.le_of_ble_eq_true rfl, Nat.le_of_ble_eq_true rfl⟩, (htT _ tw_415), (htT _ tw_574)⟩ ⟨cp_blind, cp_recv hK hP rfl ef3, cp_pre hP hK hN hZ hS⟩ rfl rfl hl.1 rfl (lv_room (Nat.le_of_ble_eq_true rfl)) dX6_looks_8 ⟨Nat.zero_le _, Nat.zero_le _⟩) hS (fun H locs hP hS => ?_)
  refine lv_istore (lv' := [(4, .int y4.1), (3, .int y2.1), (0, .ref (L.2.1 k0)), (1, .int x1), (2, .int x2)]) hx hb dX6_looks_11 hl (by decide) rfl (fun ls hl => ?_)
  refine lv_iload_n hx hb dX6_looks_13 rfl (lv_at hl 4 rfl) ?_
  refine lv_if_ne (tgt := 28) hx hb dX6_looks_14 (by decide) (fun hc5 => ?_) (fun hc5 => ?_)
  · rw [if_neg hc5] at hF
    refine lv_iload_n hx hb dX6_looks_28 rfl (lv_at hl 4 rfl) ?_
    refine lv_iconst (v := (1 : Int32)) hx hb dX6_looks_29 (by decide) ?_
    refine lv_icmp_ne (tgt := 46) hx hb dX6_looks_30 (by decide) (fun hc6 => ?_) (fun hc6 => ?_)
    · rw [if_neg hc6] at hF
      refine lv_iload_n hx hb dX6_looks_46 rfl (lv_at hl 4 rfl) ?_
      refine lv_iconst (v := (2 : Int32)) hx hb dX6_looks_47 (by decide) ?_
      refine lv_icmp_ne (tgt := 63) hx hb dX6_looks_48 (by decide) (fun hc7 => ?_) (fun hc7 => ?_)
      · rw [if_neg hc7] at hF
        refine lv_iload hx hb dX6_looks_63 (lv_at hl 0 rfl) ?_
        refine lv_if_ge (tgt := 72) hx hb dX6_looks_65 (by decide) (fun hc8 => ?_) (fun hc8 => ?_)
        · rw [if_pos hc8] at hF
          refine lv_aload_n hx hb dX6_looks_72 rfl (lv_at hl 2 rfl) ?_
          obtain ⟨r9, er9, hF⟩ := cp_bind hF
          refine cp_getR (T := TX6) (N := 6) (ci := 6) (j := 3) hx hb htT hinX6 hown hK hP rfl (by decide) rfl (htT _ tw_378) er9 dX6_looks_73 ?_
          refine lv_iload hx hb dX6_looks_76 (lv_at hl 0 rfl) ?_
          obtain ⟨y10, ey10, hF⟩ := cp_bind hF
          refine cp_call (st1 := [.int y10.1, .ref (L.2.1 r9)]) (va_runS (As := [.int y4.1]) (rest := [.ref (L.2.1 r9)]) ⟨hx, hb, hml, hown, htT⟩ (ct_X6_at l G L hJ q y4.1 y4.2 y10 ey10) ⟨callB_of 1 htT gdX6_at rfl rfl rfl (htT _ tw_8) (htT _ tw_417) hdX6_at ⟨Nat.le_of_ble_eq_true rfl, Nat.le_of_ble_eq_true rfl⟩, (htT _ tw_418)⟩ ⟨cp_blind, cp_pre hP hK hN hZ hS⟩ rfl rfl hl.1 rfl (lv_room (Nat.le_of_ble_eq_true rfl)) dX6_looks_78 ⟨Nat.zero_le _, Nat.zero_le _⟩) hS (fun H locs hP hS => ?_)
          refine lv_iconst (v := (1 : Int32)) hx hb dX6_looks_81 (by decide) ?_
          refine lv_iadd hx hb dX6_looks_82 ?_
          obtain ⟨v11, ev11, hF⟩ := cp_bind hF
          refine cp_iald hx hb hK hP ev11 dX6_looks_83 ?_
          exact cp_iret hx hb hr hlocks hF hP hS dX6_looks_84
        · rw [if_neg hc8] at hF
          refine lv_iconst (v := (-1 : Int32)) hx hb dX6_looks_68 (by decide) ?_
          refine lv_goto (tgt := 84) hx hb dX6_looks_69 (by decide) ?_
          exact cp_iret hx hb hr hlocks hF hP hS dX6_looks_84
      · rw [if_pos hc7] at hF
        refine lv_aload_n hx hb dX6_looks_51 rfl (lv_at hl 2 rfl) ?_
        obtain ⟨r12, er12, hF⟩ := cp_bind hF
        refine cp_getR (T := TX6) (N := 6) (ci := 6) (j := 3) hx hb htT hinX6 hown hK hP rfl (by decide) rfl (htT _ tw_378) er12 dX6_looks_52 ?_
        refine lv_bipush (v := (100 : Int32)) hx hb dX6_looks_55 (by decide) ?_
        refine lv_iload_n hx hb dX6_looks_57 rfl (lv_at hl 1 rfl) ?_
        refine lv_iadd hx hb dX6_looks_58 ?_
        obtain ⟨v13, ev13, hF⟩ := cp_bind hF
        refine cp_iald hx hb hK hP ev13 dX6_looks_59 ?_
        refine lv_goto (tgt := 84) hx hb dX6_looks_60 (by decide) ?_
        exact cp_iret hx hb hr hlocks hF hP hS dX6_looks_84
    · rw [if_pos hc6] at hF
      refine lv_iload hx hb dX6_looks_33 (lv_at hl 0 rfl) ?_
      refine lv_if_ge (tgt := 42) hx hb dX6_looks_35 (by decide) (fun hc14 => ?_) (fun hc14 => ?_)
      · rw [if_pos hc14] at hF
        refine lv_iconst (v := (1 : Int32)) hx hb dX6_looks_42 (by decide) ?_
        refine lv_goto (tgt := 84) hx hb dX6_looks_43 (by decide) ?_
        exact cp_iret hx hb hr hlocks hF hP hS dX6_looks_84
      · rw [if_neg hc14] at hF
        refine lv_iconst (v := (0 : Int32)) hx hb dX6_looks_38 (by decide) ?_
        refine lv_goto (tgt := 84) hx hb dX6_looks_39 (by decide) ?_
        exact cp_iret hx hb hr hlocks hF hP hS dX6_looks_84
  · rw [if_pos hc5] at hF
    refine lv_aload_n hx hb dX6_looks_17 rfl (lv_at hl 2 rfl) ?_
    obtain ⟨r15, er15, hF⟩ := cp_bind hF
    refine cp_getR (T := TX6) (N := 6) (ci := 6) (j := 3) hx hb htT hinX6 hown hK hP rfl (by decide) rfl (htT _ tw_378) er15 dX6_looks_18 ?_
    refine lv_iload_n hx hb dX6_looks_21 rfl (lv_at hl 1 rfl) ?_
    obtain ⟨v16, ev16, hF⟩ := cp_bind hF
    refine cp_iald hx hb hK hP ev16 dX6_looks_22 ?_
    refine lv_iconst (v := (1 : Int32)) hx hb dX6_looks_23 (by decide) ?_
    refine lv_ishr hx hb dX6_looks_24 ?_
    refine lv_goto (tgt := 84) hx hb dX6_looks_25 (by decide) ?_
    exact cp_iret hx hb hr hlocks hF hP hS dX6_looks_84
theorem dX6_breed_0 : decode cX6_breed 0 = .ok (.iconst (-1), 1) := by decide +kernel
theorem dX6_breed_1 : decode cX6_breed 1 = .ok (.istore_n 3, 1) := by decide +kernel
theorem dX6_breed_2 : decode cX6_breed 2 = .ok (.iconst 3, 1) := by decide +kernel
theorem dX6_breed_3 : decode cX6_breed 3 = .ok (.istore 4, 2) := by decide +kernel
theorem dX6_breed_5 : decode cX6_breed 5 = .ok (.iload 4, 2) := by decide +kernel
theorem dX6_breed_7 : decode cX6_breed 7 = .ok (.ifCond .lt 42, 3) := by decide +kernel
theorem dX6_breed_10 : decode cX6_breed 10 = .ok (.aload_n 0, 1) := by decide +kernel
theorem dX6_breed_11 : decode cX6_breed 11 = .ok (.aload_n 0, 1) := by decide +kernel
theorem dX6_breed_12 : decode cX6_breed 12 = .ok (.getfield 7, 3) := by decide +kernel
theorem dX6_breed_15 : decode cX6_breed 15 = .ok (.iload_n 1, 1) := by decide +kernel
theorem dX6_breed_16 : decode cX6_breed 16 = .ok (.invokestatic 30, 3) := by decide +kernel
theorem dX6_breed_19 : decode cX6_breed 19 = .ok (.iaload, 1) := by decide +kernel
theorem dX6_breed_20 : decode cX6_breed 20 = .ok (.iload 4, 2) := by decide +kernel
theorem dX6_breed_22 : decode cX6_breed 22 = .ok (.invokevirtual 41, 3) := by decide +kernel
theorem dX6_breed_25 : decode cX6_breed 25 = .ok (.istore 5, 2) := by decide +kernel
theorem dX6_breed_27 : decode cX6_breed 27 = .ok (.aload_n 0, 1) := by decide +kernel
theorem dX6_breed_28 : decode cX6_breed 28 = .ok (.iload 5, 2) := by decide +kernel
theorem dX6_breed_30 : decode cX6_breed 30 = .ok (.invokevirtual 51, 3) := by decide +kernel
theorem dX6_breed_33 : decode cX6_breed 33 = .ok (.ifCond .ge 8, 3) := by decide +kernel
theorem dX6_breed_36 : decode cX6_breed 36 = .ok (.iload 5, 2) := by decide +kernel
theorem dX6_breed_38 : decode cX6_breed 38 = .ok (.goto 4, 3) := by decide +kernel
theorem dX6_breed_41 : decode cX6_breed 41 = .ok (.iload_n 3, 1) := by decide +kernel
theorem dX6_breed_42 : decode cX6_breed 42 = .ok (.istore_n 3, 1) := by decide +kernel
theorem dX6_breed_43 : decode cX6_breed 43 = .ok (.iinc 4 (-1), 3) := by decide +kernel
theorem dX6_breed_46 : decode cX6_breed 46 = .ok (.goto (-41), 3) := by decide +kernel
theorem dX6_breed_49 : decode cX6_breed 49 = .ok (.aload_n 0, 1) := by decide +kernel
theorem dX6_breed_50 : decode cX6_breed 50 = .ok (.invokevirtual 85, 3) := by decide +kernel
theorem dX6_breed_53 : decode cX6_breed 53 = .ok (.istore 4, 2) := by decide +kernel
theorem dX6_breed_55 : decode cX6_breed 55 = .ok (.aload_n 0, 1) := by decide +kernel
theorem dX6_breed_56 : decode cX6_breed 56 = .ok (.getfield 7, 3) := by decide +kernel
theorem dX6_breed_59 : decode cX6_breed 59 = .ok (.iload_n 1, 1) := by decide +kernel
theorem dX6_breed_60 : decode cX6_breed 60 = .ok (.invokestatic 30, 3) := by decide +kernel
theorem dX6_breed_63 : decode cX6_breed 63 = .ok (.iconst 2, 1) := by decide +kernel
theorem dX6_breed_64 : decode cX6_breed 64 = .ok (.iadd, 1) := by decide +kernel
theorem dX6_breed_65 : decode cX6_breed 65 = .ok (.iaload, 1) := by decide +kernel
theorem dX6_breed_66 : decode cX6_breed 66 = .ok (.bipush 40, 2) := by decide +kernel
theorem dX6_breed_68 : decode cX6_breed 68 = .ok (.if_icmp .lt 30, 3) := by decide +kernel
theorem dX6_breed_71 : decode cX6_breed 71 = .ok (.aload_n 0, 1) := by decide +kernel
theorem dX6_breed_72 : decode cX6_breed 72 = .ok (.getfield 7, 3) := by decide +kernel
theorem dX6_breed_75 : decode cX6_breed 75 = .ok (.iload_n 2, 1) := by decide +kernel
theorem dX6_breed_76 : decode cX6_breed 76 = .ok (.invokestatic 30, 3) := by decide +kernel
theorem dX6_breed_79 : decode cX6_breed 79 = .ok (.iconst 2, 1) := by decide +kernel
theorem dX6_breed_80 : decode cX6_breed 80 = .ok (.iadd, 1) := by decide +kernel
theorem dX6_breed_81 : decode cX6_breed 81 = .ok (.iaload, 1) := by decide +kernel
theorem dX6_breed_82 : decode cX6_breed 82 = .ok (.bipush 40, 2) := by decide +kernel
theorem dX6_breed_84 : decode cX6_breed 84 = .ok (.if_icmp .lt 14, 3) := by decide +kernel
theorem dX6_breed_87 : decode cX6_breed 87 = .ok (.iload_n 3, 1) := by decide +kernel
theorem dX6_breed_88 : decode cX6_breed 88 = .ok (.ifCond .lt 10, 3) := by decide +kernel
theorem dX6_breed_91 : decode cX6_breed 91 = .ok (.iload 4, 2) := by decide +kernel
theorem dX6_breed_93 : decode cX6_breed 93 = .ok (.bipush 16, 2) := by decide +kernel
theorem dX6_breed_95 : decode cX6_breed 95 = .ok (.if_icmp .ne 4, 3) := by decide +kernel
theorem dX6_breed_98 : decode cX6_breed 98 = .ok (.return_, 1) := by decide +kernel
theorem dX6_breed_99 : decode cX6_breed 99 = .ok (.aload_n 0, 1) := by decide +kernel
theorem dX6_breed_100 : decode cX6_breed 100 = .ok (.iload_n 1, 1) := by decide +kernel
theorem dX6_breed_101 : decode cX6_breed 101 = .ok (.bipush 10, 2) := by decide +kernel
theorem dX6_breed_103 : decode cX6_breed 103 = .ok (.invokevirtual 60, 3) := by decide +kernel
theorem dX6_breed_106 : decode cX6_breed 106 = .ok (.aload_n 0, 1) := by decide +kernel
theorem dX6_breed_107 : decode cX6_breed 107 = .ok (.iload_n 2, 1) := by decide +kernel
theorem dX6_breed_108 : decode cX6_breed 108 = .ok (.bipush 10, 2) := by decide +kernel
theorem dX6_breed_110 : decode cX6_breed 110 = .ok (.invokevirtual 60, 3) := by decide +kernel
theorem dX6_breed_113 : decode cX6_breed 113 = .ok (.aload_n 0, 1) := by decide +kernel
theorem dX6_breed_114 : decode cX6_breed 114 = .ok (.getfield 7, 3) := by decide +kernel
theorem dX6_breed_117 : decode cX6_breed 117 = .ok (.iload_n 1, 1) := by decide +kernel
theorem dX6_breed_118 : decode cX6_breed 118 = .ok (.invokestatic 30, 3) := by decide +kernel
theorem dX6_breed_121 : decode cX6_breed 121 = .ok (.iconst 2, 1) := by decide +kernel
theorem dX6_breed_122 : decode cX6_breed 122 = .ok (.iadd, 1) := by decide +kernel
theorem dX6_breed_123 : decode cX6_breed 123 = .ok (.iaload, 1) := by decide +kernel
theorem dX6_breed_124 : decode cX6_breed 124 = .ok (.iconst 2, 1) := by decide +kernel
theorem dX6_breed_125 : decode cX6_breed 125 = .ok (.idiv, 1) := by decide +kernel
theorem dX6_breed_126 : decode cX6_breed 126 = .ok (.istore 5, 2) := by decide +kernel
theorem dX6_breed_128 : decode cX6_breed 128 = .ok (.aload_n 0, 1) := by decide +kernel
theorem dX6_breed_129 : decode cX6_breed 129 = .ok (.getfield 7, 3) := by decide +kernel
theorem dX6_breed_132 : decode cX6_breed 132 = .ok (.iload_n 2, 1) := by decide +kernel
theorem dX6_breed_133 : decode cX6_breed 133 = .ok (.invokestatic 30, 3) := by decide +kernel
theorem dX6_breed_136 : decode cX6_breed 136 = .ok (.iconst 2, 1) := by decide +kernel
theorem dX6_breed_137 : decode cX6_breed 137 = .ok (.iadd, 1) := by decide +kernel
theorem dX6_breed_138 : decode cX6_breed 138 = .ok (.iaload, 1) := by decide +kernel
theorem dX6_breed_139 : decode cX6_breed 139 = .ok (.iconst 2, 1) := by decide +kernel
theorem dX6_breed_140 : decode cX6_breed 140 = .ok (.idiv, 1) := by decide +kernel
theorem dX6_breed_141 : decode cX6_breed 141 = .ok (.istore 6, 2) := by decide +kernel
theorem dX6_breed_143 : decode cX6_breed 143 = .ok (.aload_n 0, 1) := by decide +kernel
theorem dX6_breed_144 : decode cX6_breed 144 = .ok (.getfield 7, 3) := by decide +kernel
theorem dX6_breed_147 : decode cX6_breed 147 = .ok (.iload_n 1, 1) := by decide +kernel
theorem dX6_breed_148 : decode cX6_breed 148 = .ok (.invokestatic 30, 3) := by decide +kernel
theorem dX6_breed_151 : decode cX6_breed 151 = .ok (.iconst 2, 1) := by decide +kernel
theorem dX6_breed_152 : decode cX6_breed 152 = .ok (.iadd, 1) := by decide +kernel
theorem dX6_breed_153 : decode cX6_breed 153 = .ok (.dup2, 1) := by decide +kernel
theorem dX6_breed_154 : decode cX6_breed 154 = .ok (.iaload, 1) := by decide +kernel
theorem dX6_breed_155 : decode cX6_breed 155 = .ok (.iload 5, 2) := by decide +kernel
theorem dX6_breed_157 : decode cX6_breed 157 = .ok (.isub, 1) := by decide +kernel
theorem dX6_breed_158 : decode cX6_breed 158 = .ok (.iastore, 1) := by decide +kernel
theorem dX6_breed_159 : decode cX6_breed 159 = .ok (.aload_n 0, 1) := by decide +kernel
theorem dX6_breed_160 : decode cX6_breed 160 = .ok (.getfield 7, 3) := by decide +kernel
theorem dX6_breed_163 : decode cX6_breed 163 = .ok (.iload_n 2, 1) := by decide +kernel
theorem dX6_breed_164 : decode cX6_breed 164 = .ok (.invokestatic 30, 3) := by decide +kernel
theorem dX6_breed_167 : decode cX6_breed 167 = .ok (.iconst 2, 1) := by decide +kernel
theorem dX6_breed_168 : decode cX6_breed 168 = .ok (.iadd, 1) := by decide +kernel
theorem dX6_breed_169 : decode cX6_breed 169 = .ok (.dup2, 1) := by decide +kernel
theorem dX6_breed_170 : decode cX6_breed 170 = .ok (.iaload, 1) := by decide +kernel
theorem dX6_breed_171 : decode cX6_breed 171 = .ok (.iload 6, 2) := by decide +kernel
theorem dX6_breed_173 : decode cX6_breed 173 = .ok (.isub, 1) := by decide +kernel
theorem dX6_breed_174 : decode cX6_breed 174 = .ok (.iastore, 1) := by decide +kernel
theorem dX6_breed_175 : decode cX6_breed 175 = .ok (.aload_n 0, 1) := by decide +kernel
theorem dX6_breed_176 : decode cX6_breed 176 = .ok (.iload 4, 2) := by decide +kernel
theorem dX6_breed_178 : decode cX6_breed 178 = .ok (.iload_n 3, 1) := by decide +kernel
theorem dX6_breed_179 : decode cX6_breed 179 = .ok (.aload_n 0, 1) := by decide +kernel
theorem dX6_breed_180 : decode cX6_breed 180 = .ok (.getfield 7, 3) := by decide +kernel
theorem dX6_breed_183 : decode cX6_breed 183 = .ok (.iload_n 1, 1) := by decide +kernel
theorem dX6_breed_184 : decode cX6_breed 184 = .ok (.invokestatic 30, 3) := by decide +kernel
theorem dX6_breed_187 : decode cX6_breed 187 = .ok (.iconst 1, 1) := by decide +kernel
theorem dX6_breed_188 : decode cX6_breed 188 = .ok (.iadd, 1) := by decide +kernel
theorem dX6_breed_189 : decode cX6_breed 189 = .ok (.iaload, 1) := by decide +kernel
theorem dX6_breed_190 : decode cX6_breed 190 = .ok (.iload 5, 2) := by decide +kernel
theorem dX6_breed_192 : decode cX6_breed 192 = .ok (.iload 6, 2) := by decide +kernel
theorem dX6_breed_194 : decode cX6_breed 194 = .ok (.iadd, 1) := by decide +kernel
theorem dX6_breed_195 : decode cX6_breed 195 = .ok (.invokevirtual 88, 3) := by decide +kernel
theorem dX6_breed_198 : decode cX6_breed 198 = .ok (.aload_n 0, 1) := by decide +kernel
theorem dX6_breed_199 : decode cX6_breed 199 = .ok (.getfield 7, 3) := by decide +kernel
theorem dX6_breed_202 : decode cX6_breed 202 = .ok (.iload 4, 2) := by decide +kernel
theorem dX6_breed_204 : decode cX6_breed 204 = .ok (.invokestatic 30, 3) := by decide +kernel
theorem dX6_breed_207 : decode cX6_breed 207 = .ok (.bipush 6, 2) := by decide +kernel
theorem dX6_breed_209 : decode cX6_breed 209 = .ok (.iadd, 1) := by decide +kernel
theorem dX6_breed_210 : decode cX6_breed 210 = .ok (.iload_n 1, 1) := by decide +kernel
theorem dX6_breed_211 : decode cX6_breed 211 = .ok (.iastore, 1) := by decide +kernel
theorem dX6_breed_212 : decode cX6_breed 212 = .ok (.aload_n 0, 1) := by decide +kernel
theorem dX6_breed_213 : decode cX6_breed 213 = .ok (.getfield 7, 3) := by decide +kernel
theorem dX6_breed_216 : decode cX6_breed 216 = .ok (.iload 4, 2) := by decide +kernel
theorem dX6_breed_218 : decode cX6_breed 218 = .ok (.invokestatic 30, 3) := by decide +kernel
theorem dX6_breed_221 : decode cX6_breed 221 = .ok (.bipush 7, 2) := by decide +kernel
theorem dX6_breed_223 : decode cX6_breed 223 = .ok (.iadd, 1) := by decide +kernel
theorem dX6_breed_224 : decode cX6_breed 224 = .ok (.iload_n 2, 1) := by decide +kernel
theorem dX6_breed_225 : decode cX6_breed 225 = .ok (.iastore, 1) := by decide +kernel
theorem dX6_breed_226 : decode cX6_breed 226 = .ok (.aload_n 0, 1) := by decide +kernel
theorem dX6_breed_227 : decode cX6_breed 227 = .ok (.getfield 7, 3) := by decide +kernel
theorem dX6_breed_230 : decode cX6_breed 230 = .ok (.iload 4, 2) := by decide +kernel
theorem dX6_breed_232 : decode cX6_breed 232 = .ok (.invokestatic 30, 3) := by decide +kernel
theorem dX6_breed_235 : decode cX6_breed 235 = .ok (.bipush 8, 2) := by decide +kernel
theorem dX6_breed_237 : decode cX6_breed 237 = .ok (.iadd, 1) := by decide +kernel
theorem dX6_breed_238 : decode cX6_breed 238 = .ok (.iconst 1, 1) := by decide +kernel
theorem dX6_breed_239 : decode cX6_breed 239 = .ok (.aload_n 0, 1) := by decide +kernel
theorem dX6_breed_240 : decode cX6_breed 240 = .ok (.getfield 7, 3) := by decide +kernel
theorem dX6_breed_243 : decode cX6_breed 243 = .ok (.iload_n 1, 1) := by decide +kernel
theorem dX6_breed_244 : decode cX6_breed 244 = .ok (.invokestatic 30, 3) := by decide +kernel
theorem dX6_breed_247 : decode cX6_breed 247 = .ok (.bipush 8, 2) := by decide +kernel
theorem dX6_breed_249 : decode cX6_breed 249 = .ok (.iadd, 1) := by decide +kernel
theorem dX6_breed_250 : decode cX6_breed 250 = .ok (.iaload, 1) := by decide +kernel
theorem dX6_breed_251 : decode cX6_breed 251 = .ok (.ineg, 1) := by decide +kernel
theorem dX6_breed_252 : decode cX6_breed 252 = .ok (.aload_n 0, 1) := by decide +kernel
theorem dX6_breed_253 : decode cX6_breed 253 = .ok (.getfield 7, 3) := by decide +kernel
theorem dX6_breed_256 : decode cX6_breed 256 = .ok (.iload_n 2, 1) := by decide +kernel
theorem dX6_breed_257 : decode cX6_breed 257 = .ok (.invokestatic 30, 3) := by decide +kernel
theorem dX6_breed_260 : decode cX6_breed 260 = .ok (.bipush 8, 2) := by decide +kernel
theorem dX6_breed_262 : decode cX6_breed 262 = .ok (.iadd, 1) := by decide +kernel
theorem dX6_breed_263 : decode cX6_breed 263 = .ok (.iaload, 1) := by decide +kernel
theorem dX6_breed_264 : decode cX6_breed 264 = .ok (.ineg, 1) := by decide +kernel
theorem dX6_breed_265 : decode cX6_breed 265 = .ok (.invokestatic 45, 3) := by decide +kernel
theorem dX6_breed_268 : decode cX6_breed 268 = .ok (.isub, 1) := by decide +kernel
theorem dX6_breed_269 : decode cX6_breed 269 = .ok (.iastore, 1) := by decide +kernel
theorem dX6_breed_270 : decode cX6_breed 270 = .ok (.aload_n 0, 1) := by decide +kernel
theorem dX6_breed_271 : decode cX6_breed 271 = .ok (.iload 4, 2) := by decide +kernel
theorem dX6_breed_273 : decode cX6_breed 273 = .ok (.iload_n 1, 1) := by decide +kernel
theorem dX6_breed_274 : decode cX6_breed 274 = .ok (.iload_n 2, 1) := by decide +kernel
theorem dX6_breed_275 : decode cX6_breed 275 = .ok (.invokevirtual 92, 3) := by decide +kernel
theorem dX6_breed_278 : decode cX6_breed 278 = .ok (.aload_n 0, 1) := by decide +kernel
theorem dX6_breed_279 : decode cX6_breed 279 = .ok (.getfield 7, 3) := by decide +kernel
theorem dX6_breed_282 : decode cX6_breed 282 = .ok (.sipush 1228, 3) := by decide +kernel
theorem dX6_breed_285 : decode cX6_breed 285 = .ok (.dup2, 1) := by decide +kernel
theorem dX6_breed_286 : decode cX6_breed 286 = .ok (.iaload, 1) := by decide +kernel
theorem dX6_breed_287 : decode cX6_breed 287 = .ok (.iconst 1, 1) := by decide +kernel
theorem dX6_breed_288 : decode cX6_breed 288 = .ok (.iadd, 1) := by decide +kernel
theorem dX6_breed_289 : decode cX6_breed 289 = .ok (.iastore, 1) := by decide +kernel
theorem dX6_breed_290 : decode cX6_breed 290 = .ok (.return_, 1) := by decide +kernel
def fn_X6_breed_L5 (L : cp_Lay) (q : Nat) : Nat → Nat → Int32 → Int32 → Int32 → Int32 → cp_Dt → Option (cp_Dt)
  | 0, _, _, _, _, _, _ => none
  | n + 1, a0, i1, i2, i3, i4, D =>
    if i4 < 0 then ((cp_fl L a0 6).bind fun f2 =>
    (fn_X6_free L q a0 D).bind fun y3 =>
    (cp_gR L a0 6 3).bind fun r4 =>
    (fn_X6_at L q i1 y3.2).bind fun y5 =>
    (cp_aI L y5.2 0 r4 (y5.1 + (2 : Int32))).bind fun v6 =>
    if v6 < (40 : Int32) then (some y5.2)
    else ((cp_gR L a0 6 3).bind fun r8 =>
    (fn_X6_at L q i2 y5.2).bind fun y9 =>
    (cp_aI L y9.2 0 r8 (y9.1 + (2 : Int32))).bind fun v10 =>
    if v10 < (40 : Int32) then (some y9.2)
    else (if i3 < 0 then (some y9.2)
    else (if y3.1 = (16 : Int32) then (some y9.2)
    else ((cp_fl L a0 6).bind fun f14 =>
    (fn_X6_pay L q a0 i1 (10 : Int32) y9.2).bind fun D15 =>
    (cp_fl L a0 6).bind fun f16 =>
    (fn_X6_pay L q a0 i2 (10 : Int32) D15).bind fun D17 =>
    (cp_gR L a0 6 3).bind fun r18 =>
    (fn_X6_at L q i1 D17).bind fun y19 =>
    (cp_aI L y19.2 0 r18 (y19.1 + (2 : Int32))).bind fun v20 =>
    (cp_gR L a0 6 3).bind fun r21 =>
    (fn_X6_at L q i2 y19.2).bind fun y22 =>
    (cp_aI L y22.2 0 r21 (y22.1 + (2 : Int32))).bind fun v23 =>
    (cp_gR L a0 6 3).bind fun r24 =>
    (fn_X6_at L q i1 y22.2).bind fun y25 =>
    (cp_aI L y25.2 0 r24 (y25.1 + (2 : Int32))).bind fun v26 =>
    (cp_aS L y25.2 0 r24 (y25.1 + (2 : Int32)) (v26 - (v20 / (2 : Int32)))).bind fun D27 =>
    (cp_gR L a0 6 3).bind fun r28 =>
    (fn_X6_at L q i2 D27).bind fun y29 =>
    (cp_aI L y29.2 0 r28 (y29.1 + (2 : Int32))).bind fun v30 =>
    (cp_aS L y29.2 0 r28 (y29.1 + (2 : Int32)) (v30 - (v23 / (2 : Int32)))).bind fun D31 =>
    (cp_gR L a0 6 3).bind fun r32 =>
    (fn_X6_at L q i1 D31).bind fun y33 =>
    (cp_aI L y33.2 0 r32 (y33.1 + (1 : Int32))).bind fun v34 =>
    (cp_fl L a0 6).bind fun f35 =>
    (fn_X6_make L q a0 y3.1 i3 v34 ((v20 / (2 : Int32)) + (v23 / (2 : Int32))) y33.2).bind fun D36 =>
    (cp_gR L a0 6 3).bind fun r37 =>
    (fn_X6_at L q y3.1 D36).bind fun y38 =>
    (cp_aS L y38.2 0 r37 (y38.1 + (6 : Int32)) i1).bind fun D39 =>
    (cp_gR L a0 6 3).bind fun r40 =>
    (fn_X6_at L q y3.1 D39).bind fun y41 =>
    (cp_aS L y41.2 0 r40 (y41.1 + (7 : Int32)) i2).bind fun D42 =>
    (cp_gR L a0 6 3).bind fun r43 =>
    (fn_X6_at L q y3.1 D42).bind fun y44 =>
    (cp_gR L a0 6 3).bind fun r45 =>
    (fn_X6_at L q i1 y44.2).bind fun y46 =>
    (cp_aI L y46.2 0 r45 (y46.1 + (8 : Int32))).bind fun v47 =>
    (cp_gR L a0 6 3).bind fun r48 =>
    (fn_X6_at L q i2 y46.2).bind fun y49 =>
    (cp_aI L y49.2 0 r48 (y49.1 + (8 : Int32))).bind fun v50 =>
    (fn_X6_least L q (-v47) (-v50) y49.2).bind fun y51 =>
    (cp_aS L y51.2 0 r43 (y44.1 + (8 : Int32)) ((1 : Int32) - y51.1)).bind fun D52 =>
    (cp_fl L a0 6).bind fun f53 =>
    (fn_X6_inherit L q a0 y3.1 i1 i2 D52).bind fun D54 =>
    (cp_gR L a0 6 3).bind fun r55 =>
    (cp_aI L D54 0 r55 (1228 : Int32)).bind fun v56 =>
    (cp_aS L D54 0 r55 (1228 : Int32) (v56 + (1 : Int32))).bind fun D57 =>
    some D57)))))
    else ((cp_gR L a0 6 3).bind fun r58 =>
    (fn_X6_at L q i1 D).bind fun y59 =>
    (cp_aI L y59.2 0 r58 y59.1).bind fun v60 =>
    (cp_fl L a0 6).bind fun f61 =>
    (fn_X6_beside L q a0 v60 i4 y59.2).bind fun y62 =>
    (cp_fl L a0 6).bind fun f63 =>
    (fn_X6_inCell L q a0 y62.1 y62.2).bind fun y64 =>
    if 0 ≤ y64.1 then (fn_X6_breed_L5 L q n a0 i1 i2 i3 (i4 + (-1)) y64.2)
    else (fn_X6_breed_L5 L q n a0 i1 i2 y62.1 (i4 + (-1)) y64.2))
def fn_X6_breed (L : cp_Lay) (q : Nat) (k0 : Nat) (x1 : Int32) (x2 : Int32) (D : cp_Dt) : Option (cp_Dt) :=
  fn_X6_breed_L5 L q q k0 x1 x2 (-1 : Int32) (3 : Int32) D
set_option maxHeartbeats 4000000 in
set_option maxRecDepth 100000 in
theorem ct_X6_breed (l : Launch) (G : va_G) (L : cp_Lay) (hJ : cp_J L) (q : Nat) (k0 : Nat) (x1 : Int32) (x2 : Int32) (D : cp_Dt) (res : cp_Dt) (hF : fn_X6_breed L q k0 x1 x2 D = some res) : cp_Met l G yX6_breed wsX6_breed ({ frames := 3, cells := 0, slots := 0, locals := 68 }) L ([.ref (L.2.1 k0), .int x1, .int x2] : List Value) D res none := by
  refine Met.ofW (cc := cX6_breed) (maxL := 7) (ret := none) (by decide) rfl ?_
  intro p e s m args below meth c s₁ B hml hv
  obtain ⟨rfl, hP, hK, hN, hZ⟩ := hv
  have hx := B.exec
  have hb := B.bytes
  have hr := B.returns
  have hts := atoms_spec (ws := wsX6_breed) B.pre
  have hown : s.vm.findClass "CreaturePondModel" = some m.cls := findClass_of_methodNamed B.named
  have hlocks := B.notSynchronized
  have hS : va_S (cp_A L) s.heap s.heap [] := va_S.rf
  have htT : ∀ w ∈ cp_T, w.before ([.ref (L.2.1 k0), .int x1, .int x2] : List Value).toArray s = true := fun w h => hts w (List.mem_cons_of_mem _ h)
  have hl := lv_entry (([.ref (L.2.1 k0), .int x1, .int x2] : List Value)) (n := 7) (Nat.le_of_ble_eq_true rfl)
  rw [lg_entry_eq]
  generalize (lg_sl (([.ref (L.2.1 k0), .int x1, .int x2] : List Value)) ++ List.replicate (7 - (lg_sl (([.ref (L.2.1 k0), .int x1, .int x2] : List Value))).length) Slot.unset).toArray = ls at hl ⊢
  have hl : lv_has ls 7 [(0, .ref (L.2.1 k0)), (1, .int x1), (2, .int x2)] := hl
  have hL5 : ∀ (n : Nat) (a0 : Nat) (i1 : Int32) (i2 : Int32) (i3 : Int32) (i4 : Int32) (D : cp_Dt) (H : Heap) (locs : List Loc) (ls : Array Slot), fn_X6_breed_L5 L q n a0 i1 i2 i3 i4 D = some res → va_P G vwCl (cp_ws L D) H → va_S (cp_A L) s.heap H locs → lv_has ls 7 [(0, .ref (L.2.1 a0)), (1, .int i1), (2, .int i2), (3, .int i3), (4, .int i4)] → W p l e (headSpec wsX6_breed ({ frames := 3, cells := 0, slots := 0, locals := 68 })).room s m ([.ref (L.2.1 k0), .int x1, .int x2] : List Value).toArray below meth c H locs 0 0 (MQ below (cp_Q G L res none) ([.ref (L.2.1 k0), .int x1, .int x2] : List Value).toArray s 0 0 (cp_A L)) (F0 m 5 ls []) := by
    intro n
    induction n with
    | zero =>
      intro a0 i1 i2 i3 i4 D H locs ls hF
      cases hF
    | succ n ih =>
      intro a0 i1 i2 i3 i4 D H locs ls hF hP hS hl
      unfold fn_X6_breed_L5 at hF
      refine lv_iload hx hb dX6_breed_5 (lv_at hl 4 rfl) ?_
      refine lv_if_lt (tgt := 49) hx hb dX6_breed_7 (by decide) (fun hc1 => ?_) (fun hc1 => ?_)
      · rw [if_pos hc1] at hF
        refine lv_aload_n hx hb dX6_breed_49 rfl (lv_at hl 0 rfl) ?_
        obtain ⟨f2, ef2, hF⟩ := cp_bind hF
        obtain ⟨y3, ey3, hF⟩ := cp_bind hF
        refine cp_call (st1 := [.int y3.1]) (va_runV (As := []) (rest := []) ⟨hx, hb, hml, hown, htT⟩ (ct_X6_free l G L hJ q a0 D y3 ey3) ⟨callB_of 0 htT gdX6_free rfl rfl rfl (htT _ tw_8) (htT _ tw_420) hdX6_free ⟨Nat.le_of_ble_eq_true rfl, Nat.le_of_ble_eq_true rfl⟩, (htT _ tw_421), (htT _ tw_575)⟩ ⟨cp_blind, cp_recv hK hP rfl ef2, cp_pre hP hK hN hZ hS⟩ rfl rfl hl.1 rfl (lv_room (Nat.le_of_ble_eq_true rfl)) dX6_breed_50 ⟨Nat.zero_le _, Nat.zero_le _⟩) hS (fun H locs hP hS => ?_)
        refine lv_istore (lv' := [(4, .int y3.1), (0, .ref (L.2.1 a0)), (1, .int i1), (2, .int i2), (3, .int i3)]) hx hb dX6_breed_53 hl (by decide) rfl (fun ls hl => ?_)
        refine lv_aload_n hx hb dX6_breed_55 rfl (lv_at hl 1 rfl) ?_
        obtain ⟨r4, er4, hF⟩ := cp_bind hF
        refine cp_getR (T := TX6) (N := 6) (ci := 6) (j := 3) hx hb htT hinX6 hown hK hP rfl (by decide) rfl (htT _ tw_378) er4 dX6_breed_56 ?_
        refine lv_iload_n hx hb dX6_breed_59 rfl (lv_at hl 2 rfl) ?_
        obtain ⟨y5, ey5, hF⟩ := cp_bind hF
        refine cp_call (st1 := [.int y5.1, .ref (L.2.1 r4)]) (va_runS (As := [.int i1]) (rest := [.ref (L.2.1 r4)]) ⟨hx, hb, hml, hown, htT⟩ (ct_X6_at l G L hJ q i1 y3.2 y5 ey5) ⟨callB_of 1 htT gdX6_at rfl rfl rfl (htT _ tw_8) (htT _ tw_417) hdX6_at ⟨Nat.le_of_ble_eq_true rfl, Nat.le_of_ble_eq_true rfl⟩, (htT _ tw_418)⟩ ⟨cp_blind, cp_pre hP hK hN hZ hS⟩ rfl rfl hl.1 rfl (lv_room (Nat.le_of_ble_eq_true rfl)) dX6_breed_60 ⟨Nat.zero_le _, Nat.zero_le _⟩) hS (fun H locs hP hS => ?_)
        refine lv_iconst (v := (2 : Int32)) hx hb dX6_breed_63 (by decide) ?_
        refine lv_iadd hx hb dX6_breed_64 ?_
        obtain ⟨v6, ev6, hF⟩ := cp_bind hF
        refine cp_iald hx hb hK hP ev6 dX6_breed_65 ?_
        refine lv_bipush (v := (40 : Int32)) hx hb dX6_breed_66 (by decide) ?_
        refine lv_icmp_lt (tgt := 98) hx hb dX6_breed_68 (by decide) (fun hc7 => ?_) (fun hc7 => ?_)
        · rw [if_pos hc7] at hF
          exact cp_vret hx hb hr hlocks hF hP hS dX6_breed_98
        · rw [if_neg hc7] at hF
          refine lv_aload_n hx hb dX6_breed_71 rfl (lv_at hl 1 rfl) ?_
          obtain ⟨r8, er8, hF⟩ := cp_bind hF
          refine cp_getR (T := TX6) (N := 6) (ci := 6) (j := 3) hx hb htT hinX6 hown hK hP rfl (by decide) rfl (htT _ tw_378) er8 dX6_breed_72 ?_
          refine lv_iload_n hx hb dX6_breed_75 rfl (lv_at hl 3 rfl) ?_
          obtain ⟨y9, ey9, hF⟩ := cp_bind hF
          refine cp_call (st1 := [.int y9.1, .ref (L.2.1 r8)]) (va_runS (As := [.int i2]) (rest := [.ref (L.2.1 r8)]) ⟨hx, hb, hml, hown, htT⟩ (ct_X6_at l G L hJ q i2 y5.2 y9 ey9) ⟨callB_of 1 htT gdX6_at rfl rfl rfl (htT _ tw_8) (htT _ tw_417) hdX6_at ⟨Nat.le_of_ble_eq_true rfl, Nat.le_of_ble_eq_true rfl⟩, (htT _ tw_418)⟩ ⟨cp_blind, cp_pre hP hK hN hZ hS⟩ rfl rfl hl.1 rfl (lv_room (Nat.le_of_ble_eq_true rfl)) dX6_breed_76 ⟨Nat.zero_le _, Nat.zero_le _⟩) hS (fun H locs hP hS => ?_)
          refine lv_iconst (v := (2 : Int32)) hx hb dX6_breed_79 (by decide) ?_
          refine lv_iadd hx hb dX6_breed_80 ?_
          obtain ⟨v10, ev10, hF⟩ := cp_bind hF
          refine cp_iald hx hb hK hP ev10 dX6_breed_81 ?_
          refine lv_bipush (v := (40 : Int32)) hx hb dX6_breed_82 (by decide) ?_
          refine lv_icmp_lt (tgt := 98) hx hb dX6_breed_84 (by decide) (fun hc11 => ?_) (fun hc11 => ?_)
          · rw [if_pos hc11] at hF
            exact cp_vret hx hb hr hlocks hF hP hS dX6_breed_98
          · rw [if_neg hc11] at hF
            refine lv_iload_n hx hb dX6_breed_87 rfl (lv_at hl 4 rfl) ?_
            refine lv_if_lt (tgt := 98) hx hb dX6_breed_88 (by decide) (fun hc12 => ?_) (fun hc12 => ?_)
            · rw [if_pos hc12] at hF
              exact cp_vret hx hb hr hlocks hF hP hS dX6_breed_98
            · rw [if_neg hc12] at hF
              refine lv_iload hx hb dX6_breed_91 (lv_at hl 0 rfl) ?_
              refine lv_bipush (v := (16 : Int32)) hx hb dX6_breed_93 (by decide) ?_
              refine lv_icmp_ne (tgt := 99) hx hb dX6_breed_95 (by decide) (fun hc13 => ?_) (fun hc13 => ?_)
              · rw [if_neg hc13] at hF
                refine lv_aload_n hx hb dX6_breed_99 rfl (lv_at hl 1 rfl) ?_
                refine lv_iload_n hx hb dX6_breed_100 rfl (lv_at hl 2 rfl) ?_
                refine lv_bipush (v := (10 : Int32)) hx hb dX6_breed_101 (by decide) ?_
                obtain ⟨f14, ef14, hF⟩ := cp_bind hF
                obtain ⟨D15, eD15, hF⟩ := cp_bind hF
                refine cp_call (st1 := []) (va_runV (As := [.int i1, .int (10 : Int32)]) (rest := []) ⟨hx, hb, hml, hown, htT⟩ (ct_X6_pay l G L hJ q a0 i1 (10 : Int32) y9.2 D15 eD15) ⟨callB_of 2 htT gdX6_pay rfl rfl rfl (htT _ tw_8) (htT _ tw_446) hdX6_pay ⟨Nat.le_of_ble_eq_true rfl, Nat.le_of_ble_eq_true rfl⟩, (htT _ tw_447), (htT _ tw_581)⟩ ⟨cp_blind, cp_recv hK hP rfl ef14, cp_pre hP hK hN hZ hS⟩ rfl rfl hl.1 rfl (lv_room (Nat.le_of_ble_eq_true rfl)) dX6_breed_103 ⟨Nat.zero_le _, Nat.zero_le _⟩) hS (fun H locs hP hS => ?_)
                refine lv_aload_n hx hb dX6_breed_106 rfl (lv_at hl 1 rfl) ?_
                refine lv_iload_n hx hb dX6_breed_107 rfl (lv_at hl 3 rfl) ?_
                refine lv_bipush (v := (10 : Int32)) hx hb dX6_breed_108 (by decide) ?_
                obtain ⟨f16, ef16, hF⟩ := cp_bind hF
                obtain ⟨D17, eD17, hF⟩ := cp_bind hF
                refine cp_call (st1 := []) (va_runV (As := [.int i2, .int (10 : Int32)]) (rest := []) ⟨hx, hb, hml, hown, htT⟩ (ct_X6_pay l G L hJ q a0 i2 (10 : Int32) D15 D17 eD17) ⟨callB_of 2 htT gdX6_pay rfl rfl rfl (htT _ tw_8) (htT _ tw_446) hdX6_pay ⟨Nat.le_of_ble_eq_true rfl, Nat.le_of_ble_eq_true rfl⟩, (htT _ tw_447), (htT _ tw_581)⟩ ⟨cp_blind, cp_recv hK hP rfl ef16, cp_pre hP hK hN hZ hS⟩ rfl rfl hl.1 rfl (lv_room (Nat.le_of_ble_eq_true rfl)) dX6_breed_110 ⟨Nat.zero_le _, Nat.zero_le _⟩) hS (fun H locs hP hS => ?_)
                refine lv_aload_n hx hb dX6_breed_113 rfl (lv_at hl 1 rfl) ?_
                obtain ⟨r18, er18, hF⟩ := cp_bind hF
                refine cp_getR (T := TX6) (N := 6) (ci := 6) (j := 3) hx hb htT hinX6 hown hK hP rfl (by decide) rfl (htT _ tw_378) er18 dX6_breed_114 ?_
                refine lv_iload_n hx hb dX6_breed_117 rfl (lv_at hl 2 rfl) ?_
                obtain ⟨y19, ey19, hF⟩ := cp_bind hF
                refine cp_call (st1 := [.int y19.1, .ref (L.2.1 r18)]) (va_runS (As := [.int i1]) (rest := [.ref (L.2.1 r18)]) ⟨hx, hb, hml, hown, htT⟩ (ct_X6_at l G L hJ q i1 D17 y19 ey19) ⟨callB_of 1 htT gdX6_at rfl rfl rfl (htT _ tw_8) (htT _ tw_417) hdX6_at ⟨Nat.le_of_ble_eq_true rfl, Nat.le_of_ble_eq_true rfl⟩, (htT _ tw_418)⟩ ⟨cp_blind, cp_pre hP hK hN hZ hS⟩ rfl rfl hl.1 rfl (lv_room (Nat.le_of_ble_eq_true rfl)) dX6_breed_118 ⟨Nat.zero_le _, Nat.zero_le _⟩) hS (fun H locs hP hS => ?_)
                refine lv_iconst (v := (2 : Int32)) hx hb dX6_breed_121 (by decide) ?_
                refine lv_iadd hx hb dX6_breed_122 ?_
                obtain ⟨v20, ev20, hF⟩ := cp_bind hF
                refine cp_iald hx hb hK hP ev20 dX6_breed_123 ?_
                refine lv_iconst (v := (2 : Int32)) hx hb dX6_breed_124 (by decide) ?_
                refine lv_idiv hx hb dX6_breed_125 (by decide) ?_
                refine lv_istore (lv' := [(5, .int (v20 / (2 : Int32))), (4, .int y3.1), (0, .ref (L.2.1 a0)), (1, .int i1), (2, .int i2), (3, .int i3)]) hx hb dX6_breed_126 hl (by decide) rfl (fun ls hl => ?_)
                refine lv_aload_n hx hb dX6_breed_128 rfl (lv_at hl 2 rfl) ?_
                obtain ⟨r21, er21, hF⟩ := cp_bind hF
                refine cp_getR (T := TX6) (N := 6) (ci := 6) (j := 3) hx hb htT hinX6 hown hK hP rfl (by decide) rfl (htT _ tw_378) er21 dX6_breed_129 ?_
                refine lv_iload_n hx hb dX6_breed_132 rfl (lv_at hl 4 rfl) ?_
                obtain ⟨y22, ey22, hF⟩ := cp_bind hF
                refine cp_call (st1 := [.int y22.1, .ref (L.2.1 r21)]) (va_runS (As := [.int i2]) (rest := [.ref (L.2.1 r21)]) ⟨hx, hb, hml, hown, htT⟩ (ct_X6_at l G L hJ q i2 y19.2 y22 ey22) ⟨callB_of 1 htT gdX6_at rfl rfl rfl (htT _ tw_8) (htT _ tw_417) hdX6_at ⟨Nat.le_of_ble_eq_true rfl, Nat.le_of_ble_eq_true rfl⟩, (htT _ tw_418)⟩ ⟨cp_blind, cp_pre hP hK hN hZ hS⟩ rfl rfl hl.1 rfl (lv_room (Nat.le_of_ble_eq_true rfl)) dX6_breed_133 ⟨Nat.zero_le _, Nat.zero_le _⟩) hS (fun H locs hP hS => ?_)
                refine lv_iconst (v := (2 : Int32)) hx hb dX6_breed_136 (by decide) ?_
                refine lv_iadd hx hb dX6_breed_137 ?_
                obtain ⟨v23, ev23, hF⟩ := cp_bind hF
                refine cp_iald hx hb hK hP ev23 dX6_breed_138 ?_
                refine lv_iconst (v := (2 : Int32)) hx hb dX6_breed_139 (by decide) ?_
                refine lv_idiv hx hb dX6_breed_140 (by decide) ?_
                refine lv_istore (lv' := [(6, .int (v23 / (2 : Int32))), (5, .int (v20 / (2 : Int32))), (4, .int y3.1), (0, .ref (L.2.1 a0)), (1, .int i1), (2, .int i2), (3, .int i3)]) hx hb dX6_breed_141 hl (by decide) rfl (fun ls hl => ?_)
                refine lv_aload_n hx hb dX6_breed_143 rfl (lv_at hl 3 rfl) ?_
                obtain ⟨r24, er24, hF⟩ := cp_bind hF
                refine cp_getR (T := TX6) (N := 6) (ci := 6) (j := 3) hx hb htT hinX6 hown hK hP rfl (by decide) rfl (htT _ tw_378) er24 dX6_breed_144 ?_
                refine lv_iload_n hx hb dX6_breed_147 rfl (lv_at hl 4 rfl) ?_
                obtain ⟨y25, ey25, hF⟩ := cp_bind hF
                refine cp_call (st1 := [.int y25.1, .ref (L.2.1 r24)]) (va_runS (As := [.int i1]) (rest := [.ref (L.2.1 r24)]) ⟨hx, hb, hml, hown, htT⟩ (ct_X6_at l G L hJ q i1 y22.2 y25 ey25) ⟨callB_of 1 htT gdX6_at rfl rfl rfl (htT _ tw_8) (htT _ tw_417) hdX6_at ⟨Nat.le_of_ble_eq_true rfl, Nat.le_of_ble_eq_true rfl⟩, (htT _ tw_418)⟩ ⟨cp_blind, cp_pre hP hK hN hZ hS⟩ rfl rfl hl.1 rfl (lv_room (Nat.le_of_ble_eq_true rfl)) dX6_breed_148 ⟨Nat.zero_le _, Nat.zero_le _⟩) hS (fun H locs hP hS => ?_)
                refine lv_iconst (v := (2 : Int32)) hx hb dX6_breed_151 (by decide) ?_
                refine lv_iadd hx hb dX6_breed_152 ?_
                refine lv_dup2_11 hx hb dX6_breed_153 rfl rfl ?_
                obtain ⟨v26, ev26, hF⟩ := cp_bind hF
                refine cp_iald hx hb hK hP ev26 dX6_breed_154 ?_
                refine lv_iload hx hb dX6_breed_155 (lv_at hl 1 rfl) ?_
                refine lv_isub hx hb dX6_breed_157 ?_
                obtain ⟨D27, eD27, hF⟩ := cp_bind hF
                refine cp_iast hx hb hK hJ hP hS eD27 dX6_breed_158 (fun H locs hP hS => ?_)
                refine lv_aload_n hx hb dX6_breed_159 rfl (lv_at hl 3 rfl) ?_
                obtain ⟨r28, er28, hF⟩ := cp_bind hF
                refine cp_getR (T := TX6) (N := 6) (ci := 6) (j := 3) hx hb htT hinX6 hown hK hP rfl (by decide) rfl (htT _ tw_378) er28 dX6_breed_160 ?_
                refine lv_iload_n hx hb dX6_breed_163 rfl (lv_at hl 5 rfl) ?_
                obtain ⟨y29, ey29, hF⟩ := cp_bind hF
                refine cp_call (st1 := [.int y29.1, .ref (L.2.1 r28)]) (va_runS (As := [.int i2]) (rest := [.ref (L.2.1 r28)]) ⟨hx, hb, hml, hown, htT⟩ (ct_X6_at l G L hJ q i2 D27 y29 ey29) ⟨callB_of 1 htT gdX6_at rfl rfl rfl (htT _ tw_8) (htT _ tw_417) hdX6_at ⟨Nat.le_of_ble_eq_true rfl, Nat.le_of_ble_eq_true rfl⟩, (htT _ tw_418)⟩ ⟨cp_blind, cp_pre hP hK hN hZ hS⟩ rfl rfl hl.1 rfl (lv_room (Nat.le_of_ble_eq_true rfl)) dX6_breed_164 ⟨Nat.zero_le _, Nat.zero_le _⟩) hS (fun H locs hP hS => ?_)
                refine lv_iconst (v := (2 : Int32)) hx hb dX6_breed_167 (by decide) ?_
                refine lv_iadd hx hb dX6_breed_168 ?_
                refine lv_dup2_11 hx hb dX6_breed_169 rfl rfl ?_
                obtain ⟨v30, ev30, hF⟩ := cp_bind hF
                refine cp_iald hx hb hK hP ev30 dX6_breed_170 ?_
                refine lv_iload hx hb dX6_breed_171 (lv_at hl 0 rfl) ?_
                refine lv_isub hx hb dX6_breed_173 ?_
                obtain ⟨D31, eD31, hF⟩ := cp_bind hF
                refine cp_iast hx hb hK hJ hP hS eD31 dX6_breed_174 (fun H locs hP hS => ?_)
                refine lv_aload_n hx hb dX6_breed_175 rfl (lv_at hl 3 rfl) ?_
                refine lv_iload hx hb dX6_breed_176 (lv_at hl 2 rfl) ?_
                refine lv_iload_n hx hb dX6_breed_178 rfl (lv_at hl 6 rfl) ?_
                refine lv_aload_n hx hb dX6_breed_179 rfl (lv_at hl 3 rfl) ?_
                obtain ⟨r32, er32, hF⟩ := cp_bind hF
                refine cp_getR (T := TX6) (N := 6) (ci := 6) (j := 3) hx hb htT hinX6 hown hK hP rfl (by decide) rfl (htT _ tw_378) er32 dX6_breed_180 ?_
                refine lv_iload_n hx hb dX6_breed_183 rfl (lv_at hl 4 rfl) ?_
                obtain ⟨y33, ey33, hF⟩ := cp_bind hF
                refine cp_call (st1 := [.int y33.1, .ref (L.2.1 r32), .int i3, .int y3.1, .ref (L.2.1 a0)]) (va_runS (As := [.int i1]) (rest := [.ref (L.2.1 r32), .int i3, .int y3.1, .ref (L.2.1 a0)]) ⟨hx, hb, hml, hown, htT⟩ (ct_X6_at l G L hJ q i1 D31 y33 ey33) ⟨callB_of 1 htT gdX6_at rfl rfl rfl (htT _ tw_8) (htT _ tw_417) hdX6_at ⟨Nat.le_of_ble_eq_true rfl, Nat.le_of_ble_eq_true rfl⟩, (htT _ tw_418)⟩ ⟨cp_blind, cp_pre hP hK hN hZ hS⟩ rfl rfl hl.1 rfl (lv_room (Nat.le_of_ble_eq_true rfl)) dX6_breed_184 ⟨Nat.zero_le _, Nat.zero_le _⟩) hS (fun H locs hP hS => ?_)
                refine lv_iconst (v := (1 : Int32)) hx hb dX6_breed_187 (by decide) ?_
                refine lv_iadd hx hb dX6_breed_188 ?_
                obtain ⟨v34, ev34, hF⟩ := cp_bind hF
                refine cp_iald hx hb hK hP ev34 dX6_breed_189 ?_
                refine lv_iload hx hb dX6_breed_190 (lv_at hl 1 rfl) ?_
                refine lv_iload hx hb dX6_breed_192 (lv_at hl 0 rfl) ?_
                refine lv_iadd hx hb dX6_breed_194 ?_
                obtain ⟨f35, ef35, hF⟩ := cp_bind hF
                obtain ⟨D36, eD36, hF⟩ := cp_bind hF
                refine cp_call (st1 := []) (va_runV (As := [.int y3.1, .int i3, .int v34, .int ((v20 / (2 : Int32)) + (v23 / (2 : Int32)))]) (rest := []) ⟨hx, hb, hml, hown, htT⟩ (ct_X6_make l G L hJ q a0 y3.1 i3 v34 ((v20 / (2 : Int32)) + (v23 / (2 : Int32))) y33.2 D36 eD36) ⟨callB_of 4 htT gdX6_make rfl rfl rfl (htT _ tw_8) (htT _ tw_426) hdX6_make ⟨Nat.le_of_ble_eq_true rfl, Nat.le_of_ble_eq_true rfl⟩, (htT _ tw_427), (htT _ tw_577)⟩ ⟨cp_blind, cp_recv hK hP rfl ef35, cp_pre hP hK hN hZ hS⟩ rfl rfl hl.1 rfl (lv_room (Nat.le_of_ble_eq_true rfl)) dX6_breed_195 ⟨Nat.zero_le _, Nat.zero_le _⟩) hS (fun H locs hP hS => ?_)
                refine lv_aload_n hx hb dX6_breed_198 rfl (lv_at hl 3 rfl) ?_
                obtain ⟨r37, er37, hF⟩ := cp_bind hF
                refine cp_getR (T := TX6) (N := 6) (ci := 6) (j := 3) hx hb htT hinX6 hown hK hP rfl (by decide) rfl (htT _ tw_378) er37 dX6_breed_199 ?_
                refine lv_iload hx hb dX6_breed_202 (lv_at hl 2 rfl) ?_
                obtain ⟨y38, ey38, hF⟩ := cp_bind hF
                refine cp_call (st1 := [.int y38.1, .ref (L.2.1 r37)]) (va_runS (As := [.int y3.1]) (rest := [.ref (L.2.1 r37)]) ⟨hx, hb, hml, hown, htT⟩ (ct_X6_at l G L hJ q y3.1 D36 y38 ey38) ⟨callB_of 1 htT gdX6_at rfl rfl rfl (htT _ tw_8) (htT _ tw_417) hdX6_at ⟨Nat.le_of_ble_eq_true rfl, Nat.le_of_ble_eq_true rfl⟩, (htT _ tw_418)⟩ ⟨cp_blind, cp_pre hP hK hN hZ hS⟩ rfl rfl hl.1 rfl (lv_room (Nat.le_of_ble_eq_true rfl)) dX6_breed_204 ⟨Nat.zero_le _, Nat.zero_le _⟩) hS (fun H locs hP hS => ?_)
                refine lv_bipush (v := (6 : Int32)) hx hb dX6_breed_207 (by decide) ?_
                refine lv_iadd hx hb dX6_breed_209 ?_
                refine lv_iload_n hx hb dX6_breed_210 rfl (lv_at hl 4 rfl) ?_
                obtain ⟨D39, eD39, hF⟩ := cp_bind hF
                refine cp_iast hx hb hK hJ hP hS eD39 dX6_breed_211 (fun H locs hP hS => ?_)
                refine lv_aload_n hx hb dX6_breed_212 rfl (lv_at hl 3 rfl) ?_
                obtain ⟨r40, er40, hF⟩ := cp_bind hF
                refine cp_getR (T := TX6) (N := 6) (ci := 6) (j := 3) hx hb htT hinX6 hown hK hP rfl (by decide) rfl (htT _ tw_378) er40 dX6_breed_213 ?_
                refine lv_iload hx hb dX6_breed_216 (lv_at hl 2 rfl) ?_
                obtain ⟨y41, ey41, hF⟩ := cp_bind hF
                refine cp_call (st1 := [.int y41.1, .ref (L.2.1 r40)]) (va_runS (As := [.int y3.1]) (rest := [.ref (L.2.1 r40)]) ⟨hx, hb, hml, hown, htT⟩ (ct_X6_at l G L hJ q y3.1 D39 y41 ey41) ⟨callB_of 1 htT gdX6_at rfl rfl rfl (htT _ tw_8) (htT _ tw_417) hdX6_at ⟨Nat.le_of_ble_eq_true rfl, Nat.le_of_ble_eq_true rfl⟩, (htT _ tw_418)⟩ ⟨cp_blind, cp_pre hP hK hN hZ hS⟩ rfl rfl hl.1 rfl (lv_room (Nat.le_of_ble_eq_true rfl)) dX6_breed_218 ⟨Nat.zero_le _, Nat.zero_le _⟩) hS (fun H locs hP hS => ?_)
                refine lv_bipush (v := (7 : Int32)) hx hb dX6_breed_221 (by decide) ?_
                refine lv_iadd hx hb dX6_breed_223 ?_
                refine lv_iload_n hx hb dX6_breed_224 rfl (lv_at hl 5 rfl) ?_
                obtain ⟨D42, eD42, hF⟩ := cp_bind hF
                refine cp_iast hx hb hK hJ hP hS eD42 dX6_breed_225 (fun H locs hP hS => ?_)
                refine lv_aload_n hx hb dX6_breed_226 rfl (lv_at hl 3 rfl) ?_
                obtain ⟨r43, er43, hF⟩ := cp_bind hF
                refine cp_getR (T := TX6) (N := 6) (ci := 6) (j := 3) hx hb htT hinX6 hown hK hP rfl (by decide) rfl (htT _ tw_378) er43 dX6_breed_227 ?_
                refine lv_iload hx hb dX6_breed_230 (lv_at hl 2 rfl) ?_
                obtain ⟨y44, ey44, hF⟩ := cp_bind hF
                refine cp_call (st1 := [.int y44.1, .ref (L.2.1 r43)]) (va_runS (As := [.int y3.1]) (rest := [.ref (L.2.1 r43)]) ⟨hx, hb, hml, hown, htT⟩ (ct_X6_at l G L hJ q y3.1 D42 y44 ey44) ⟨callB_of 1 htT gdX6_at rfl rfl rfl (htT _ tw_8) (htT _ tw_417) hdX6_at ⟨Nat.le_of_ble_eq_true rfl, Nat.le_of_ble_eq_true rfl⟩, (htT _ tw_418)⟩ ⟨cp_blind, cp_pre hP hK hN hZ hS⟩ rfl rfl hl.1 rfl (lv_room (Nat.le_of_ble_eq_true rfl)) dX6_breed_232 ⟨Nat.zero_le _, Nat.zero_le _⟩) hS (fun H locs hP hS => ?_)
                refine lv_bipush (v := (8 : Int32)) hx hb dX6_breed_235 (by decide) ?_
                refine lv_iadd hx hb dX6_breed_237 ?_
                refine lv_iconst (v := (1 : Int32)) hx hb dX6_breed_238 (by decide) ?_
                refine lv_aload_n hx hb dX6_breed_239 rfl (lv_at hl 3 rfl) ?_
                obtain ⟨r45, er45, hF⟩ := cp_bind hF
                refine cp_getR (T := TX6) (N := 6) (ci := 6) (j := 3) hx hb htT hinX6 hown hK hP rfl (by decide) rfl (htT _ tw_378) er45 dX6_breed_240 ?_
                refine lv_iload_n hx hb dX6_breed_243 rfl (lv_at hl 4 rfl) ?_
                obtain ⟨y46, ey46, hF⟩ := cp_bind hF
                refine cp_call (st1 := [.int y46.1, .ref (L.2.1 r45), .int (1 : Int32), .int (y44.1 + (8 : Int32)), .ref (L.2.1 r43)]) (va_runS (As := [.int i1]) (rest := [.ref (L.2.1 r45), .int (1 : Int32), .int (y44.1 + (8 : Int32)), .ref (L.2.1 r43)]) ⟨hx, hb, hml, hown, htT⟩ (ct_X6_at l G L hJ q i1 y44.2 y46 ey46) ⟨callB_of 1 htT gdX6_at rfl rfl rfl (htT _ tw_8) (htT _ tw_417) hdX6_at ⟨Nat.le_of_ble_eq_true rfl, Nat.le_of_ble_eq_true rfl⟩, (htT _ tw_418)⟩ ⟨cp_blind, cp_pre hP hK hN hZ hS⟩ rfl rfl hl.1 rfl (lv_room (Nat.le_of_ble_eq_true rfl)) dX6_breed_244 ⟨Nat.zero_le _, Nat.zero_le _⟩) hS (fun H locs hP hS => ?_)
                refine lv_bipush (v := (8 : Int32)) hx hb dX6_breed_247 (by decide) ?_
                refine lv_iadd hx hb dX6_breed_249 ?_
                obtain ⟨v47, ev47, hF⟩ := cp_bind hF
                refine cp_iald hx hb hK hP ev47 dX6_breed_250 ?_
                refine lv_ineg hx hb dX6_breed_251 ?_
                refine lv_aload_n hx hb dX6_breed_252 rfl (lv_at hl 3 rfl) ?_
                obtain ⟨r48, er48, hF⟩ := cp_bind hF
                refine cp_getR (T := TX6) (N := 6) (ci := 6) (j := 3) hx hb htT hinX6 hown hK hP rfl (by decide) rfl (htT _ tw_378) er48 dX6_breed_253 ?_
                refine lv_iload_n hx hb dX6_breed_256 rfl (lv_at hl 5 rfl) ?_
                obtain ⟨y49, ey49, hF⟩ := cp_bind hF
                refine cp_call (st1 := [.int y49.1, .ref (L.2.1 r48), .int (-v47), .int (1 : Int32), .int (y44.1 + (8 : Int32)), .ref (L.2.1 r43)]) (va_runS (As := [.int i2]) (rest := [.ref (L.2.1 r48), .int (-v47), .int (1 : Int32), .int (y44.1 + (8 : Int32)), .ref (L.2.1 r43)]) ⟨hx, hb, hml, hown, htT⟩ (ct_X6_at l G L hJ q i2 y46.2 y49 ey49) ⟨callB_of 1 htT gdX6_at rfl rfl rfl (htT _ tw_8) (htT _ tw_417) hdX6_at ⟨Nat.le_of_ble_eq_true rfl, Nat.le_of_ble_eq_true rfl⟩, (htT _ tw_418)⟩ ⟨cp_blind, cp_pre hP hK hN hZ hS⟩ rfl rfl hl.1 rfl (lv_room (Nat.le_of_ble_eq_true rfl)) dX6_breed_257 ⟨Nat.zero_le _, Nat.zero_le _⟩) hS (fun H locs hP hS => ?_)
                refine lv_bipush (v := (8 : Int32)) hx hb dX6_breed_260 (by decide) ?_
                refine lv_iadd hx hb dX6_breed_262 ?_
                obtain ⟨v50, ev50, hF⟩ := cp_bind hF
                refine cp_iald hx hb hK hP ev50 dX6_breed_263 ?_
                refine lv_ineg hx hb dX6_breed_264 ?_
                obtain ⟨y51, ey51, hF⟩ := cp_bind hF
                refine cp_call (st1 := [.int y51.1, .int (1 : Int32), .int (y44.1 + (8 : Int32)), .ref (L.2.1 r43)]) (va_runS (As := [.int (-v47), .int (-v50)]) (rest := [.int (1 : Int32), .int (y44.1 + (8 : Int32)), .ref (L.2.1 r43)]) ⟨hx, hb, hml, hown, htT⟩ (ct_X6_least l G L hJ q (-v47) (-v50) y49.2 y51 ey51) ⟨callB_of 2 htT gdX6_least rfl rfl rfl (htT _ tw_8) (htT _ tw_449) hdX6_least ⟨Nat.le_of_ble_eq_true rfl, Nat.le_of_ble_eq_true rfl⟩, (htT _ tw_450)⟩ ⟨cp_blind, cp_pre hP hK hN hZ hS⟩ rfl rfl hl.1 rfl (lv_room (Nat.le_of_ble_eq_true rfl)) dX6_breed_265 ⟨Nat.zero_le _, Nat.zero_le _⟩) hS (fun H locs hP hS => ?_)
                refine lv_isub hx hb dX6_breed_268 ?_
                obtain ⟨D52, eD52, hF⟩ := cp_bind hF
                refine cp_iast hx hb hK hJ hP hS eD52 dX6_breed_269 (fun H locs hP hS => ?_)
                refine lv_aload_n hx hb dX6_breed_270 rfl (lv_at hl 3 rfl) ?_
                refine lv_iload hx hb dX6_breed_271 (lv_at hl 2 rfl) ?_
                refine lv_iload_n hx hb dX6_breed_273 rfl (lv_at hl 4 rfl) ?_
                refine lv_iload_n hx hb dX6_breed_274 rfl (lv_at hl 5 rfl) ?_
                obtain ⟨f53, ef53, hF⟩ := cp_bind hF
                obtain ⟨D54, eD54, hF⟩ := cp_bind hF
                refine cp_call (st1 := []) (va_runV (As := [.int y3.1, .int i1, .int i2]) (rest := []) ⟨hx, hb, hml, hown, htT⟩ (ct_X6_inherit l G L hJ q a0 y3.1 i1 i2 D52 D54 eD54) ⟨callB_of 3 htT gdX6_inherit rfl rfl rfl (htT _ tw_8) (htT _ tw_482) hdX6_inherit ⟨Nat.le_of_ble_eq_true rfl, Nat.le_of_ble_eq_true rfl⟩, (htT _ tw_483), (htT _ tw_591)⟩ ⟨cp_blind, cp_recv hK hP rfl ef53, cp_pre hP hK hN hZ hS⟩ rfl rfl hl.1 rfl (lv_room (Nat.le_of_ble_eq_true rfl)) dX6_breed_275 ⟨Nat.zero_le _, Nat.zero_le _⟩) hS (fun H locs hP hS => ?_)
                refine lv_aload_n hx hb dX6_breed_278 rfl (lv_at hl 3 rfl) ?_
                obtain ⟨r55, er55, hF⟩ := cp_bind hF
                refine cp_getR (T := TX6) (N := 6) (ci := 6) (j := 3) hx hb htT hinX6 hown hK hP rfl (by decide) rfl (htT _ tw_378) er55 dX6_breed_279 ?_
                refine lv_sipush (v := (1228 : Int32)) hx hb dX6_breed_282 (by decide) ?_
                refine lv_dup2_11 hx hb dX6_breed_285 rfl rfl ?_
                obtain ⟨v56, ev56, hF⟩ := cp_bind hF
                refine cp_iald hx hb hK hP ev56 dX6_breed_286 ?_
                refine lv_iconst (v := (1 : Int32)) hx hb dX6_breed_287 (by decide) ?_
                refine lv_iadd hx hb dX6_breed_288 ?_
                obtain ⟨D57, eD57, hF⟩ := cp_bind hF
                refine cp_iast hx hb hK hJ hP hS eD57 dX6_breed_289 (fun H locs hP hS => ?_)
                exact cp_vret hx hb hr hlocks hF hP hS dX6_breed_290
              · rw [if_pos hc13] at hF
                exact cp_vret hx hb hr hlocks hF hP hS dX6_breed_98
      · rw [if_neg hc1] at hF
        refine lv_aload_n hx hb dX6_breed_10 rfl (lv_at hl 0 rfl) ?_
        refine lv_aload_n hx hb dX6_breed_11 rfl (lv_at hl 0 rfl) ?_
        obtain ⟨r58, er58, hF⟩ := cp_bind hF
        refine cp_getR (T := TX6) (N := 6) (ci := 6) (j := 3) hx hb htT hinX6 hown hK hP rfl (by decide) rfl (htT _ tw_378) er58 dX6_breed_12 ?_
        refine lv_iload_n hx hb dX6_breed_15 rfl (lv_at hl 1 rfl) ?_
        obtain ⟨y59, ey59, hF⟩ := cp_bind hF
        refine cp_call (st1 := [.int y59.1, .ref (L.2.1 r58), .ref (L.2.1 a0)]) (va_runS (As := [.int i1]) (rest := [.ref (L.2.1 r58), .ref (L.2.1 a0)]) ⟨hx, hb, hml, hown, htT⟩ (ct_X6_at l G L hJ q i1 D y59 ey59) ⟨callB_of 1 htT gdX6_at rfl rfl rfl (htT _ tw_8) (htT _ tw_417) hdX6_at ⟨Nat.le_of_ble_eq_true rfl, Nat.le_of_ble_eq_true rfl⟩, (htT _ tw_418)⟩ ⟨cp_blind, cp_pre hP hK hN hZ hS⟩ rfl rfl hl.1 rfl (lv_room (Nat.le_of_ble_eq_true rfl)) dX6_breed_16 ⟨Nat.zero_le _, Nat.zero_le _⟩) hS (fun H locs hP hS => ?_)
        obtain ⟨v60, ev60, hF⟩ := cp_bind hF
        refine cp_iald hx hb hK hP ev60 dX6_breed_19 ?_
        refine lv_iload hx hb dX6_breed_20 (lv_at hl 4 rfl) ?_
        obtain ⟨f61, ef61, hF⟩ := cp_bind hF
        obtain ⟨y62, ey62, hF⟩ := cp_bind hF
        refine cp_call (st1 := [.int y62.1]) (va_runV (As := [.int v60, .int i4]) (rest := []) ⟨hx, hb, hml, hown, htT⟩ (ct_X6_beside l G L hJ q a0 v60 i4 y59.2 y62 ey62) ⟨callB_of 2 htT gdX6_beside rfl rfl rfl (htT _ tw_8) (htT _ tw_467) hdX6_beside ⟨Nat.le_of_ble_eq_true rfl, Nat.le_of_ble_eq_true rfl⟩, (htT _ tw_468), (htT _ tw_586)⟩ ⟨cp_blind, cp_recv hK hP rfl ef61, cp_pre hP hK hN hZ hS⟩ rfl rfl hl.1 rfl (lv_room (Nat.le_of_ble_eq_true rfl)) dX6_breed_22 ⟨Nat.zero_le _, Nat.zero_le _⟩) hS (fun H locs hP hS => ?_)
        refine lv_istore (lv' := [(5, .int y62.1), (0, .ref (L.2.1 a0)), (1, .int i1), (2, .int i2), (3, .int i3), (4, .int i4)]) hx hb dX6_breed_25 hl (by decide) rfl (fun ls hl => ?_)
        refine lv_aload_n hx hb dX6_breed_27 rfl (lv_at hl 1 rfl) ?_
        refine lv_iload hx hb dX6_breed_28 (lv_at hl 0 rfl) ?_
        obtain ⟨f63, ef63, hF⟩ := cp_bind hF
        obtain ⟨y64, ey64, hF⟩ := cp_bind hF
        refine cp_call (st1 := [.int y64.1]) (va_runV (As := [.int y62.1]) (rest := []) ⟨hx, hb, hml, hown, htT⟩ (ct_X6_inCell l G L hJ q a0 y62.1 y62.2 y64 ey64) ⟨callB_of 1 htT gdX6_inCell rfl rfl rfl (htT _ tw_8) (htT _ tw_414) hdX6_inCell ⟨Nat.le_of_ble_eq_true rfl, Nat.le_of_ble_eq_true rfl⟩, (htT _ tw_415), (htT _ tw_574)⟩ ⟨cp_blind, cp_recv hK hP rfl ef63, cp_pre hP hK hN hZ hS⟩ rfl rfl hl.1 rfl (lv_room (Nat.le_of_ble_eq_true rfl)) dX6_breed_30 ⟨Nat.zero_le _, Nat.zero_le _⟩) hS (fun H locs hP hS => ?_)
        refine lv_if_ge (tgt := 41) hx hb dX6_breed_33 (by decide) (fun hc65 => ?_) (fun hc65 => ?_)
        · rw [if_pos hc65] at hF
          refine lv_iload_n hx hb dX6_breed_41 rfl (lv_at hl 4 rfl) ?_
          refine lv_istore_n (lv' := [(3, .int i3), (5, .int y62.1), (0, .ref (L.2.1 a0)), (1, .int i1), (2, .int i2), (4, .int i4)]) hx hb dX6_breed_42 rfl hl (by decide) rfl (fun ls hl => ?_)
          refine lv_iinc (k := 5) (v := (i4 + (-1))) (lv' := [(4, .int (i4 + (-1))), (3, .int i3), (5, .int y62.1), (0, .ref (L.2.1 a0)), (1, .int i1), (2, .int i2)]) hx hb dX6_breed_43 hl rfl (congrArg (fun z => i4 + z) (by decide)) (by decide) rfl (fun ls hl => ?_)
          refine lv_goto (tgt := 5) hx hb dX6_breed_46 (by decide) ?_
          exact ih a0 i1 i2 i3 (i4 + (-1)) y64.2 _ _ _ hF hP hS (lv_sub hl [3, 4, 5, 1, 0] rfl)
        · rw [if_neg hc65] at hF
          refine lv_iload hx hb dX6_breed_36 (lv_at hl 0 rfl) ?_
          refine lv_goto (tgt := 42) hx hb dX6_breed_38 (by decide) ?_
          refine lv_istore_n (lv' := [(3, .int y62.1), (5, .int y62.1), (0, .ref (L.2.1 a0)), (1, .int i1), (2, .int i2), (4, .int i4)]) hx hb dX6_breed_42 rfl hl (by decide) rfl (fun ls hl => ?_)
          refine lv_iinc (k := 5) (v := (i4 + (-1))) (lv' := [(4, .int (i4 + (-1))), (3, .int y62.1), (5, .int y62.1), (0, .ref (L.2.1 a0)), (1, .int i1), (2, .int i2)]) hx hb dX6_breed_43 hl rfl (congrArg (fun z => i4 + z) (by decide)) (by decide) rfl (fun ls hl => ?_)
          refine lv_goto (tgt := 5) hx hb dX6_breed_46 (by decide) ?_
          exact ih a0 i1 i2 y62.1 (i4 + (-1)) y64.2 _ _ _ hF hP hS (lv_sub hl [3, 4, 5, 1, 0] rfl)
  unfold fn_X6_breed at hF
  refine lv_iconst (v := (-1 : Int32)) hx hb dX6_breed_0 (by decide) ?_
  refine lv_istore_n (lv' := [(3, .int (-1 : Int32)), (0, .ref (L.2.1 k0)), (1, .int x1), (2, .int x2)]) hx hb dX6_breed_1 rfl hl (by decide) rfl (fun ls hl => ?_)
  refine lv_iconst (v := (3 : Int32)) hx hb dX6_breed_2 (by decide) ?_
  refine lv_istore (lv' := [(4, .int (3 : Int32)), (3, .int (-1 : Int32)), (0, .ref (L.2.1 k0)), (1, .int x1), (2, .int x2)]) hx hb dX6_breed_3 hl (by decide) rfl (fun ls hl => ?_)
  exact hL5 q k0 x1 x2 (-1 : Int32) (3 : Int32) D _ _ _ hF hP hS (lv_sub hl [2, 3, 4, 1, 0] rfl)
