theorem dJ_floorMod_0 : decode cJ_floorMod 0 = .ok (.iload_n 0, 1) := by decide +kernel
theorem dJ_floorMod_1 : decode cJ_floorMod 1 = .ok (.iload_n 1, 1) := by decide +kernel
theorem dJ_floorMod_2 : decode cJ_floorMod 2 = .ok (.irem, 1) := by decide +kernel
theorem dJ_floorMod_3 : decode cJ_floorMod 3 = .ok (.istore_n 2, 1) := by decide +kernel
theorem dJ_floorMod_4 : decode cJ_floorMod 4 = .ok (.iload_n 0, 1) := by decide +kernel
theorem dJ_floorMod_5 : decode cJ_floorMod 5 = .ok (.iload_n 1, 1) := by decide +kernel
theorem dJ_floorMod_6 : decode cJ_floorMod 6 = .ok (.ixor, 1) := by decide +kernel
theorem dJ_floorMod_7 : decode cJ_floorMod 7 = .ok (.ifCond .ge 11, 3) := by decide +kernel
theorem dJ_floorMod_10 : decode cJ_floorMod 10 = .ok (.iload_n 2, 1) := by decide +kernel
theorem dJ_floorMod_11 : decode cJ_floorMod 11 = .ok (.ifCond .eq 7, 3) := by decide +kernel
theorem dJ_floorMod_14 : decode cJ_floorMod 14 = .ok (.iload_n 2, 1) := by decide +kernel
theorem dJ_floorMod_15 : decode cJ_floorMod 15 = .ok (.iload_n 1, 1) := by decide +kernel
theorem dJ_floorMod_16 : decode cJ_floorMod 16 = .ok (.iadd, 1) := by decide +kernel
theorem dJ_floorMod_17 : decode cJ_floorMod 17 = .ok (.ireturn, 1) := by decide +kernel
theorem dJ_floorMod_18 : decode cJ_floorMod 18 = .ok (.iload_n 2, 1) := by decide +kernel
theorem dJ_floorMod_19 : decode cJ_floorMod 19 = .ok (.ireturn, 1) := by decide +kernel
def fn_J_floorMod (L : cp_Lay) (q : Nat) (x1 : Int32) (x2 : Int32) (D : cp_Dt) : Option (Int32 × cp_Dt) :=
  (cp_nz x2).bind fun u1 =>
  if 0 ≤ (x1 ^^^ x2) then (some ((x1 - x1 / x2 * x2), D))
  else (if (x1 - x1 / x2 * x2) = 0 then (some ((x1 - x1 / x2 * x2), D))
  else (some (((x1 - x1 / x2 * x2) + x2), D)))
set_option maxHeartbeats 4000000 in
set_option maxRecDepth 100000 in
theorem ct_J_floorMod (l : Launch) (G : va_G) (L : cp_Lay) (hJ : cp_J L) (q : Nat) (x1 : Int32) (x2 : Int32) (D : cp_Dt) (res : Int32 × cp_Dt) (hF : fn_J_floorMod L q x1 x2 D = some res) : cp_Met l G yJ_floorMod wsJ_floorMod ({ frames := 0, cells := 0, slots := 0, locals := 0 }) L ([.int x1, .int x2] : List Value) D res.2 (some (.int res.1)) := by
  refine va_MetF (cc := cJ_floorMod) (maxL := 3) (ret := (some .int)) (by decide +kernel) rfl ?_
  intro p e s m args below meth c s₁ B hml hv
  obtain ⟨rfl, hP, hK, hN, hZ⟩ := hv
  have hx := B.exec
  have hb := B.bytes
  have hr := B.returns
  have hts := atoms_spec (ws := wsJ_floorMod) B.pre
  have hown : s.vm.findClass "java/lang/Math" = some m.cls := findClass_of_methodNamed B.named
  have hlocks := B.notSynchronized
  have hS : va_S (cp_A L) s.heap s.heap [] := va_S.rf
  have htT : ∀ w ∈ cp_T, w.before ([.int x1, .int x2] : List Value).toArray s = true := fun w h => hts w (List.mem_cons_of_mem _ h)
  have hl := lv_entry (([.int x1, .int x2] : List Value)) (n := 3) (Nat.le_of_ble_eq_true rfl)
  rw [lg_entry_eq]
  generalize (lg_sl (([.int x1, .int x2] : List Value)) ++ List.replicate (3 - (lg_sl (([.int x1, .int x2] : List Value))).length) Slot.unset).toArray = ls at hl ⊢
  have hl : lv_has ls 3 [(0, .int x1), (1, .int x2)] := hl
  unfold fn_J_floorMod at hF
  refine lv_iload_n hx hb dJ_floorMod_0 rfl (lv_at hl 0 rfl) ?_
  refine lv_iload_n hx hb dJ_floorMod_1 rfl (lv_at hl 1 rfl) ?_
  obtain ⟨u1, eu1, hF⟩ := cp_bind hF
  refine lv_irem hx hb dJ_floorMod_2 (cp_nz_ne eu1) ?_
  refine lv_istore_n (lv' := [(2, .int (x1 - x1 / x2 * x2)), (0, .int x1), (1, .int x2)]) hx hb dJ_floorMod_3 rfl hl (by decide) rfl (fun ls hl => ?_)
  refine lv_iload_n hx hb dJ_floorMod_4 rfl (lv_at hl 1 rfl) ?_
  refine lv_iload_n hx hb dJ_floorMod_5 rfl (lv_at hl 2 rfl) ?_
  refine lv_ixor hx hb dJ_floorMod_6 ?_
  refine lv_if_ge (tgt := 18) hx hb dJ_floorMod_7 (by decide) (fun hc2 => ?_) (fun hc2 => ?_)
  · rw [if_pos hc2] at hF
    refine lv_iload_n hx hb dJ_floorMod_18 rfl (lv_at hl 0 rfl) ?_
    exact cp_iret hx hb hr hlocks hF hP hS dJ_floorMod_19
  · rw [if_neg hc2] at hF
    refine lv_iload_n hx hb dJ_floorMod_10 rfl (lv_at hl 0 rfl) ?_
    refine lv_if_eq (tgt := 18) hx hb dJ_floorMod_11 (by decide) (fun hc3 => ?_) (fun hc3 => ?_)
    · rw [if_pos hc3] at hF
      refine lv_iload_n hx hb dJ_floorMod_18 rfl (lv_at hl 0 rfl) ?_
      exact cp_iret hx hb hr hlocks hF hP hS dJ_floorMod_19
    · rw [if_neg hc3] at hF
      refine lv_iload_n hx hb dJ_floorMod_14 rfl (lv_at hl 0 rfl) ?_
      refine lv_iload_n hx hb dJ_floorMod_15 rfl (lv_at hl 2 rfl) ?_
      refine lv_iadd hx hb dJ_floorMod_16 ?_
      exact cp_iret hx hb hr hlocks hF hP hS dJ_floorMod_17
theorem dX5_columnOf_0 : decode cX5_columnOf 0 = .ok (.iload_n 1, 1) := by decide +kernel
theorem dX5_columnOf_1 : decode cX5_columnOf 1 = .ok (.aload_n 0, 1) := by decide +kernel
theorem dX5_columnOf_2 : decode cX5_columnOf 2 = .ok (.getfield 9, 3) := by decide +kernel
theorem dX5_columnOf_5 : decode cX5_columnOf 5 = .ok (.irem, 1) := by decide +kernel
theorem dX5_columnOf_6 : decode cX5_columnOf 6 = .ok (.ireturn, 1) := by decide +kernel
def fn_X5_columnOf (L : cp_Lay) (q : Nat) (k0 : Nat) (x1 : Int32) (D : cp_Dt) : Option (Int32 × cp_Dt) :=
  (cp_gI L D k0 5 0).bind fun v1 =>
  (cp_nz v1).bind fun u2 =>
  some ((x1 - x1 / v1 * v1), D)
set_option maxHeartbeats 4000000 in
set_option maxRecDepth 100000 in
theorem ct_X5_columnOf (l : Launch) (G : va_G) (L : cp_Lay) (hJ : cp_J L) (q : Nat) (k0 : Nat) (x1 : Int32) (D : cp_Dt) (res : Int32 × cp_Dt) (hF : fn_X5_columnOf L q k0 x1 D = some res) : cp_Met l G yX5_columnOf wsX5_columnOf ({ frames := 0, cells := 0, slots := 0, locals := 0 }) L ([.ref (L.2.1 k0), .int x1] : List Value) D res.2 (some (.int res.1)) := by
  refine Met.ofW (cc := cX5_columnOf) (maxL := 2) (ret := (some .int)) (by decide) rfl ?_
  intro p e s m args below meth c s₁ B hml hv
  obtain ⟨rfl, hP, hK, hN, hZ⟩ := hv
  have hx := B.exec
  have hb := B.bytes
  have hr := B.returns
  have hts := atoms_spec (ws := wsX5_columnOf) B.pre
  have hown : s.vm.findClass "CreaturePond$Shape" = some m.cls := findClass_of_methodNamed B.named
  have hlocks := B.notSynchronized
  have hS : va_S (cp_A L) s.heap s.heap [] := va_S.rf
  have htT : ∀ w ∈ cp_T, w.before ([.ref (L.2.1 k0), .int x1] : List Value).toArray s = true := fun w h => hts w (List.mem_cons_of_mem _ h)
  have hl := lv_entry (([.ref (L.2.1 k0), .int x1] : List Value)) (n := 2) (Nat.le_of_ble_eq_true rfl)
  rw [lg_entry_eq]
  generalize (lg_sl (([.ref (L.2.1 k0), .int x1] : List Value)) ++ List.replicate (2 - (lg_sl (([.ref (L.2.1 k0), .int x1] : List Value))).length) Slot.unset).toArray = ls at hl ⊢
  have hl : lv_has ls 2 [(0, .ref (L.2.1 k0)), (1, .int x1)] := hl
  unfold fn_X5_columnOf at hF
  refine lv_iload_n hx hb dX5_columnOf_0 rfl (lv_at hl 1 rfl) ?_
  refine lv_aload_n hx hb dX5_columnOf_1 rfl (lv_at hl 0 rfl) ?_
  obtain ⟨v1, ev1, hF⟩ := cp_bind hF
  refine cp_getI (T := TX5) (N := 4) (ci := 5) (j := 0) hx hb htT hinX5 hown hK hP rfl (by decide) rfl (htT _ tw_49) ev1 dX5_columnOf_2 ?_
  obtain ⟨u2, eu2, hF⟩ := cp_bind hF
  refine lv_irem hx hb dX5_columnOf_5 (cp_nz_ne eu2) ?_
  exact cp_iret hx hb hr hlocks hF hP hS dX5_columnOf_6
theorem dX5_rowOf_0 : decode cX5_rowOf 0 = .ok (.iload_n 1, 1) := by decide +kernel
theorem dX5_rowOf_1 : decode cX5_rowOf 1 = .ok (.aload_n 0, 1) := by decide +kernel
theorem dX5_rowOf_2 : decode cX5_rowOf 2 = .ok (.getfield 9, 3) := by decide +kernel
theorem dX5_rowOf_5 : decode cX5_rowOf 5 = .ok (.idiv, 1) := by decide +kernel
theorem dX5_rowOf_6 : decode cX5_rowOf 6 = .ok (.ireturn, 1) := by decide +kernel
def fn_X5_rowOf (L : cp_Lay) (q : Nat) (k0 : Nat) (x1 : Int32) (D : cp_Dt) : Option (Int32 × cp_Dt) :=
  (cp_gI L D k0 5 0).bind fun v1 =>
  (cp_nz v1).bind fun u2 =>
  some ((x1 / v1), D)
set_option maxHeartbeats 4000000 in
set_option maxRecDepth 100000 in
theorem ct_X5_rowOf (l : Launch) (G : va_G) (L : cp_Lay) (hJ : cp_J L) (q : Nat) (k0 : Nat) (x1 : Int32) (D : cp_Dt) (res : Int32 × cp_Dt) (hF : fn_X5_rowOf L q k0 x1 D = some res) : cp_Met l G yX5_rowOf wsX5_rowOf ({ frames := 0, cells := 0, slots := 0, locals := 0 }) L ([.ref (L.2.1 k0), .int x1] : List Value) D res.2 (some (.int res.1)) := by
  refine Met.ofW (cc := cX5_rowOf) (maxL := 2) (ret := (some .int)) (by decide) rfl ?_
  intro p e s m args below meth c s₁ B hml hv
  obtain ⟨rfl, hP, hK, hN, hZ⟩ := hv
  have hx := B.exec
  have hb := B.bytes
  have hr := B.returns
  have hts := atoms_spec (ws := wsX5_rowOf) B.pre
  have hown : s.vm.findClass "CreaturePond$Shape" = some m.cls := findClass_of_methodNamed B.named
  have hlocks := B.notSynchronized
  have hS : va_S (cp_A L) s.heap s.heap [] := va_S.rf
  have htT : ∀ w ∈ cp_T, w.before ([.ref (L.2.1 k0), .int x1] : List Value).toArray s = true := fun w h => hts w (List.mem_cons_of_mem _ h)
  have hl := lv_entry (([.ref (L.2.1 k0), .int x1] : List Value)) (n := 2) (Nat.le_of_ble_eq_true rfl)
  rw [lg_entry_eq]
  generalize (lg_sl (([.ref (L.2.1 k0), .int x1] : List Value)) ++ List.replicate (2 - (lg_sl (([.ref (L.2.1 k0), .int x1] : List Value))).length) Slot.unset).toArray = ls at hl ⊢
  have hl : lv_has ls 2 [(0, .ref (L.2.1 k0)), (1, .int x1)] := hl
  unfold fn_X5_rowOf at hF
  refine lv_iload_n hx hb dX5_rowOf_0 rfl (lv_at hl 1 rfl) ?_
  refine lv_aload_n hx hb dX5_rowOf_1 rfl (lv_at hl 0 rfl) ?_
  obtain ⟨v1, ev1, hF⟩ := cp_bind hF
  refine cp_getI (T := TX5) (N := 4) (ci := 5) (j := 0) hx hb htT hinX5 hown hK hP rfl (by decide) rfl (htT _ tw_49) ev1 dX5_rowOf_2 ?_
  obtain ⟨u2, eu2, hF⟩ := cp_bind hF
  refine lv_idiv hx hb dX5_rowOf_5 (cp_nz_ne eu2) ?_
  exact cp_iret hx hb hr hlocks hF hP hS dX5_rowOf_6
theorem dX5_cellAt_0 : decode cX5_cellAt 0 = .ok (.iload_n 1, 1) := by decide +kernel
theorem dX5_cellAt_1 : decode cX5_cellAt 1 = .ok (.aload_n 0, 1) := by decide +kernel
theorem dX5_cellAt_2 : decode cX5_cellAt 2 = .ok (.getfield 9, 3) := by decide +kernel
theorem dX5_cellAt_5 : decode cX5_cellAt 5 = .ok (.invokestatic 42, 3) := by decide +kernel
theorem dX5_cellAt_8 : decode cX5_cellAt 8 = .ok (.iload_n 2, 1) := by decide +kernel
theorem dX5_cellAt_9 : decode cX5_cellAt 9 = .ok (.aload_n 0, 1) := by decide +kernel
theorem dX5_cellAt_10 : decode cX5_cellAt 10 = .ok (.getfield 15, 3) := by decide +kernel
theorem dX5_cellAt_13 : decode cX5_cellAt 13 = .ok (.invokestatic 42, 3) := by decide +kernel
theorem dX5_cellAt_16 : decode cX5_cellAt 16 = .ok (.aload_n 0, 1) := by decide +kernel
theorem dX5_cellAt_17 : decode cX5_cellAt 17 = .ok (.getfield 9, 3) := by decide +kernel
theorem dX5_cellAt_20 : decode cX5_cellAt 20 = .ok (.imul, 1) := by decide +kernel
theorem dX5_cellAt_21 : decode cX5_cellAt 21 = .ok (.iadd, 1) := by decide +kernel
theorem dX5_cellAt_22 : decode cX5_cellAt 22 = .ok (.ireturn, 1) := by decide +kernel
def fn_X5_cellAt (L : cp_Lay) (q : Nat) (k0 : Nat) (x1 : Int32) (x2 : Int32) (D : cp_Dt) : Option (Int32 × cp_Dt) :=
  (cp_gI L D k0 5 0).bind fun v1 =>
  (fn_J_floorMod L q x1 v1 D).bind fun y2 =>
  (cp_gI L y2.2 k0 5 1).bind fun v3 =>
  (fn_J_floorMod L q x2 v3 y2.2).bind fun y4 =>
  (cp_gI L y4.2 k0 5 0).bind fun v5 =>
  some ((y2.1 + (y4.1 * v5)), y4.2)
set_option maxHeartbeats 4000000 in
set_option maxRecDepth 100000 in
theorem ct_X5_cellAt (l : Launch) (G : va_G) (L : cp_Lay) (hJ : cp_J L) (q : Nat) (k0 : Nat) (x1 : Int32) (x2 : Int32) (D : cp_Dt) (res : Int32 × cp_Dt) (hF : fn_X5_cellAt L q k0 x1 x2 D = some res) : cp_Met l G yX5_cellAt wsX5_cellAt ({ frames := 1, cells := 0, slots := 0, locals := 22 }) L ([.ref (L.2.1 k0), .int x1, .int x2] : List Value) D res.2 (some (.int res.1)) := by
  refine Met.ofW (cc := cX5_cellAt) (maxL := 3) (ret := (some .int)) (by decide) rfl ?_
  intro p e s m args below meth c s₁ B hml hv
  obtain ⟨rfl, hP, hK, hN, hZ⟩ := hv
  have hx := B.exec
  have hb := B.bytes
  have hr := B.returns
  have hts := atoms_spec (ws := wsX5_cellAt) B.pre
  have hown : s.vm.findClass "CreaturePond$Shape" = some m.cls := findClass_of_methodNamed B.named
  have hlocks := B.notSynchronized
  have hS : va_S (cp_A L) s.heap s.heap [] := va_S.rf
  have htT : ∀ w ∈ cp_T, w.before ([.ref (L.2.1 k0), .int x1, .int x2] : List Value).toArray s = true := fun w h => hts w (List.mem_cons_of_mem _ h)
  have hl := lv_entry (([.ref (L.2.1 k0), .int x1, .int x2] : List Value)) (n := 3) (Nat.le_of_ble_eq_true rfl)
  rw [lg_entry_eq]
  generalize (lg_sl (([.ref (L.2.1 k0), .int x1, .int x2] : List Value)) ++ List.replicate (3 - (lg_sl (([.ref (L.2.1 k0), .int x1, .int x2] : List Value))).length) Slot.unset).toArray = ls at hl ⊢
  have hl : lv_has ls 3 [(0, .ref (L.2.1 k0)), (1, .int x1), (2, .int x2)] := hl
  unfold fn_X5_cellAt at hF
  refine lv_iload_n hx hb dX5_cellAt_0 rfl (lv_at hl 1 rfl) ?_
  refine lv_aload_n hx hb dX5_cellAt_1 rfl (lv_at hl 0 rfl) ?_
  obtain ⟨v1, ev1, hF⟩ := cp_bind hF
  refine cp_getI (T := TX5) (N := 4) (ci := 5) (j := 0) hx hb htT hinX5 hown hK hP rfl (by decide) rfl (htT _ tw_49) ev1 dX5_cellAt_2 ?_
  obtain ⟨y2, ey2, hF⟩ := cp_bind hF
  refine cp_call (st1 := [.int y2.1]) (va_runS (As := [.int x1, .int v1]) (rest := []) ⟨hx, hb, hml, hown, htT⟩ (ct_J_floorMod l G L hJ q x1 v1 D y2 ey2) ⟨callB_of 2 htT gdJ_floorMod rfl rfl rfl (htT _ tw_3) (htT _ tw_46) hdJ_floorMod ⟨Nat.le_of_ble_eq_true rfl, Nat.le_of_ble_eq_true rfl⟩, (htT _ tw_47)⟩ ⟨cp_blind, cp_pre hP hK hN hZ hS⟩ rfl rfl hl.1 rfl (lv_room (Nat.le_of_ble_eq_true rfl)) dX5_cellAt_5 ⟨Nat.zero_le _, Nat.zero_le _⟩) hS (fun H locs hP hS => ?_)
  refine lv_iload_n hx hb dX5_cellAt_8 rfl (lv_at hl 2 rfl) ?_
  refine lv_aload_n hx hb dX5_cellAt_9 rfl (lv_at hl 0 rfl) ?_
  obtain ⟨v3, ev3, hF⟩ := cp_bind hF
  refine cp_getI (T := TX5) (N := 4) (ci := 5) (j := 1) hx hb htT hinX5 hown hK hP rfl (by decide) rfl (htT _ tw_50) ev3 dX5_cellAt_10 ?_
  obtain ⟨y4, ey4, hF⟩ := cp_bind hF
  refine cp_call (st1 := [.int y4.1, .int y2.1]) (va_runS (As := [.int x2, .int v3]) (rest := [.int y2.1]) ⟨hx, hb, hml, hown, htT⟩ (ct_J_floorMod l G L hJ q x2 v3 y2.2 y4 ey4) ⟨callB_of 2 htT gdJ_floorMod rfl rfl rfl (htT _ tw_3) (htT _ tw_46) hdJ_floorMod ⟨Nat.le_of_ble_eq_true rfl, Nat.le_of_ble_eq_true rfl⟩, (htT _ tw_47)⟩ ⟨cp_blind, cp_pre hP hK hN hZ hS⟩ rfl rfl hl.1 rfl (lv_room (Nat.le_of_ble_eq_true rfl)) dX5_cellAt_13 ⟨Nat.zero_le _, Nat.zero_le _⟩) hS (fun H locs hP hS => ?_)
  refine lv_aload_n hx hb dX5_cellAt_16 rfl (lv_at hl 0 rfl) ?_
  obtain ⟨v5, ev5, hF⟩ := cp_bind hF
  refine cp_getI (T := TX5) (N := 4) (ci := 5) (j := 0) hx hb htT hinX5 hown hK hP rfl (by decide) rfl (htT _ tw_49) ev5 dX5_cellAt_17 ?_
  refine lv_imul hx hb dX5_cellAt_20 ?_
  refine lv_iadd hx hb dX5_cellAt_21 ?_
  exact cp_iret hx hb hr hlocks hF hP hS dX5_cellAt_22
theorem dX5_nextTo_0 : decode cX5_nextTo 0 = .ok (.aload_n 0, 1) := by decide +kernel
theorem dX5_nextTo_1 : decode cX5_nextTo 1 = .ok (.getfield 21, 3) := by decide +kernel
theorem dX5_nextTo_4 : decode cX5_nextTo 4 = .ok (.iload_n 1, 1) := by decide +kernel
theorem dX5_nextTo_5 : decode cX5_nextTo 5 = .ok (.iconst 4, 1) := by decide +kernel
theorem dX5_nextTo_6 : decode cX5_nextTo 6 = .ok (.imul, 1) := by decide +kernel
theorem dX5_nextTo_7 : decode cX5_nextTo 7 = .ok (.iload_n 2, 1) := by decide +kernel
theorem dX5_nextTo_8 : decode cX5_nextTo 8 = .ok (.iadd, 1) := by decide +kernel
theorem dX5_nextTo_9 : decode cX5_nextTo 9 = .ok (.iaload, 1) := by decide +kernel
theorem dX5_nextTo_10 : decode cX5_nextTo 10 = .ok (.ireturn, 1) := by decide +kernel
def fn_X5_nextTo (L : cp_Lay) (q : Nat) (k0 : Nat) (x1 : Int32) (x2 : Int32) (D : cp_Dt) : Option (Int32 × cp_Dt) :=
  (cp_gR L k0 5 3).bind fun r1 =>
  (cp_aI L D 0 r1 ((x1 * (4 : Int32)) + x2)).bind fun v2 =>
  some (v2, D)
set_option maxHeartbeats 4000000 in
set_option maxRecDepth 100000 in
theorem ct_X5_nextTo (l : Launch) (G : va_G) (L : cp_Lay) (hJ : cp_J L) (q : Nat) (k0 : Nat) (x1 : Int32) (x2 : Int32) (D : cp_Dt) (res : Int32 × cp_Dt) (hF : fn_X5_nextTo L q k0 x1 x2 D = some res) : cp_Met l G yX5_nextTo wsX5_nextTo ({ frames := 0, cells := 0, slots := 0, locals := 0 }) L ([.ref (L.2.1 k0), .int x1, .int x2] : List Value) D res.2 (some (.int res.1)) := by
  refine Met.ofW (cc := cX5_nextTo) (maxL := 3) (ret := (some .int)) (by decide) rfl ?_
  intro p e s m args below meth c s₁ B hml hv
  obtain ⟨rfl, hP, hK, hN, hZ⟩ := hv
  have hx := B.exec
  have hb := B.bytes
  have hr := B.returns
  have hts := atoms_spec (ws := wsX5_nextTo) B.pre
  have hown : s.vm.findClass "CreaturePond$Shape" = some m.cls := findClass_of_methodNamed B.named
  have hlocks := B.notSynchronized
  have hS : va_S (cp_A L) s.heap s.heap [] := va_S.rf
  have htT : ∀ w ∈ cp_T, w.before ([.ref (L.2.1 k0), .int x1, .int x2] : List Value).toArray s = true := fun w h => hts w (List.mem_cons_of_mem _ h)
  have hl := lv_entry (([.ref (L.2.1 k0), .int x1, .int x2] : List Value)) (n := 3) (Nat.le_of_ble_eq_true rfl)
  rw [lg_entry_eq]
  generalize (lg_sl (([.ref (L.2.1 k0), .int x1, .int x2] : List Value)) ++ List.replicate (3 - (lg_sl (([.ref (L.2.1 k0), .int x1, .int x2] : List Value))).length) Slot.unset).toArray = ls at hl ⊢
  have hl : lv_has ls 3 [(0, .ref (L.2.1 k0)), (1, .int x1), (2, .int x2)] := hl
  unfold fn_X5_nextTo at hF
  refine lv_aload_n hx hb dX5_nextTo_0 rfl (lv_at hl 0 rfl) ?_
  obtain ⟨r1, er1, hF⟩ := cp_bind hF
  refine cp_getR (T := TX5) (N := 4) (ci := 5) (j := 3) hx hb htT hinX5 hown hK hP rfl (by decide) rfl (htT _ tw_52) er1 dX5_nextTo_1 ?_
  refine lv_iload_n hx hb dX5_nextTo_4 rfl (lv_at hl 1 rfl) ?_
  refine lv_iconst (v := (4 : Int32)) hx hb dX5_nextTo_5 (by decide) ?_
  refine lv_imul hx hb dX5_nextTo_6 ?_
  refine lv_iload_n hx hb dX5_nextTo_7 rfl (lv_at hl 2 rfl) ?_
  refine lv_iadd hx hb dX5_nextTo_8 ?_
  obtain ⟨v2, ev2, hF⟩ := cp_bind hF
  refine cp_iald hx hb hK hP ev2 dX5_nextTo_9 ?_
  exact cp_iret hx hb hr hlocks hF hP hS dX5_nextTo_10
theorem dX1_trait_0 : decode cX1_trait 0 = .ok (.iload_n 1, 1) := by decide +kernel
theorem dX1_trait_1 : decode cX1_trait 1 = .ok (.tableswitch 104 10 18 #[51, 56, 61, 66, 71, 76, 81, 86, 91], 51) := by decide +kernel
theorem dX1_trait_52 : decode cX1_trait 52 = .ok (.aload_n 0, 1) := by decide +kernel
theorem dX1_trait_53 : decode cX1_trait 53 = .ok (.getfield 32, 3) := by decide +kernel
theorem dX1_trait_56 : decode cX1_trait 56 = .ok (.ireturn, 1) := by decide +kernel
theorem dX1_trait_57 : decode cX1_trait 57 = .ok (.aload_n 0, 1) := by decide +kernel
theorem dX1_trait_58 : decode cX1_trait 58 = .ok (.getfield 35, 3) := by decide +kernel
theorem dX1_trait_61 : decode cX1_trait 61 = .ok (.ireturn, 1) := by decide +kernel
theorem dX1_trait_62 : decode cX1_trait 62 = .ok (.aload_n 0, 1) := by decide +kernel
theorem dX1_trait_63 : decode cX1_trait 63 = .ok (.getfield 38, 3) := by decide +kernel
theorem dX1_trait_66 : decode cX1_trait 66 = .ok (.ireturn, 1) := by decide +kernel
theorem dX1_trait_67 : decode cX1_trait 67 = .ok (.aload_n 0, 1) := by decide +kernel
theorem dX1_trait_68 : decode cX1_trait 68 = .ok (.getfield 44, 3) := by decide +kernel
theorem dX1_trait_71 : decode cX1_trait 71 = .ok (.ireturn, 1) := by decide +kernel
theorem dX1_trait_72 : decode cX1_trait 72 = .ok (.aload_n 0, 1) := by decide +kernel
theorem dX1_trait_73 : decode cX1_trait 73 = .ok (.getfield 41, 3) := by decide +kernel
theorem dX1_trait_76 : decode cX1_trait 76 = .ok (.ireturn, 1) := by decide +kernel
theorem dX1_trait_77 : decode cX1_trait 77 = .ok (.aload_n 0, 1) := by decide +kernel
theorem dX1_trait_78 : decode cX1_trait 78 = .ok (.getfield 47, 3) := by decide +kernel
theorem dX1_trait_81 : decode cX1_trait 81 = .ok (.ireturn, 1) := by decide +kernel
theorem dX1_trait_82 : decode cX1_trait 82 = .ok (.aload_n 0, 1) := by decide +kernel
theorem dX1_trait_83 : decode cX1_trait 83 = .ok (.getfield 50, 3) := by decide +kernel
theorem dX1_trait_86 : decode cX1_trait 86 = .ok (.ireturn, 1) := by decide +kernel
theorem dX1_trait_87 : decode cX1_trait 87 = .ok (.aload_n 0, 1) := by decide +kernel
theorem dX1_trait_88 : decode cX1_trait 88 = .ok (.getfield 53, 3) := by decide +kernel
theorem dX1_trait_91 : decode cX1_trait 91 = .ok (.ireturn, 1) := by decide +kernel
theorem dX1_trait_92 : decode cX1_trait 92 = .ok (.aload_n 0, 1) := by decide +kernel
theorem dX1_trait_93 : decode cX1_trait 93 = .ok (.getfield 25, 3) := by decide +kernel
theorem dX1_trait_96 : decode cX1_trait 96 = .ok (.ifCond .eq 7, 3) := by decide +kernel
theorem dX1_trait_99 : decode cX1_trait 99 = .ok (.iconst 1, 1) := by decide +kernel
theorem dX1_trait_100 : decode cX1_trait 100 = .ok (.goto 4, 3) := by decide +kernel
theorem dX1_trait_103 : decode cX1_trait 103 = .ok (.iconst 0, 1) := by decide +kernel
theorem dX1_trait_104 : decode cX1_trait 104 = .ok (.ireturn, 1) := by decide +kernel
theorem dX1_trait_105 : decode cX1_trait 105 = .ok (.iconst (-1), 1) := by decide +kernel
theorem dX1_trait_106 : decode cX1_trait 106 = .ok (.ireturn, 1) := by decide +kernel
def fn_X1_trait (L : cp_Lay) (q : Nat) (k0 : Nat) (x1 : Int32) (D : cp_Dt) : Option (Int32 × cp_Dt) :=
  if x1 = (10 : Int32) then ((cp_gI L D k0 1 6).bind fun v2 =>
  some (v2, D))
  else if x1 = (11 : Int32) then ((cp_gI L D k0 1 7).bind fun v4 =>
  some (v4, D))
  else if x1 = (12 : Int32) then ((cp_gI L D k0 1 8).bind fun v6 =>
  some (v6, D))
  else if x1 = (13 : Int32) then ((cp_gI L D k0 1 10).bind fun v8 =>
  some (v8, D))
  else if x1 = (14 : Int32) then ((cp_gI L D k0 1 9).bind fun v10 =>
  some (v10, D))
  else if x1 = (15 : Int32) then ((cp_gI L D k0 1 11).bind fun v12 =>
  some (v12, D))
  else if x1 = (16 : Int32) then ((cp_gI L D k0 1 12).bind fun v14 =>
  some (v14, D))
  else if x1 = (17 : Int32) then ((cp_gI L D k0 1 13).bind fun v16 =>
  some (v16, D))
  else if x1 = (18 : Int32) then ((cp_gI L D k0 1 4).bind fun v18 =>
  if v18 = 0 then (some ((0 : Int32), D))
  else (some ((1 : Int32), D)))
  else (some ((-1 : Int32), D))
set_option maxHeartbeats 4000000 in
set_option maxRecDepth 100000 in
theorem ct_X1_trait (l : Launch) (G : va_G) (L : cp_Lay) (hJ : cp_J L) (q : Nat) (k0 : Nat) (x1 : Int32) (D : cp_Dt) (res : Int32 × cp_Dt) (hF : fn_X1_trait L q k0 x1 D = some res) : cp_Met l G yX1_trait wsX1_trait ({ frames := 0, cells := 0, slots := 0, locals := 0 }) L ([.ref (L.2.1 k0), .int x1] : List Value) D res.2 (some (.int res.1)) := by
  refine Met.ofW (cc := cX1_trait) (maxL := 2) (ret := (some .int)) (by decide) rfl ?_
  intro p e s m args below meth c s₁ B hml hv
  obtain ⟨rfl, hP, hK, hN, hZ⟩ := hv
  have hx := B.exec
  have hb := B.bytes
  have hr := B.returns
  have hts := atoms_spec (ws := wsX1_trait) B.pre
  have hown : s.vm.findClass "CreaturePond$Animal" = some m.cls := findClass_of_methodNamed B.named
  have hlocks := B.notSynchronized
  have hS : va_S (cp_A L) s.heap s.heap [] := va_S.rf
  have htT : ∀ w ∈ cp_T, w.before ([.ref (L.2.1 k0), .int x1] : List Value).toArray s = true := fun w h => hts w (List.mem_cons_of_mem _ h)
  have hl := lv_entry (([.ref (L.2.1 k0), .int x1] : List Value)) (n := 2) (Nat.le_of_ble_eq_true rfl)
  rw [lg_entry_eq]
  generalize (lg_sl (([.ref (L.2.1 k0), .int x1] : List Value)) ++ List.replicate (2 - (lg_sl (([.ref (L.2.1 k0), .int x1] : List Value))).length) Slot.unset).toArray = ls at hl ⊢
  have hl : lv_has ls 2 [(0, .ref (L.2.1 k0)), (1, .int x1)] := hl
  unfold fn_X1_trait at hF
  refine lv_iload_n hx hb dX1_trait_0 rfl (lv_at hl 1 rfl) ?_
  by_cases hc1 : x1 = (10 : Int32)
  · rw [if_pos hc1] at hF
    refine lv_tableIn (tgt := 52) hx hb dX1_trait_1 (by rw [hc1]; decide) (by rw [hc1]; decide) (by rw [hc1]; rfl) (by decide) ?_
    refine lv_aload_n hx hb dX1_trait_52 rfl (lv_at hl 0 rfl) ?_
    obtain ⟨v2, ev2, hF⟩ := cp_bind hF
    refine cp_getI (T := TX1) (N := 14) (ci := 1) (j := 6) hx hb htT hinX1 hown hK hP rfl (by decide) rfl (htT _ tw_74) ev2 dX1_trait_53 ?_
    exact cp_iret hx hb hr hlocks hF hP hS dX1_trait_56
  · rw [if_neg hc1] at hF
    by_cases hc3 : x1 = (11 : Int32)
    · rw [if_pos hc3] at hF
      refine lv_tableIn (tgt := 57) hx hb dX1_trait_1 (by rw [hc3]; decide) (by rw [hc3]; decide) (by rw [hc3]; rfl) (by decide) ?_
      refine lv_aload_n hx hb dX1_trait_57 rfl (lv_at hl 0 rfl) ?_
      obtain ⟨v4, ev4, hF⟩ := cp_bind hF
      refine cp_getI (T := TX1) (N := 14) (ci := 1) (j := 7) hx hb htT hinX1 hown hK hP rfl (by decide) rfl (htT _ tw_75) ev4 dX1_trait_58 ?_
      exact cp_iret hx hb hr hlocks hF hP hS dX1_trait_61
    · rw [if_neg hc3] at hF
      by_cases hc5 : x1 = (12 : Int32)
      · rw [if_pos hc5] at hF
        refine lv_tableIn (tgt := 62) hx hb dX1_trait_1 (by rw [hc5]; decide) (by rw [hc5]; decide) (by rw [hc5]; rfl) (by decide) ?_
        refine lv_aload_n hx hb dX1_trait_62 rfl (lv_at hl 0 rfl) ?_
        obtain ⟨v6, ev6, hF⟩ := cp_bind hF
        refine cp_getI (T := TX1) (N := 14) (ci := 1) (j := 8) hx hb htT hinX1 hown hK hP rfl (by decide) rfl (htT _ tw_76) ev6 dX1_trait_63 ?_
        exact cp_iret hx hb hr hlocks hF hP hS dX1_trait_66
      · rw [if_neg hc5] at hF
        by_cases hc7 : x1 = (13 : Int32)
        · rw [if_pos hc7] at hF
          refine lv_tableIn (tgt := 67) hx hb dX1_trait_1 (by rw [hc7]; decide) (by rw [hc7]; decide) (by rw [hc7]; rfl) (by decide) ?_
          refine lv_aload_n hx hb dX1_trait_67 rfl (lv_at hl 0 rfl) ?_
          obtain ⟨v8, ev8, hF⟩ := cp_bind hF
          refine cp_getI (T := TX1) (N := 14) (ci := 1) (j := 10) hx hb htT hinX1 hown hK hP rfl (by decide) rfl (htT _ tw_78) ev8 dX1_trait_68 ?_
          exact cp_iret hx hb hr hlocks hF hP hS dX1_trait_71
        · rw [if_neg hc7] at hF
          by_cases hc9 : x1 = (14 : Int32)
          · rw [if_pos hc9] at hF
            refine lv_tableIn (tgt := 72) hx hb dX1_trait_1 (by rw [hc9]; decide) (by rw [hc9]; decide) (by rw [hc9]; rfl) (by decide) ?_
            refine lv_aload_n hx hb dX1_trait_72 rfl (lv_at hl 0 rfl) ?_
            obtain ⟨v10, ev10, hF⟩ := cp_bind hF
            refine cp_getI (T := TX1) (N := 14) (ci := 1) (j := 9) hx hb htT hinX1 hown hK hP rfl (by decide) rfl (htT _ tw_77) ev10 dX1_trait_73 ?_
            exact cp_iret hx hb hr hlocks hF hP hS dX1_trait_76
          · rw [if_neg hc9] at hF
            by_cases hc11 : x1 = (15 : Int32)
            · rw [if_pos hc11] at hF
              refine lv_tableIn (tgt := 77) hx hb dX1_trait_1 (by rw [hc11]; decide) (by rw [hc11]; decide) (by rw [hc11]; rfl) (by decide) ?_
              refine lv_aload_n hx hb dX1_trait_77 rfl (lv_at hl 0 rfl) ?_
              obtain ⟨v12, ev12, hF⟩ := cp_bind hF
              refine cp_getI (T := TX1) (N := 14) (ci := 1) (j := 11) hx hb htT hinX1 hown hK hP rfl (by decide) rfl (htT _ tw_79) ev12 dX1_trait_78 ?_
              exact cp_iret hx hb hr hlocks hF hP hS dX1_trait_81
            · rw [if_neg hc11] at hF
              by_cases hc13 : x1 = (16 : Int32)
              · rw [if_pos hc13] at hF
                refine lv_tableIn (tgt := 82) hx hb dX1_trait_1 (by rw [hc13]; decide) (by rw [hc13]; decide) (by rw [hc13]; rfl) (by decide) ?_
                refine lv_aload_n hx hb dX1_trait_82 rfl (lv_at hl 0 rfl) ?_
                obtain ⟨v14, ev14, hF⟩ := cp_bind hF
                refine cp_getI (T := TX1) (N := 14) (ci := 1) (j := 12) hx hb htT hinX1 hown hK hP rfl (by decide) rfl (htT _ tw_80) ev14 dX1_trait_83 ?_
                exact cp_iret hx hb hr hlocks hF hP hS dX1_trait_86
              · rw [if_neg hc13] at hF
                by_cases hc15 : x1 = (17 : Int32)
                · rw [if_pos hc15] at hF
                  refine lv_tableIn (tgt := 87) hx hb dX1_trait_1 (by rw [hc15]; decide) (by rw [hc15]; decide) (by rw [hc15]; rfl) (by decide) ?_
                  refine lv_aload_n hx hb dX1_trait_87 rfl (lv_at hl 0 rfl) ?_
                  obtain ⟨v16, ev16, hF⟩ := cp_bind hF
                  refine cp_getI (T := TX1) (N := 14) (ci := 1) (j := 13) hx hb htT hinX1 hown hK hP rfl (by decide) rfl (htT _ tw_81) ev16 dX1_trait_88 ?_
                  exact cp_iret hx hb hr hlocks hF hP hS dX1_trait_91
                · rw [if_neg hc15] at hF
                  by_cases hc17 : x1 = (18 : Int32)
                  · rw [if_pos hc17] at hF
                    refine lv_tableIn (tgt := 92) hx hb dX1_trait_1 (by rw [hc17]; decide) (by rw [hc17]; decide) (by rw [hc17]; rfl) (by decide) ?_
                    refine lv_aload_n hx hb dX1_trait_92 rfl (lv_at hl 0 rfl) ?_
                    obtain ⟨v18, ev18, hF⟩ := cp_bind hF
                    refine cp_getI (T := TX1) (N := 14) (ci := 1) (j := 4) hx hb htT hinX1 hown hK hP rfl (by decide) rfl (htT _ tw_72) ev18 dX1_trait_93 ?_
                    refine lv_if_eq (tgt := 103) hx hb dX1_trait_96 (by decide) (fun hc19 => ?_) (fun hc19 => ?_)
                    · rw [if_pos hc19] at hF
                      refine lv_iconst (v := (0 : Int32)) hx hb dX1_trait_103 (by decide) ?_
                      exact cp_iret hx hb hr hlocks hF hP hS dX1_trait_104
                    · rw [if_neg hc19] at hF
                      refine lv_iconst (v := (1 : Int32)) hx hb dX1_trait_99 (by decide) ?_
                      refine lv_goto (tgt := 104) hx hb dX1_trait_100 (by decide) ?_
                      exact cp_iret hx hb hr hlocks hF hP hS dX1_trait_104
                  · rw [if_neg hc17] at hF
                    have zhc1 := lv_neT (a := 10) hc1 (by decide)
                    have zhc3 := lv_neT (a := 11) hc3 (by decide)
                    have zhc5 := lv_neT (a := 12) hc5 (by decide)
                    have zhc7 := lv_neT (a := 13) hc7 (by decide)
                    have zhc9 := lv_neT (a := 14) hc9 (by decide)
                    have zhc11 := lv_neT (a := 15) hc11 (by decide)
                    have zhc13 := lv_neT (a := 16) hc13 (by decide)
                    have zhc15 := lv_neT (a := 17) hc15 (by decide)
                    have zhc17 := lv_neT (a := 18) hc17 (by decide)
                    refine lv_tableOut (tgt := 105) hx hb dX1_trait_1 (by omega) (by decide) ?_
                    refine lv_iconst (v := (-1 : Int32)) hx hb dX1_trait_105 (by decide) ?_
                    exact cp_iret hx hb hr hlocks hF hP hS dX1_trait_106
theorem dX1_copyFrom_0 : decode cX1_copyFrom 0 = .ok (.aload_n 1, 1) := by decide +kernel
theorem dX1_copyFrom_1 : decode cX1_copyFrom 1 = .ok (.getfield 9, 3) := by decide +kernel
theorem dX1_copyFrom_4 : decode cX1_copyFrom 4 = .ok (.iconst 0, 1) := by decide +kernel
theorem dX1_copyFrom_5 : decode cX1_copyFrom 5 = .ok (.aload_n 0, 1) := by decide +kernel
theorem dX1_copyFrom_6 : decode cX1_copyFrom 6 = .ok (.getfield 9, 3) := by decide +kernel
theorem dX1_copyFrom_9 : decode cX1_copyFrom 9 = .ok (.iconst 0, 1) := by decide +kernel
theorem dX1_copyFrom_10 : decode cX1_copyFrom 10 = .ok (.bipush 8, 2) := by decide +kernel
theorem dX1_copyFrom_12 : decode cX1_copyFrom 12 = .ok (.invokestatic 56, 3) := by decide +kernel
theorem dX1_copyFrom_15 : decode cX1_copyFrom 15 = .ok (.aload_n 1, 1) := by decide +kernel
theorem dX1_copyFrom_16 : decode cX1_copyFrom 16 = .ok (.getfield 15, 3) := by decide +kernel
theorem dX1_copyFrom_19 : decode cX1_copyFrom 19 = .ok (.iconst 0, 1) := by decide +kernel
theorem dX1_copyFrom_20 : decode cX1_copyFrom 20 = .ok (.aload_n 0, 1) := by decide +kernel
theorem dX1_copyFrom_21 : decode cX1_copyFrom 21 = .ok (.getfield 15, 3) := by decide +kernel
theorem dX1_copyFrom_24 : decode cX1_copyFrom 24 = .ok (.iconst 0, 1) := by decide +kernel
theorem dX1_copyFrom_25 : decode cX1_copyFrom 25 = .ok (.bipush 16, 2) := by decide +kernel
theorem dX1_copyFrom_27 : decode cX1_copyFrom 27 = .ok (.invokestatic 56, 3) := by decide +kernel
theorem dX1_copyFrom_30 : decode cX1_copyFrom 30 = .ok (.aload_n 1, 1) := by decide +kernel
theorem dX1_copyFrom_31 : decode cX1_copyFrom 31 = .ok (.getfield 18, 3) := by decide +kernel
theorem dX1_copyFrom_34 : decode cX1_copyFrom 34 = .ok (.iconst 0, 1) := by decide +kernel
theorem dX1_copyFrom_35 : decode cX1_copyFrom 35 = .ok (.aload_n 0, 1) := by decide +kernel
theorem dX1_copyFrom_36 : decode cX1_copyFrom 36 = .ok (.getfield 18, 3) := by decide +kernel
theorem dX1_copyFrom_39 : decode cX1_copyFrom 39 = .ok (.iconst 0, 1) := by decide +kernel
theorem dX1_copyFrom_40 : decode cX1_copyFrom 40 = .ok (.bipush 20, 2) := by decide +kernel
theorem dX1_copyFrom_42 : decode cX1_copyFrom 42 = .ok (.invokestatic 56, 3) := by decide +kernel
theorem dX1_copyFrom_45 : decode cX1_copyFrom 45 = .ok (.aload_n 0, 1) := by decide +kernel
theorem dX1_copyFrom_46 : decode cX1_copyFrom 46 = .ok (.aload_n 1, 1) := by decide +kernel
theorem dX1_copyFrom_47 : decode cX1_copyFrom 47 = .ok (.getfield 21, 3) := by decide +kernel
theorem dX1_copyFrom_50 : decode cX1_copyFrom 50 = .ok (.putfield 21, 3) := by decide +kernel
theorem dX1_copyFrom_53 : decode cX1_copyFrom 53 = .ok (.aload_n 0, 1) := by decide +kernel
theorem dX1_copyFrom_54 : decode cX1_copyFrom 54 = .ok (.aload_n 1, 1) := by decide +kernel
theorem dX1_copyFrom_55 : decode cX1_copyFrom 55 = .ok (.getfield 25, 3) := by decide +kernel
theorem dX1_copyFrom_58 : decode cX1_copyFrom 58 = .ok (.putfield 25, 3) := by decide +kernel
theorem dX1_copyFrom_61 : decode cX1_copyFrom 61 = .ok (.aload_n 0, 1) := by decide +kernel
theorem dX1_copyFrom_62 : decode cX1_copyFrom 62 = .ok (.aload_n 1, 1) := by decide +kernel
theorem dX1_copyFrom_63 : decode cX1_copyFrom 63 = .ok (.getfield 28, 3) := by decide +kernel
theorem dX1_copyFrom_66 : decode cX1_copyFrom 66 = .ok (.putfield 28, 3) := by decide +kernel
theorem dX1_copyFrom_69 : decode cX1_copyFrom 69 = .ok (.aload_n 0, 1) := by decide +kernel
theorem dX1_copyFrom_70 : decode cX1_copyFrom 70 = .ok (.aload_n 1, 1) := by decide +kernel
theorem dX1_copyFrom_71 : decode cX1_copyFrom 71 = .ok (.getfield 32, 3) := by decide +kernel
theorem dX1_copyFrom_74 : decode cX1_copyFrom 74 = .ok (.putfield 32, 3) := by decide +kernel
theorem dX1_copyFrom_77 : decode cX1_copyFrom 77 = .ok (.aload_n 0, 1) := by decide +kernel
theorem dX1_copyFrom_78 : decode cX1_copyFrom 78 = .ok (.aload_n 1, 1) := by decide +kernel
theorem dX1_copyFrom_79 : decode cX1_copyFrom 79 = .ok (.getfield 35, 3) := by decide +kernel
theorem dX1_copyFrom_82 : decode cX1_copyFrom 82 = .ok (.putfield 35, 3) := by decide +kernel
theorem dX1_copyFrom_85 : decode cX1_copyFrom 85 = .ok (.aload_n 0, 1) := by decide +kernel
theorem dX1_copyFrom_86 : decode cX1_copyFrom 86 = .ok (.aload_n 1, 1) := by decide +kernel
theorem dX1_copyFrom_87 : decode cX1_copyFrom 87 = .ok (.getfield 38, 3) := by decide +kernel
theorem dX1_copyFrom_90 : decode cX1_copyFrom 90 = .ok (.putfield 38, 3) := by decide +kernel
theorem dX1_copyFrom_93 : decode cX1_copyFrom 93 = .ok (.aload_n 0, 1) := by decide +kernel
theorem dX1_copyFrom_94 : decode cX1_copyFrom 94 = .ok (.aload_n 1, 1) := by decide +kernel
theorem dX1_copyFrom_95 : decode cX1_copyFrom 95 = .ok (.getfield 41, 3) := by decide +kernel
theorem dX1_copyFrom_98 : decode cX1_copyFrom 98 = .ok (.putfield 41, 3) := by decide +kernel
theorem dX1_copyFrom_101 : decode cX1_copyFrom 101 = .ok (.aload_n 0, 1) := by decide +kernel
theorem dX1_copyFrom_102 : decode cX1_copyFrom 102 = .ok (.aload_n 1, 1) := by decide +kernel
theorem dX1_copyFrom_103 : decode cX1_copyFrom 103 = .ok (.getfield 44, 3) := by decide +kernel
theorem dX1_copyFrom_106 : decode cX1_copyFrom 106 = .ok (.putfield 44, 3) := by decide +kernel
theorem dX1_copyFrom_109 : decode cX1_copyFrom 109 = .ok (.aload_n 0, 1) := by decide +kernel
theorem dX1_copyFrom_110 : decode cX1_copyFrom 110 = .ok (.aload_n 1, 1) := by decide +kernel
theorem dX1_copyFrom_111 : decode cX1_copyFrom 111 = .ok (.getfield 47, 3) := by decide +kernel
theorem dX1_copyFrom_114 : decode cX1_copyFrom 114 = .ok (.putfield 47, 3) := by decide +kernel
theorem dX1_copyFrom_117 : decode cX1_copyFrom 117 = .ok (.aload_n 0, 1) := by decide +kernel
theorem dX1_copyFrom_118 : decode cX1_copyFrom 118 = .ok (.aload_n 1, 1) := by decide +kernel
theorem dX1_copyFrom_119 : decode cX1_copyFrom 119 = .ok (.getfield 50, 3) := by decide +kernel
theorem dX1_copyFrom_122 : decode cX1_copyFrom 122 = .ok (.putfield 50, 3) := by decide +kernel
theorem dX1_copyFrom_125 : decode cX1_copyFrom 125 = .ok (.aload_n 0, 1) := by decide +kernel
theorem dX1_copyFrom_126 : decode cX1_copyFrom 126 = .ok (.aload_n 1, 1) := by decide +kernel
theorem dX1_copyFrom_127 : decode cX1_copyFrom 127 = .ok (.getfield 53, 3) := by decide +kernel
theorem dX1_copyFrom_130 : decode cX1_copyFrom 130 = .ok (.putfield 53, 3) := by decide +kernel
theorem dX1_copyFrom_133 : decode cX1_copyFrom 133 = .ok (.return_, 1) := by decide +kernel
def fn_X1_copyFrom (L : cp_Lay) (q : Nat) (k0 : Nat) (k1 : Nat) (D : cp_Dt) : Option (cp_Dt) :=
  (cp_gR L k1 1 0).bind fun r1 =>
  (cp_gR L k0 1 0).bind fun r2 =>
  (cp_cp L D 1 r1 (0 : Int32) r2 (0 : Int32) (8 : Int32)).bind fun D3 =>
  (cp_gR L k1 1 1).bind fun r4 =>
  (cp_gR L k0 1 1).bind fun r5 =>
  (cp_cp L D3 1 r4 (0 : Int32) r5 (0 : Int32) (16 : Int32)).bind fun D6 =>
  (cp_gR L k1 1 2).bind fun r7 =>
  (cp_gR L k0 1 2).bind fun r8 =>
  (cp_cp L D6 1 r7 (0 : Int32) r8 (0 : Int32) (20 : Int32)).bind fun D9 =>
  (cp_gI L D9 k1 1 3).bind fun v10 =>
  (cp_pZ L D9 k0 1 3 v10).bind fun D11 =>
  (cp_gI L D11 k1 1 4).bind fun v12 =>
  (cp_pZ L D11 k0 1 4 v12).bind fun D13 =>
  (cp_gI L D13 k1 1 5).bind fun v14 =>
  (cp_pI L D13 k0 1 5 v14).bind fun D15 =>
  (cp_gI L D15 k1 1 6).bind fun v16 =>
  (cp_pI L D15 k0 1 6 v16).bind fun D17 =>
  (cp_gI L D17 k1 1 7).bind fun v18 =>
  (cp_pI L D17 k0 1 7 v18).bind fun D19 =>
  (cp_gI L D19 k1 1 8).bind fun v20 =>
  (cp_pI L D19 k0 1 8 v20).bind fun D21 =>
  (cp_gI L D21 k1 1 9).bind fun v22 =>
  (cp_pI L D21 k0 1 9 v22).bind fun D23 =>
  (cp_gI L D23 k1 1 10).bind fun v24 =>
  (cp_pI L D23 k0 1 10 v24).bind fun D25 =>
  (cp_gI L D25 k1 1 11).bind fun v26 =>
  (cp_pI L D25 k0 1 11 v26).bind fun D27 =>
  (cp_gI L D27 k1 1 12).bind fun v28 =>
  (cp_pI L D27 k0 1 12 v28).bind fun D29 =>
  (cp_gI L D29 k1 1 13).bind fun v30 =>
  (cp_pI L D29 k0 1 13 v30).bind fun D31 =>
  some D31
set_option maxHeartbeats 4000000 in
set_option maxRecDepth 100000 in
theorem ct_X1_copyFrom (l : Launch) (G : va_G) (L : cp_Lay) (hJ : cp_J L) (q : Nat) (k0 : Nat) (k1 : Nat) (D : cp_Dt) (res : cp_Dt) (hF : fn_X1_copyFrom L q k0 k1 D = some res) : cp_Met l G yX1_copyFrom wsX1_copyFrom ({ frames := 1, cells := 0, slots := 0, locals := 26 }) L ([.ref (L.2.1 k0), .ref (L.2.1 k1)] : List Value) D res none := by
  refine Met.ofW (cc := cX1_copyFrom) (maxL := 2) (ret := none) (by decide) rfl ?_
  intro p e s m args below meth c s₁ B hml hv
  obtain ⟨rfl, hP, hK, hN, hZ⟩ := hv
  have hx := B.exec
  have hb := B.bytes
  have hr := B.returns
  have hts := atoms_spec (ws := wsX1_copyFrom) B.pre
  have hown : s.vm.findClass "CreaturePond$Animal" = some m.cls := findClass_of_methodNamed B.named
  have hlocks := B.notSynchronized
  have hS : va_S (cp_A L) s.heap s.heap [] := va_S.rf
  have htT : ∀ w ∈ cp_T, w.before ([.ref (L.2.1 k0), .ref (L.2.1 k1)] : List Value).toArray s = true := fun w h => hts w (List.mem_cons_of_mem _ h)
  have hl := lv_entry (([.ref (L.2.1 k0), .ref (L.2.1 k1)] : List Value)) (n := 2) (Nat.le_of_ble_eq_true rfl)
  rw [lg_entry_eq]
  generalize (lg_sl (([.ref (L.2.1 k0), .ref (L.2.1 k1)] : List Value)) ++ List.replicate (2 - (lg_sl (([.ref (L.2.1 k0), .ref (L.2.1 k1)] : List Value))).length) Slot.unset).toArray = ls at hl ⊢
  have hl : lv_has ls 2 [(0, .ref (L.2.1 k0)), (1, .ref (L.2.1 k1))] := hl
  unfold fn_X1_copyFrom at hF
  refine lv_aload_n hx hb dX1_copyFrom_0 rfl (lv_at hl 1 rfl) ?_
  obtain ⟨r1, er1, hF⟩ := cp_bind hF
  refine cp_getR (T := TX1) (N := 14) (ci := 1) (j := 0) hx hb htT hinX1 hown hK hP rfl (by decide) rfl (htT _ tw_68) er1 dX1_copyFrom_1 ?_
  refine lv_iconst (v := (0 : Int32)) hx hb dX1_copyFrom_4 (by decide) ?_
  refine lv_aload_n hx hb dX1_copyFrom_5 rfl (lv_at hl 0 rfl) ?_
  obtain ⟨r2, er2, hF⟩ := cp_bind hF
  refine cp_getR (T := TX1) (N := 14) (ci := 1) (j := 0) hx hb htT hinX1 hown hK hP rfl (by decide) rfl (htT _ tw_68) er2 dX1_copyFrom_6 ?_
  refine lv_iconst (v := (0 : Int32)) hx hb dX1_copyFrom_9 (by decide) ?_
  refine lv_bipush (v := (8 : Int32)) hx hb dX1_copyFrom_10 (by decide) ?_
  obtain ⟨D3, eD3, hF⟩ := cp_bind hF
  refine cp_copy hx hb (by rw [hml]; exact hl.1.symm) hown (htT _ tw_193) (htT _ tw_190) (htT _ tw_189) (htT _ tw_15) hK hJ hP hS (Or.inr rfl) eD3 (Nat.le_of_ble_eq_true rfl) (Nat.le_of_ble_eq_true rfl) dX1_copyFrom_12 (fun H locs hP hS => ?_)
  refine lv_aload_n hx hb dX1_copyFrom_15 rfl (lv_at hl 1 rfl) ?_
  obtain ⟨r4, er4, hF⟩ := cp_bind hF
  refine cp_getR (T := TX1) (N := 14) (ci := 1) (j := 1) hx hb htT hinX1 hown hK hP rfl (by decide) rfl (htT _ tw_69) er4 dX1_copyFrom_16 ?_
  refine lv_iconst (v := (0 : Int32)) hx hb dX1_copyFrom_19 (by decide) ?_
  refine lv_aload_n hx hb dX1_copyFrom_20 rfl (lv_at hl 0 rfl) ?_
  obtain ⟨r5, er5, hF⟩ := cp_bind hF
  refine cp_getR (T := TX1) (N := 14) (ci := 1) (j := 1) hx hb htT hinX1 hown hK hP rfl (by decide) rfl (htT _ tw_69) er5 dX1_copyFrom_21 ?_
  refine lv_iconst (v := (0 : Int32)) hx hb dX1_copyFrom_24 (by decide) ?_
  refine lv_bipush (v := (16 : Int32)) hx hb dX1_copyFrom_25 (by decide) ?_
  obtain ⟨D6, eD6, hF⟩ := cp_bind hF
  refine cp_copy hx hb (by rw [hml]; exact hl.1.symm) hown (htT _ tw_193) (htT _ tw_190) (htT _ tw_189) (htT _ tw_15) hK hJ hP hS (Or.inr rfl) eD6 (Nat.le_of_ble_eq_true rfl) (Nat.le_of_ble_eq_true rfl) dX1_copyFrom_27 (fun H locs hP hS => ?_)
  refine lv_aload_n hx hb dX1_copyFrom_30 rfl (lv_at hl 1 rfl) ?_
  obtain ⟨r7, er7, hF⟩ := cp_bind hF
  refine cp_getR (T := TX1) (N := 14) (ci := 1) (j := 2) hx hb htT hinX1 hown hK hP rfl (by decide) rfl (htT _ tw_70) er7 dX1_copyFrom_31 ?_
  refine lv_iconst (v := (0 : Int32)) hx hb dX1_copyFrom_34 (by decide) ?_
  refine lv_aload_n hx hb dX1_copyFrom_35 rfl (lv_at hl 0 rfl) ?_
  obtain ⟨r8, er8, hF⟩ := cp_bind hF
  refine cp_getR (T := TX1) (N := 14) (ci := 1) (j := 2) hx hb htT hinX1 hown hK hP rfl (by decide) rfl (htT _ tw_70) er8 dX1_copyFrom_36 ?_
  refine lv_iconst (v := (0 : Int32)) hx hb dX1_copyFrom_39 (by decide) ?_
  refine lv_bipush (v := (20 : Int32)) hx hb dX1_copyFrom_40 (by decide) ?_
  obtain ⟨D9, eD9, hF⟩ := cp_bind hF
  refine cp_copy hx hb (by rw [hml]; exact hl.1.symm) hown (htT _ tw_193) (htT _ tw_190) (htT _ tw_189) (htT _ tw_15) hK hJ hP hS (Or.inr rfl) eD9 (Nat.le_of_ble_eq_true rfl) (Nat.le_of_ble_eq_true rfl) dX1_copyFrom_42 (fun H locs hP hS => ?_)
  refine lv_aload_n hx hb dX1_copyFrom_45 rfl (lv_at hl 0 rfl) ?_
  refine lv_aload_n hx hb dX1_copyFrom_46 rfl (lv_at hl 1 rfl) ?_
  obtain ⟨v10, ev10, hF⟩ := cp_bind hF
  refine cp_getI (T := TX1) (N := 14) (ci := 1) (j := 3) hx hb htT hinX1 hown hK hP rfl (by decide) rfl (htT _ tw_71) ev10 dX1_copyFrom_47 ?_
  obtain ⟨D11, eD11, hF⟩ := cp_bind hF
  refine cp_put (T := TX1) (N := 14) (ci := 1) (j := 3) hx hb htT hinX1 tyX1 tyX1_ok nmX1 hown hK hJ hP hS rfl (by decide) rfl (htT _ tw_71) rfl (cp_pZ_spec eD11).2.1 (cp_pZ_spec eD11).2.2 (cp_pZ_spec eD11).1 dX1_copyFrom_50 (fun H locs hP hS => ?_)
  refine lv_aload_n hx hb dX1_copyFrom_53 rfl (lv_at hl 0 rfl) ?_
  refine lv_aload_n hx hb dX1_copyFrom_54 rfl (lv_at hl 1 rfl) ?_
  obtain ⟨v12, ev12, hF⟩ := cp_bind hF
  refine cp_getI (T := TX1) (N := 14) (ci := 1) (j := 4) hx hb htT hinX1 hown hK hP rfl (by decide) rfl (htT _ tw_72) ev12 dX1_copyFrom_55 ?_
  obtain ⟨D13, eD13, hF⟩ := cp_bind hF
  refine cp_put (T := TX1) (N := 14) (ci := 1) (j := 4) hx hb htT hinX1 tyX1 tyX1_ok nmX1 hown hK hJ hP hS rfl (by decide) rfl (htT _ tw_72) rfl (cp_pZ_spec eD13).2.1 (cp_pZ_spec eD13).2.2 (cp_pZ_spec eD13).1 dX1_copyFrom_58 (fun H locs hP hS => ?_)
  refine lv_aload_n hx hb dX1_copyFrom_61 rfl (lv_at hl 0 rfl) ?_
  refine lv_aload_n hx hb dX1_copyFrom_62 rfl (lv_at hl 1 rfl) ?_
  obtain ⟨v14, ev14, hF⟩ := cp_bind hF
  refine cp_getI (T := TX1) (N := 14) (ci := 1) (j := 5) hx hb htT hinX1 hown hK hP rfl (by decide) rfl (htT _ tw_73) ev14 dX1_copyFrom_63 ?_
  obtain ⟨D15, eD15, hF⟩ := cp_bind hF
  refine cp_put (T := TX1) (N := 14) (ci := 1) (j := 5) hx hb htT hinX1 tyX1 tyX1_ok nmX1 hown hK hJ hP hS rfl (by decide) rfl (htT _ tw_73) rfl rfl rfl eD15 dX1_copyFrom_66 (fun H locs hP hS => ?_)
  refine lv_aload_n hx hb dX1_copyFrom_69 rfl (lv_at hl 0 rfl) ?_
  refine lv_aload_n hx hb dX1_copyFrom_70 rfl (lv_at hl 1 rfl) ?_
  obtain ⟨v16, ev16, hF⟩ := cp_bind hF
  refine cp_getI (T := TX1) (N := 14) (ci := 1) (j := 6) hx hb htT hinX1 hown hK hP rfl (by decide) rfl (htT _ tw_74) ev16 dX1_copyFrom_71 ?_
  obtain ⟨D17, eD17, hF⟩ := cp_bind hF
  refine cp_put (T := TX1) (N := 14) (ci := 1) (j := 6) hx hb htT hinX1 tyX1 tyX1_ok nmX1 hown hK hJ hP hS rfl (by decide) rfl (htT _ tw_74) rfl rfl rfl eD17 dX1_copyFrom_74 (fun H locs hP hS => ?_)
  refine lv_aload_n hx hb dX1_copyFrom_77 rfl (lv_at hl 0 rfl) ?_
  refine lv_aload_n hx hb dX1_copyFrom_78 rfl (lv_at hl 1 rfl) ?_
  obtain ⟨v18, ev18, hF⟩ := cp_bind hF
  refine cp_getI (T := TX1) (N := 14) (ci := 1) (j := 7) hx hb htT hinX1 hown hK hP rfl (by decide) rfl (htT _ tw_75) ev18 dX1_copyFrom_79 ?_
  obtain ⟨D19, eD19, hF⟩ := cp_bind hF
  refine cp_put (T := TX1) (N := 14) (ci := 1) (j := 7) hx hb htT hinX1 tyX1 tyX1_ok nmX1 hown hK hJ hP hS rfl (by decide) rfl (htT _ tw_75) rfl rfl rfl eD19 dX1_copyFrom_82 (fun H locs hP hS => ?_)
  refine lv_aload_n hx hb dX1_copyFrom_85 rfl (lv_at hl 0 rfl) ?_
  refine lv_aload_n hx hb dX1_copyFrom_86 rfl (lv_at hl 1 rfl) ?_
  obtain ⟨v20, ev20, hF⟩ := cp_bind hF
  refine cp_getI (T := TX1) (N := 14) (ci := 1) (j := 8) hx hb htT hinX1 hown hK hP rfl (by decide) rfl (htT _ tw_76) ev20 dX1_copyFrom_87 ?_
  obtain ⟨D21, eD21, hF⟩ := cp_bind hF
  refine cp_put (T := TX1) (N := 14) (ci := 1) (j := 8) hx hb htT hinX1 tyX1 tyX1_ok nmX1 hown hK hJ hP hS rfl (by decide) rfl (htT _ tw_76) rfl rfl rfl eD21 dX1_copyFrom_90 (fun H locs hP hS => ?_)
  refine lv_aload_n hx hb dX1_copyFrom_93 rfl (lv_at hl 0 rfl) ?_
  refine lv_aload_n hx hb dX1_copyFrom_94 rfl (lv_at hl 1 rfl) ?_
  obtain ⟨v22, ev22, hF⟩ := cp_bind hF
  refine cp_getI (T := TX1) (N := 14) (ci := 1) (j := 9) hx hb htT hinX1 hown hK hP rfl (by decide) rfl (htT _ tw_77) ev22 dX1_copyFrom_95 ?_
  obtain ⟨D23, eD23, hF⟩ := cp_bind hF
  refine cp_put (T := TX1) (N := 14) (ci := 1) (j := 9) hx hb htT hinX1 tyX1 tyX1_ok nmX1 hown hK hJ hP hS rfl (by decide) rfl (htT _ tw_77) rfl rfl rfl eD23 dX1_copyFrom_98 (fun H locs hP hS => ?_)
  refine lv_aload_n hx hb dX1_copyFrom_101 rfl (lv_at hl 0 rfl) ?_
  refine lv_aload_n hx hb dX1_copyFrom_102 rfl (lv_at hl 1 rfl) ?_
  obtain ⟨v24, ev24, hF⟩ := cp_bind hF
  refine cp_getI (T := TX1) (N := 14) (ci := 1) (j := 10) hx hb htT hinX1 hown hK hP rfl (by decide) rfl (htT _ tw_78) ev24 dX1_copyFrom_103 ?_
  obtain ⟨D25, eD25, hF⟩ := cp_bind hF
  refine cp_put (T := TX1) (N := 14) (ci := 1) (j := 10) hx hb htT hinX1 tyX1 tyX1_ok nmX1 hown hK hJ hP hS rfl (by decide) rfl (htT _ tw_78) rfl rfl rfl eD25 dX1_copyFrom_106 (fun H locs hP hS => ?_)
  refine lv_aload_n hx hb dX1_copyFrom_109 rfl (lv_at hl 0 rfl) ?_
  refine lv_aload_n hx hb dX1_copyFrom_110 rfl (lv_at hl 1 rfl) ?_
  obtain ⟨v26, ev26, hF⟩ := cp_bind hF
  refine cp_getI (T := TX1) (N := 14) (ci := 1) (j := 11) hx hb htT hinX1 hown hK hP rfl (by decide) rfl (htT _ tw_79) ev26 dX1_copyFrom_111 ?_
  obtain ⟨D27, eD27, hF⟩ := cp_bind hF
  refine cp_put (T := TX1) (N := 14) (ci := 1) (j := 11) hx hb htT hinX1 tyX1 tyX1_ok nmX1 hown hK hJ hP hS rfl (by decide) rfl (htT _ tw_79) rfl rfl rfl eD27 dX1_copyFrom_114 (fun H locs hP hS => ?_)
  refine lv_aload_n hx hb dX1_copyFrom_117 rfl (lv_at hl 0 rfl) ?_
  refine lv_aload_n hx hb dX1_copyFrom_118 rfl (lv_at hl 1 rfl) ?_
  obtain ⟨v28, ev28, hF⟩ := cp_bind hF
  refine cp_getI (T := TX1) (N := 14) (ci := 1) (j := 12) hx hb htT hinX1 hown hK hP rfl (by decide) rfl (htT _ tw_80) ev28 dX1_copyFrom_119 ?_
  obtain ⟨D29, eD29, hF⟩ := cp_bind hF
  refine cp_put (T := TX1) (N := 14) (ci := 1) (j := 12) hx hb htT hinX1 tyX1 tyX1_ok nmX1 hown hK hJ hP hS rfl (by decide) rfl (htT _ tw_80) rfl rfl rfl eD29 dX1_copyFrom_122 (fun H locs hP hS => ?_)
  refine lv_aload_n hx hb dX1_copyFrom_125 rfl (lv_at hl 0 rfl) ?_
  refine lv_aload_n hx hb dX1_copyFrom_126 rfl (lv_at hl 1 rfl) ?_
  obtain ⟨v30, ev30, hF⟩ := cp_bind hF
  refine cp_getI (T := TX1) (N := 14) (ci := 1) (j := 13) hx hb htT hinX1 hown hK hP rfl (by decide) rfl (htT _ tw_81) ev30 dX1_copyFrom_127 ?_
  obtain ⟨D31, eD31, hF⟩ := cp_bind hF
  refine cp_put (T := TX1) (N := 14) (ci := 1) (j := 13) hx hb htT hinX1 tyX1 tyX1_ok nmX1 hown hK hJ hP hS rfl (by decide) rfl (htT _ tw_81) rfl rfl rfl eD31 dX1_copyFrom_130 (fun H locs hP hS => ?_)
  exact cp_vret hx hb hr hlocks hF hP hS dX1_copyFrom_133
theorem dX1_begin_0 : decode cX1_begin 0 = .ok (.iconst 0, 1) := by decide +kernel
theorem dX1_begin_1 : decode cX1_begin 1 = .ok (.istore 4, 2) := by decide +kernel
theorem dX1_begin_3 : decode cX1_begin 3 = .ok (.iload 4, 2) := by decide +kernel
theorem dX1_begin_5 : decode cX1_begin 5 = .ok (.bipush 8, 2) := by decide +kernel
theorem dX1_begin_7 : decode cX1_begin 7 = .ok (.if_icmp .ge 17, 3) := by decide +kernel
theorem dX1_begin_10 : decode cX1_begin 10 = .ok (.aload_n 0, 1) := by decide +kernel
theorem dX1_begin_11 : decode cX1_begin 11 = .ok (.getfield 9, 3) := by decide +kernel
theorem dX1_begin_14 : decode cX1_begin 14 = .ok (.iload 4, 2) := by decide +kernel
theorem dX1_begin_16 : decode cX1_begin 16 = .ok (.iconst 0, 1) := by decide +kernel
theorem dX1_begin_17 : decode cX1_begin 17 = .ok (.bastore, 1) := by decide +kernel
theorem dX1_begin_18 : decode cX1_begin 18 = .ok (.iinc 4 1, 3) := by decide +kernel
theorem dX1_begin_21 : decode cX1_begin 21 = .ok (.goto (-18), 3) := by decide +kernel
theorem dX1_begin_24 : decode cX1_begin 24 = .ok (.iconst 0, 1) := by decide +kernel
theorem dX1_begin_25 : decode cX1_begin 25 = .ok (.istore 4, 2) := by decide +kernel
theorem dX1_begin_27 : decode cX1_begin 27 = .ok (.iload 4, 2) := by decide +kernel
theorem dX1_begin_29 : decode cX1_begin 29 = .ok (.bipush 16, 2) := by decide +kernel
theorem dX1_begin_31 : decode cX1_begin 31 = .ok (.if_icmp .ge 17, 3) := by decide +kernel
theorem dX1_begin_34 : decode cX1_begin 34 = .ok (.aload_n 0, 1) := by decide +kernel
theorem dX1_begin_35 : decode cX1_begin 35 = .ok (.getfield 15, 3) := by decide +kernel
theorem dX1_begin_38 : decode cX1_begin 38 = .ok (.iload 4, 2) := by decide +kernel
theorem dX1_begin_40 : decode cX1_begin 40 = .ok (.iconst 0, 1) := by decide +kernel
theorem dX1_begin_41 : decode cX1_begin 41 = .ok (.bastore, 1) := by decide +kernel
theorem dX1_begin_42 : decode cX1_begin 42 = .ok (.iinc 4 1, 3) := by decide +kernel
theorem dX1_begin_45 : decode cX1_begin 45 = .ok (.goto (-18), 3) := by decide +kernel
theorem dX1_begin_48 : decode cX1_begin 48 = .ok (.aload_n 0, 1) := by decide +kernel
theorem dX1_begin_49 : decode cX1_begin 49 = .ok (.iconst 1, 1) := by decide +kernel
theorem dX1_begin_50 : decode cX1_begin 50 = .ok (.putfield 21, 3) := by decide +kernel
theorem dX1_begin_53 : decode cX1_begin 53 = .ok (.aload_n 0, 1) := by decide +kernel
theorem dX1_begin_54 : decode cX1_begin 54 = .ok (.iconst 0, 1) := by decide +kernel
theorem dX1_begin_55 : decode cX1_begin 55 = .ok (.putfield 25, 3) := by decide +kernel
theorem dX1_begin_58 : decode cX1_begin 58 = .ok (.aload_n 0, 1) := by decide +kernel
theorem dX1_begin_59 : decode cX1_begin 59 = .ok (.iload_n 1, 1) := by decide +kernel
theorem dX1_begin_60 : decode cX1_begin 60 = .ok (.putfield 28, 3) := by decide +kernel
theorem dX1_begin_63 : decode cX1_begin 63 = .ok (.aload_n 0, 1) := by decide +kernel
theorem dX1_begin_64 : decode cX1_begin 64 = .ok (.iload_n 2, 1) := by decide +kernel
theorem dX1_begin_65 : decode cX1_begin 65 = .ok (.putfield 32, 3) := by decide +kernel
theorem dX1_begin_68 : decode cX1_begin 68 = .ok (.aload_n 0, 1) := by decide +kernel
theorem dX1_begin_69 : decode cX1_begin 69 = .ok (.iload_n 3, 1) := by decide +kernel
theorem dX1_begin_70 : decode cX1_begin 70 = .ok (.putfield 35, 3) := by decide +kernel
theorem dX1_begin_73 : decode cX1_begin 73 = .ok (.aload_n 0, 1) := by decide +kernel
theorem dX1_begin_74 : decode cX1_begin 74 = .ok (.iconst 0, 1) := by decide +kernel
theorem dX1_begin_75 : decode cX1_begin 75 = .ok (.putfield 38, 3) := by decide +kernel
theorem dX1_begin_78 : decode cX1_begin 78 = .ok (.aload_n 0, 1) := by decide +kernel
theorem dX1_begin_79 : decode cX1_begin 79 = .ok (.iconst 0, 1) := by decide +kernel
theorem dX1_begin_80 : decode cX1_begin 80 = .ok (.putfield 41, 3) := by decide +kernel
theorem dX1_begin_83 : decode cX1_begin 83 = .ok (.aload_n 0, 1) := by decide +kernel
theorem dX1_begin_84 : decode cX1_begin 84 = .ok (.iconst 0, 1) := by decide +kernel
theorem dX1_begin_85 : decode cX1_begin 85 = .ok (.putfield 44, 3) := by decide +kernel
theorem dX1_begin_88 : decode cX1_begin 88 = .ok (.aload_n 0, 1) := by decide +kernel
theorem dX1_begin_89 : decode cX1_begin 89 = .ok (.iconst (-1), 1) := by decide +kernel
theorem dX1_begin_90 : decode cX1_begin 90 = .ok (.putfield 47, 3) := by decide +kernel
theorem dX1_begin_93 : decode cX1_begin 93 = .ok (.aload_n 0, 1) := by decide +kernel
theorem dX1_begin_94 : decode cX1_begin 94 = .ok (.iconst (-1), 1) := by decide +kernel
theorem dX1_begin_95 : decode cX1_begin 95 = .ok (.putfield 50, 3) := by decide +kernel
theorem dX1_begin_98 : decode cX1_begin 98 = .ok (.aload_n 0, 1) := by decide +kernel
theorem dX1_begin_99 : decode cX1_begin 99 = .ok (.iconst 0, 1) := by decide +kernel
theorem dX1_begin_100 : decode cX1_begin 100 = .ok (.putfield 53, 3) := by decide +kernel
theorem dX1_begin_103 : decode cX1_begin 103 = .ok (.return_, 1) := by decide +kernel
def fn_X1_begin_L27 (L : cp_Lay) (q : Nat) : Nat → Nat → Int32 → Int32 → Int32 → Int32 → cp_Dt → Option (cp_Dt)
  | 0, _, _, _, _, _, _ => none
  | n + 1, a0, i1, i2, i3, i4, D =>
    if (16 : Int32) ≤ i4 then ((cp_pZ L D a0 1 3 (1 : Int32)).bind fun D5 =>
    (cp_pZ L D5 a0 1 4 (0 : Int32)).bind fun D6 =>
    (cp_pI L D6 a0 1 5 i1).bind fun D7 =>
    (cp_pI L D7 a0 1 6 i2).bind fun D8 =>
    (cp_pI L D8 a0 1 7 i3).bind fun D9 =>
    (cp_pI L D9 a0 1 8 (0 : Int32)).bind fun D10 =>
    (cp_pI L D10 a0 1 9 (0 : Int32)).bind fun D11 =>
    (cp_pI L D11 a0 1 10 (0 : Int32)).bind fun D12 =>
    (cp_pI L D12 a0 1 11 (-1 : Int32)).bind fun D13 =>
    (cp_pI L D13 a0 1 12 (-1 : Int32)).bind fun D14 =>
    (cp_pI L D14 a0 1 13 (0 : Int32)).bind fun D15 =>
    some D15)
    else ((cp_gR L a0 1 1).bind fun r16 =>
    (cp_aS L D 1 r16 i4 (0 : Int32).toInt8.toInt32).bind fun D17 =>
    fn_X1_begin_L27 L q n a0 i1 i2 i3 (i4 + 1) D17)
def fn_X1_begin_L3 (L : cp_Lay) (q : Nat) : Nat → Nat → Int32 → Int32 → Int32 → Int32 → cp_Dt → Option (cp_Dt)
  | 0, _, _, _, _, _, _ => none
  | n + 1, a0, i1, i2, i3, i4, D =>
    if (8 : Int32) ≤ i4 then (fn_X1_begin_L27 L q q a0 i1 i2 i3 (0 : Int32) D)
    else ((cp_gR L a0 1 0).bind fun r2 =>
    (cp_aS L D 1 r2 i4 (0 : Int32).toInt8.toInt32).bind fun D3 =>
    fn_X1_begin_L3 L q n a0 i1 i2 i3 (i4 + 1) D3)
def fn_X1_begin (L : cp_Lay) (q : Nat) (k0 : Nat) (x1 : Int32) (x2 : Int32) (x3 : Int32) (D : cp_Dt) : Option (cp_Dt) :=
  fn_X1_begin_L3 L q q k0 x1 x2 x3 (0 : Int32) D
set_option maxHeartbeats 4000000 in
set_option maxRecDepth 100000 in
theorem ct_X1_begin (l : Launch) (G : va_G) (L : cp_Lay) (hJ : cp_J L) (q : Nat) (k0 : Nat) (x1 : Int32) (x2 : Int32) (x3 : Int32) (D : cp_Dt) (res : cp_Dt) (hF : fn_X1_begin L q k0 x1 x2 x3 D = some res) : cp_Met l G yX1_begin wsX1_begin ({ frames := 0, cells := 0, slots := 0, locals := 0 }) L ([.ref (L.2.1 k0), .int x1, .int x2, .int x3] : List Value) D res none := by
  refine Met.ofW (cc := cX1_begin) (maxL := 5) (ret := none) (by decide) rfl ?_
  intro p e s m args below meth c s₁ B hml hv
  obtain ⟨rfl, hP, hK, hN, hZ⟩ := hv
  have hx := B.exec
  have hb := B.bytes
  have hr := B.returns
  have hts := atoms_spec (ws := wsX1_begin) B.pre
  have hown : s.vm.findClass "CreaturePond$Animal" = some m.cls := findClass_of_methodNamed B.named
  have hlocks := B.notSynchronized
  have hS : va_S (cp_A L) s.heap s.heap [] := va_S.rf
  have htT : ∀ w ∈ cp_T, w.before ([.ref (L.2.1 k0), .int x1, .int x2, .int x3] : List Value).toArray s = true := fun w h => hts w (List.mem_cons_of_mem _ h)
  have hl := lv_entry (([.ref (L.2.1 k0), .int x1, .int x2, .int x3] : List Value)) (n := 5) (Nat.le_of_ble_eq_true rfl)
  rw [lg_entry_eq]
  generalize (lg_sl (([.ref (L.2.1 k0), .int x1, .int x2, .int x3] : List Value)) ++ List.replicate (5 - (lg_sl (([.ref (L.2.1 k0), .int x1, .int x2, .int x3] : List Value))).length) Slot.unset).toArray = ls at hl ⊢
  have hl : lv_has ls 5 [(0, .ref (L.2.1 k0)), (1, .int x1), (2, .int x2), (3, .int x3)] := hl
  have hL27 : ∀ (n : Nat) (a0 : Nat) (i1 : Int32) (i2 : Int32) (i3 : Int32) (i4 : Int32) (D : cp_Dt) (H : Heap) (locs : List Loc) (ls : Array Slot), fn_X1_begin_L27 L q n a0 i1 i2 i3 i4 D = some res → va_P G vwCl (cp_ws L D) H → va_S (cp_A L) s.heap H locs → lv_has ls 5 [(0, .ref (L.2.1 a0)), (1, .int i1), (2, .int i2), (3, .int i3), (4, .int i4)] → W p l e (headSpec wsX1_begin ({ frames := 0, cells := 0, slots := 0, locals := 0 })).room s m ([.ref (L.2.1 k0), .int x1, .int x2, .int x3] : List Value).toArray below meth c H locs 0 0 (MQ below (cp_Q G L res none) ([.ref (L.2.1 k0), .int x1, .int x2, .int x3] : List Value).toArray s 0 0 (cp_A L)) (F0 m 27 ls []) := by
    intro n
    induction n with
    | zero =>
      intro a0 i1 i2 i3 i4 D H locs ls hF
      cases hF
    | succ n ih =>
      intro a0 i1 i2 i3 i4 D H locs ls hF hP hS hl
      unfold fn_X1_begin_L27 at hF
      refine lv_iload hx hb dX1_begin_27 (lv_at hl 4 rfl) ?_
      refine lv_bipush (v := (16 : Int32)) hx hb dX1_begin_29 (by decide) ?_
      refine lv_icmp_ge (tgt := 48) hx hb dX1_begin_31 (by decide) (fun hc4 => ?_) (fun hc4 => ?_)
      · rw [if_pos hc4] at hF
        refine lv_aload_n hx hb dX1_begin_48 rfl (lv_at hl 0 rfl) ?_
        refine lv_iconst (v := (1 : Int32)) hx hb dX1_begin_49 (by decide) ?_
        obtain ⟨D5, eD5, hF⟩ := cp_bind hF
        refine cp_put (T := TX1) (N := 14) (ci := 1) (j := 3) hx hb htT hinX1 tyX1 tyX1_ok nmX1 hown hK hJ hP hS rfl (by decide) rfl (htT _ tw_71) rfl (cp_pZ_spec eD5).2.1 (cp_pZ_spec eD5).2.2 (cp_pZ_spec eD5).1 dX1_begin_50 (fun H locs hP hS => ?_)
        refine lv_aload_n hx hb dX1_begin_53 rfl (lv_at hl 0 rfl) ?_
        refine lv_iconst (v := (0 : Int32)) hx hb dX1_begin_54 (by decide) ?_
        obtain ⟨D6, eD6, hF⟩ := cp_bind hF
        refine cp_put (T := TX1) (N := 14) (ci := 1) (j := 4) hx hb htT hinX1 tyX1 tyX1_ok nmX1 hown hK hJ hP hS rfl (by decide) rfl (htT _ tw_72) rfl (cp_pZ_spec eD6).2.1 (cp_pZ_spec eD6).2.2 (cp_pZ_spec eD6).1 dX1_begin_55 (fun H locs hP hS => ?_)
        refine lv_aload_n hx hb dX1_begin_58 rfl (lv_at hl 0 rfl) ?_
        refine lv_iload_n hx hb dX1_begin_59 rfl (lv_at hl 1 rfl) ?_
        obtain ⟨D7, eD7, hF⟩ := cp_bind hF
        refine cp_put (T := TX1) (N := 14) (ci := 1) (j := 5) hx hb htT hinX1 tyX1 tyX1_ok nmX1 hown hK hJ hP hS rfl (by decide) rfl (htT _ tw_73) rfl rfl rfl eD7 dX1_begin_60 (fun H locs hP hS => ?_)
        refine lv_aload_n hx hb dX1_begin_63 rfl (lv_at hl 0 rfl) ?_
        refine lv_iload_n hx hb dX1_begin_64 rfl (lv_at hl 2 rfl) ?_
        obtain ⟨D8, eD8, hF⟩ := cp_bind hF
        refine cp_put (T := TX1) (N := 14) (ci := 1) (j := 6) hx hb htT hinX1 tyX1 tyX1_ok nmX1 hown hK hJ hP hS rfl (by decide) rfl (htT _ tw_74) rfl rfl rfl eD8 dX1_begin_65 (fun H locs hP hS => ?_)
        refine lv_aload_n hx hb dX1_begin_68 rfl (lv_at hl 0 rfl) ?_
        refine lv_iload_n hx hb dX1_begin_69 rfl (lv_at hl 3 rfl) ?_
        obtain ⟨D9, eD9, hF⟩ := cp_bind hF
        refine cp_put (T := TX1) (N := 14) (ci := 1) (j := 7) hx hb htT hinX1 tyX1 tyX1_ok nmX1 hown hK hJ hP hS rfl (by decide) rfl (htT _ tw_75) rfl rfl rfl eD9 dX1_begin_70 (fun H locs hP hS => ?_)
        refine lv_aload_n hx hb dX1_begin_73 rfl (lv_at hl 0 rfl) ?_
        refine lv_iconst (v := (0 : Int32)) hx hb dX1_begin_74 (by decide) ?_
        obtain ⟨D10, eD10, hF⟩ := cp_bind hF
        refine cp_put (T := TX1) (N := 14) (ci := 1) (j := 8) hx hb htT hinX1 tyX1 tyX1_ok nmX1 hown hK hJ hP hS rfl (by decide) rfl (htT _ tw_76) rfl rfl rfl eD10 dX1_begin_75 (fun H locs hP hS => ?_)
        refine lv_aload_n hx hb dX1_begin_78 rfl (lv_at hl 0 rfl) ?_
        refine lv_iconst (v := (0 : Int32)) hx hb dX1_begin_79 (by decide) ?_
        obtain ⟨D11, eD11, hF⟩ := cp_bind hF
        refine cp_put (T := TX1) (N := 14) (ci := 1) (j := 9) hx hb htT hinX1 tyX1 tyX1_ok nmX1 hown hK hJ hP hS rfl (by decide) rfl (htT _ tw_77) rfl rfl rfl eD11 dX1_begin_80 (fun H locs hP hS => ?_)
        refine lv_aload_n hx hb dX1_begin_83 rfl (lv_at hl 0 rfl) ?_
        refine lv_iconst (v := (0 : Int32)) hx hb dX1_begin_84 (by decide) ?_
        obtain ⟨D12, eD12, hF⟩ := cp_bind hF
        refine cp_put (T := TX1) (N := 14) (ci := 1) (j := 10) hx hb htT hinX1 tyX1 tyX1_ok nmX1 hown hK hJ hP hS rfl (by decide) rfl (htT _ tw_78) rfl rfl rfl eD12 dX1_begin_85 (fun H locs hP hS => ?_)
        refine lv_aload_n hx hb dX1_begin_88 rfl (lv_at hl 0 rfl) ?_
        refine lv_iconst (v := (-1 : Int32)) hx hb dX1_begin_89 (by decide) ?_
        obtain ⟨D13, eD13, hF⟩ := cp_bind hF
        refine cp_put (T := TX1) (N := 14) (ci := 1) (j := 11) hx hb htT hinX1 tyX1 tyX1_ok nmX1 hown hK hJ hP hS rfl (by decide) rfl (htT _ tw_79) rfl rfl rfl eD13 dX1_begin_90 (fun H locs hP hS => ?_)
        refine lv_aload_n hx hb dX1_begin_93 rfl (lv_at hl 0 rfl) ?_
        refine lv_iconst (v := (-1 : Int32)) hx hb dX1_begin_94 (by decide) ?_
        obtain ⟨D14, eD14, hF⟩ := cp_bind hF
        refine cp_put (T := TX1) (N := 14) (ci := 1) (j := 12) hx hb htT hinX1 tyX1 tyX1_ok nmX1 hown hK hJ hP hS rfl (by decide) rfl (htT _ tw_80) rfl rfl rfl eD14 dX1_begin_95 (fun H locs hP hS => ?_)
        refine lv_aload_n hx hb dX1_begin_98 rfl (lv_at hl 0 rfl) ?_
        refine lv_iconst (v := (0 : Int32)) hx hb dX1_begin_99 (by decide) ?_
        obtain ⟨D15, eD15, hF⟩ := cp_bind hF
        refine cp_put (T := TX1) (N := 14) (ci := 1) (j := 13) hx hb htT hinX1 tyX1 tyX1_ok nmX1 hown hK hJ hP hS rfl (by decide) rfl (htT _ tw_81) rfl rfl rfl eD15 dX1_begin_100 (fun H locs hP hS => ?_)
        exact cp_vret hx hb hr hlocks hF hP hS dX1_begin_103
      · rw [if_neg hc4] at hF
        refine lv_aload_n hx hb dX1_begin_34 rfl (lv_at hl 0 rfl) ?_
        obtain ⟨r16, er16, hF⟩ := cp_bind hF
        refine cp_getR (T := TX1) (N := 14) (ci := 1) (j := 1) hx hb htT hinX1 hown hK hP rfl (by decide) rfl (htT _ tw_69) er16 dX1_begin_35 ?_
        refine lv_iload hx hb dX1_begin_38 (lv_at hl 4 rfl) ?_
        refine lv_iconst (v := (0 : Int32)) hx hb dX1_begin_40 (by decide) ?_
        obtain ⟨D17, eD17, hF⟩ := cp_bind hF
        refine cp_bast hx hb hK hJ hP hS eD17 dX1_begin_41 (fun H locs hP hS => ?_)
        refine lv_iinc (k := 4) (v := (i4 + 1)) (lv' := [(4, .int (i4 + 1)), (0, .ref (L.2.1 a0)), (1, .int i1), (2, .int i2), (3, .int i3)]) hx hb dX1_begin_42 hl rfl (congrArg (fun z => i4 + z) (by decide)) (by decide) rfl (fun ls hl => ?_)
        refine lv_goto (tgt := 27) hx hb dX1_begin_45 (by decide) ?_
        exact ih a0 i1 i2 i3 (i4 + 1) D17 _ _ _ hF hP hS (lv_sub hl [1, 2, 3, 4, 0] rfl)
  have hL3 : ∀ (n : Nat) (a0 : Nat) (i1 : Int32) (i2 : Int32) (i3 : Int32) (i4 : Int32) (D : cp_Dt) (H : Heap) (locs : List Loc) (ls : Array Slot), fn_X1_begin_L3 L q n a0 i1 i2 i3 i4 D = some res → va_P G vwCl (cp_ws L D) H → va_S (cp_A L) s.heap H locs → lv_has ls 5 [(0, .ref (L.2.1 a0)), (1, .int i1), (2, .int i2), (3, .int i3), (4, .int i4)] → W p l e (headSpec wsX1_begin ({ frames := 0, cells := 0, slots := 0, locals := 0 })).room s m ([.ref (L.2.1 k0), .int x1, .int x2, .int x3] : List Value).toArray below meth c H locs 0 0 (MQ below (cp_Q G L res none) ([.ref (L.2.1 k0), .int x1, .int x2, .int x3] : List Value).toArray s 0 0 (cp_A L)) (F0 m 3 ls []) := by
    intro n
    induction n with
    | zero =>
      intro a0 i1 i2 i3 i4 D H locs ls hF
      cases hF
    | succ n ih =>
      intro a0 i1 i2 i3 i4 D H locs ls hF hP hS hl
      unfold fn_X1_begin_L3 at hF
      refine lv_iload hx hb dX1_begin_3 (lv_at hl 4 rfl) ?_
      refine lv_bipush (v := (8 : Int32)) hx hb dX1_begin_5 (by decide) ?_
      refine lv_icmp_ge (tgt := 24) hx hb dX1_begin_7 (by decide) (fun hc1 => ?_) (fun hc1 => ?_)
      · rw [if_pos hc1] at hF
        refine lv_iconst (v := (0 : Int32)) hx hb dX1_begin_24 (by decide) ?_
        refine lv_istore (lv' := [(4, .int (0 : Int32)), (0, .ref (L.2.1 a0)), (1, .int i1), (2, .int i2), (3, .int i3)]) hx hb dX1_begin_25 hl (by decide) rfl (fun ls hl => ?_)
        exact hL27 q a0 i1 i2 i3 (0 : Int32) D _ _ _ hF hP hS (lv_sub hl [1, 2, 3, 4, 0] rfl)
      · rw [if_neg hc1] at hF
        refine lv_aload_n hx hb dX1_begin_10 rfl (lv_at hl 0 rfl) ?_
        obtain ⟨r2, er2, hF⟩ := cp_bind hF
        refine cp_getR (T := TX1) (N := 14) (ci := 1) (j := 0) hx hb htT hinX1 hown hK hP rfl (by decide) rfl (htT _ tw_68) er2 dX1_begin_11 ?_
        refine lv_iload hx hb dX1_begin_14 (lv_at hl 4 rfl) ?_
        refine lv_iconst (v := (0 : Int32)) hx hb dX1_begin_16 (by decide) ?_
        obtain ⟨D3, eD3, hF⟩ := cp_bind hF
        refine cp_bast hx hb hK hJ hP hS eD3 dX1_begin_17 (fun H locs hP hS => ?_)
        refine lv_iinc (k := 4) (v := (i4 + 1)) (lv' := [(4, .int (i4 + 1)), (0, .ref (L.2.1 a0)), (1, .int i1), (2, .int i2), (3, .int i3)]) hx hb dX1_begin_18 hl rfl (congrArg (fun z => i4 + z) (by decide)) (by decide) rfl (fun ls hl => ?_)
        refine lv_goto (tgt := 3) hx hb dX1_begin_21 (by decide) ?_
        exact ih a0 i1 i2 i3 (i4 + 1) D3 _ _ _ hF hP hS (lv_sub hl [1, 2, 3, 4, 0] rfl)
  unfold fn_X1_begin at hF
  refine lv_iconst (v := (0 : Int32)) hx hb dX1_begin_0 (by decide) ?_
  refine lv_istore (lv' := [(4, .int (0 : Int32)), (0, .ref (L.2.1 k0)), (1, .int x1), (2, .int x2), (3, .int x3)]) hx hb dX1_begin_1 hl (by decide) rfl (fun ls hl => ?_)
  exact hL3 q k0 x1 x2 x3 (0 : Int32) D _ _ _ hF hP hS (lv_sub hl [1, 2, 3, 4, 0] rfl)
