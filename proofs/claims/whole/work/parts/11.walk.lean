theorem dX1_grow_0 : decode cX1_grow 0 = .ok (.aload_n 0, 1) := by decide +kernel
theorem dX1_grow_1 : decode cX1_grow 1 = .ok (.getfield 41, 3) := by decide +kernel
theorem dX1_grow_4 : decode cX1_grow 4 = .ok (.bipush 20, 2) := by decide +kernel
theorem dX1_grow_6 : decode cX1_grow 6 = .ok (.if_icmp .ge 23, 3) := by decide +kernel
theorem dX1_grow_9 : decode cX1_grow 9 = .ok (.aload_n 0, 1) := by decide +kernel
theorem dX1_grow_10 : decode cX1_grow 10 = .ok (.getfield 18, 3) := by decide +kernel
theorem dX1_grow_13 : decode cX1_grow 13 = .ok (.aload_n 0, 1) := by decide +kernel
theorem dX1_grow_14 : decode cX1_grow 14 = .ok (.getfield 41, 3) := by decide +kernel
theorem dX1_grow_17 : decode cX1_grow 17 = .ok (.iload_n 1, 1) := by decide +kernel
theorem dX1_grow_18 : decode cX1_grow 18 = .ok (.bastore, 1) := by decide +kernel
theorem dX1_grow_19 : decode cX1_grow 19 = .ok (.aload_n 0, 1) := by decide +kernel
theorem dX1_grow_20 : decode cX1_grow 20 = .ok (.dup, 1) := by decide +kernel
theorem dX1_grow_21 : decode cX1_grow 21 = .ok (.getfield 41, 3) := by decide +kernel
theorem dX1_grow_24 : decode cX1_grow 24 = .ok (.iconst 1, 1) := by decide +kernel
theorem dX1_grow_25 : decode cX1_grow 25 = .ok (.iadd, 1) := by decide +kernel
theorem dX1_grow_26 : decode cX1_grow 26 = .ok (.putfield 41, 3) := by decide +kernel
theorem dX1_grow_29 : decode cX1_grow 29 = .ok (.return_, 1) := by decide +kernel
def fn_X1_grow (L : cp_Lay) (q : Nat) (k0 : Nat) (x1 : Int32) (D : cp_Dt) : Option (cp_Dt) :=
  (cp_gI L D k0 1 9).bind fun v1 =>
  if (20 : Int32) ≤ v1 then (some D)
  else ((cp_gR L k0 1 2).bind fun r3 =>
  (cp_gI L D k0 1 9).bind fun v4 =>
  (cp_aS L D 1 r3 v4 x1.toInt8.toInt32).bind fun D5 =>
  (cp_gI L D5 k0 1 9).bind fun v6 =>
  (cp_pI L D5 k0 1 9 (v6 + (1 : Int32))).bind fun D7 =>
  some D7)
set_option maxHeartbeats 4000000 in
set_option maxRecDepth 100000 in
theorem ct_X1_grow (l : Launch) (G : va_G) (L : cp_Lay) (hJ : cp_J L) (q : Nat) (k0 : Nat) (x1 : Int32) (D : cp_Dt) (res : cp_Dt) (hF : fn_X1_grow L q k0 x1 D = some res) : cp_Met l G yX1_grow wsX1_grow ({ frames := 0, cells := 0, slots := 0, locals := 0 }) L ([.ref (L.2.1 k0), .int x1] : List Value) D res none := by
  refine Met.ofW (cc := cX1_grow) (maxL := 2) (ret := none) (by decide) rfl ?_
  intro p e s m args below meth c s₁ B hml hv
  obtain ⟨rfl, hP, hK, hN, hZ⟩ := hv
  have hx := B.exec
  have hb := B.bytes
  have hr := B.returns
  have hts := atoms_spec (ws := wsX1_grow) B.pre
  have hown : s.vm.findClass "CreaturePond$Animal" = some m.cls := findClass_of_methodNamed B.named
  have hlocks := B.notSynchronized
  have hS : va_S (cp_A L) s.heap s.heap [] := va_S.rf
  have htT : ∀ w ∈ cp_T, w.before ([.ref (L.2.1 k0), .int x1] : List Value).toArray s = true := fun w h => hts w (List.mem_cons_of_mem _ h)
  have hl := lv_entry (([.ref (L.2.1 k0), .int x1] : List Value)) (n := 2) (Nat.le_of_ble_eq_true rfl)
  rw [lg_entry_eq]
  generalize (lg_sl (([.ref (L.2.1 k0), .int x1] : List Value)) ++ List.replicate (2 - (lg_sl (([.ref (L.2.1 k0), .int x1] : List Value))).length) Slot.unset).toArray = ls at hl ⊢
  have hl : lv_has ls 2 [(0, .ref (L.2.1 k0)), (1, .int x1)] := hl
  unfold fn_X1_grow at hF
  refine lv_aload_n hx hb dX1_grow_0 rfl (lv_at hl 0 rfl) ?_
  obtain ⟨v1, ev1, hF⟩ := cp_bind hF
  refine cp_getI (T := TX1) (N := 14) (ci := 1) (j := 9) hx hb htT hinX1 hown hK hP rfl (by decide) rfl (htT _ tw_77) ev1 dX1_grow_1 ?_
  refine lv_bipush (v := (20 : Int32)) hx hb dX1_grow_4 (by decide) ?_
  refine lv_icmp_ge (tgt := 29) hx hb dX1_grow_6 (by decide) (fun hc2 => ?_) (fun hc2 => ?_)
  · rw [if_pos hc2] at hF
    exact cp_vret hx hb hr hlocks hF hP hS dX1_grow_29
  · rw [if_neg hc2] at hF
    refine lv_aload_n hx hb dX1_grow_9 rfl (lv_at hl 0 rfl) ?_
    obtain ⟨r3, er3, hF⟩ := cp_bind hF
    refine cp_getR (T := TX1) (N := 14) (ci := 1) (j := 2) hx hb htT hinX1 hown hK hP rfl (by decide) rfl (htT _ tw_70) er3 dX1_grow_10 ?_
    refine lv_aload_n hx hb dX1_grow_13 rfl (lv_at hl 0 rfl) ?_
    obtain ⟨v4, ev4, hF⟩ := cp_bind hF
    refine cp_getI (T := TX1) (N := 14) (ci := 1) (j := 9) hx hb htT hinX1 hown hK hP rfl (by decide) rfl (htT _ tw_77) ev4 dX1_grow_14 ?_
    refine lv_iload_n hx hb dX1_grow_17 rfl (lv_at hl 1 rfl) ?_
    obtain ⟨D5, eD5, hF⟩ := cp_bind hF
    refine cp_bast hx hb hK hJ hP hS eD5 dX1_grow_18 (fun H locs hP hS => ?_)
    refine lv_aload_n hx hb dX1_grow_19 rfl (lv_at hl 0 rfl) ?_
    refine lv_dup hx hb dX1_grow_20 rfl ?_
    obtain ⟨v6, ev6, hF⟩ := cp_bind hF
    refine cp_getI (T := TX1) (N := 14) (ci := 1) (j := 9) hx hb htT hinX1 hown hK hP rfl (by decide) rfl (htT _ tw_77) ev6 dX1_grow_21 ?_
    refine lv_iconst (v := (1 : Int32)) hx hb dX1_grow_24 (by decide) ?_
    refine lv_iadd hx hb dX1_grow_25 ?_
    obtain ⟨D7, eD7, hF⟩ := cp_bind hF
    refine cp_put (T := TX1) (N := 14) (ci := 1) (j := 9) hx hb htT hinX1 tyX1 tyX1_ok nmX1 hown hK hJ hP hS rfl (by decide) rfl (htT _ tw_77) rfl rfl rfl eD7 dX1_grow_26 (fun H locs hP hS => ?_)
    exact cp_vret hx hb hr hlocks hF hP hS dX1_grow_29
theorem dX1_wrapped_0 : decode cX1_wrapped 0 = .ok (.aload_n 0, 1) := by decide +kernel
theorem dX1_wrapped_1 : decode cX1_wrapped 1 = .ok (.getfield 41, 3) := by decide +kernel
theorem dX1_wrapped_4 : decode cX1_wrapped 4 = .ok (.ifCond .le 12, 3) := by decide +kernel
theorem dX1_wrapped_7 : decode cX1_wrapped 7 = .ok (.iload_n 1, 1) := by decide +kernel
theorem dX1_wrapped_8 : decode cX1_wrapped 8 = .ok (.aload_n 0, 1) := by decide +kernel
theorem dX1_wrapped_9 : decode cX1_wrapped 9 = .ok (.getfield 41, 3) := by decide +kernel
theorem dX1_wrapped_12 : decode cX1_wrapped 12 = .ok (.irem, 1) := by decide +kernel
theorem dX1_wrapped_13 : decode cX1_wrapped 13 = .ok (.goto 4, 3) := by decide +kernel
theorem dX1_wrapped_16 : decode cX1_wrapped 16 = .ok (.iconst 0, 1) := by decide +kernel
theorem dX1_wrapped_17 : decode cX1_wrapped 17 = .ok (.ireturn, 1) := by decide +kernel
def fn_X1_wrapped (L : cp_Lay) (q : Nat) (k0 : Nat) (x1 : Int32) (D : cp_Dt) : Option (Int32 × cp_Dt) :=
  (cp_gI L D k0 1 9).bind fun v1 =>
  if v1 ≤ 0 then (some ((0 : Int32), D))
  else ((cp_gI L D k0 1 9).bind fun v3 =>
  (cp_nz v3).bind fun u4 =>
  some ((x1 - x1 / v3 * v3), D))
set_option maxHeartbeats 4000000 in
set_option maxRecDepth 100000 in
theorem ct_X1_wrapped (l : Launch) (G : va_G) (L : cp_Lay) (hJ : cp_J L) (q : Nat) (k0 : Nat) (x1 : Int32) (D : cp_Dt) (res : Int32 × cp_Dt) (hF : fn_X1_wrapped L q k0 x1 D = some res) : cp_Met l G yX1_wrapped wsX1_wrapped ({ frames := 0, cells := 0, slots := 0, locals := 0 }) L ([.ref (L.2.1 k0), .int x1] : List Value) D res.2 (some (.int res.1)) := by
  refine Met.ofW (cc := cX1_wrapped) (maxL := 2) (ret := (some .int)) (by decide) rfl ?_
  intro p e s m args below meth c s₁ B hml hv
  obtain ⟨rfl, hP, hK, hN, hZ⟩ := hv
  have hx := B.exec
  have hb := B.bytes
  have hr := B.returns
  have hts := atoms_spec (ws := wsX1_wrapped) B.pre
  have hown : s.vm.findClass "CreaturePond$Animal" = some m.cls := findClass_of_methodNamed B.named
  have hlocks := B.notSynchronized
  have hS : va_S (cp_A L) s.heap s.heap [] := va_S.rf
  have htT : ∀ w ∈ cp_T, w.before ([.ref (L.2.1 k0), .int x1] : List Value).toArray s = true := fun w h => hts w (List.mem_cons_of_mem _ h)
  have hl := lv_entry (([.ref (L.2.1 k0), .int x1] : List Value)) (n := 2) (Nat.le_of_ble_eq_true rfl)
  rw [lg_entry_eq]
  generalize (lg_sl (([.ref (L.2.1 k0), .int x1] : List Value)) ++ List.replicate (2 - (lg_sl (([.ref (L.2.1 k0), .int x1] : List Value))).length) Slot.unset).toArray = ls at hl ⊢
  have hl : lv_has ls 2 [(0, .ref (L.2.1 k0)), (1, .int x1)] := hl
  unfold fn_X1_wrapped at hF
  refine lv_aload_n hx hb dX1_wrapped_0 rfl (lv_at hl 0 rfl) ?_
  obtain ⟨v1, ev1, hF⟩ := cp_bind hF
  refine cp_getI (T := TX1) (N := 14) (ci := 1) (j := 9) hx hb htT hinX1 hown hK hP rfl (by decide) rfl (htT _ tw_77) ev1 dX1_wrapped_1 ?_
  refine lv_if_le (tgt := 16) hx hb dX1_wrapped_4 (by decide) (fun hc2 => ?_) (fun hc2 => ?_)
  · rw [if_pos hc2] at hF
    refine lv_iconst (v := (0 : Int32)) hx hb dX1_wrapped_16 (by decide) ?_
    exact cp_iret hx hb hr hlocks hF hP hS dX1_wrapped_17
  · rw [if_neg hc2] at hF
    refine lv_iload_n hx hb dX1_wrapped_7 rfl (lv_at hl 1 rfl) ?_
    refine lv_aload_n hx hb dX1_wrapped_8 rfl (lv_at hl 0 rfl) ?_
    obtain ⟨v3, ev3, hF⟩ := cp_bind hF
    refine cp_getI (T := TX1) (N := 14) (ci := 1) (j := 9) hx hb htT hinX1 hown hK hP rfl (by decide) rfl (htT _ tw_77) ev3 dX1_wrapped_9 ?_
    obtain ⟨u4, eu4, hF⟩ := cp_bind hF
    refine lv_irem hx hb dX1_wrapped_12 (cp_nz_ne eu4) ?_
    refine lv_goto (tgt := 17) hx hb dX1_wrapped_13 (by decide) ?_
    exact cp_iret hx hb hr hlocks hF hP hS dX1_wrapped_17
theorem dX4_has_0 : decode cX4_has 0 = .ok (.iload_n 1, 1) := by decide +kernel
theorem dX4_has_1 : decode cX4_has 1 = .ok (.ifCond .lt 25, 3) := by decide +kernel
theorem dX4_has_4 : decode cX4_has 4 = .ok (.iload_n 1, 1) := by decide +kernel
theorem dX4_has_5 : decode cX4_has 5 = .ok (.bipush 16, 2) := by decide +kernel
theorem dX4_has_7 : decode cX4_has 7 = .ok (.if_icmp .ge 19, 3) := by decide +kernel
theorem dX4_has_10 : decode cX4_has 10 = .ok (.aload_n 0, 1) := by decide +kernel
theorem dX4_has_11 : decode cX4_has 11 = .ok (.getfield 11, 3) := by decide +kernel
theorem dX4_has_14 : decode cX4_has 14 = .ok (.iload_n 1, 1) := by decide +kernel
theorem dX4_has_15 : decode cX4_has 15 = .ok (.aaload, 1) := by decide +kernel
theorem dX4_has_16 : decode cX4_has 16 = .ok (.getfield 79, 3) := by decide +kernel
theorem dX4_has_19 : decode cX4_has 19 = .ok (.ifCond .eq 7, 3) := by decide +kernel
theorem dX4_has_22 : decode cX4_has 22 = .ok (.iconst 1, 1) := by decide +kernel
theorem dX4_has_23 : decode cX4_has 23 = .ok (.goto 4, 3) := by decide +kernel
theorem dX4_has_26 : decode cX4_has 26 = .ok (.iconst 0, 1) := by decide +kernel
theorem dX4_has_27 : decode cX4_has 27 = .ok (.ireturn, 1) := by decide +kernel
def fn_X4_has (L : cp_Lay) (q : Nat) (k0 : Nat) (x1 : Int32) (D : cp_Dt) : Option (Int32 × cp_Dt) :=
  if x1 < 0 then (some ((0 : Int32), D))
  else (if (16 : Int32) ≤ x1 then (some ((0 : Int32), D))
  else ((cp_gR L k0 4 4).bind fun r3 =>
  (cp_aR L r3 x1).bind fun r4 =>
  (cp_gI L D r4 1 3).bind fun v5 =>
  if v5 = 0 then (some ((0 : Int32), D))
  else (some ((1 : Int32), D))))
set_option maxHeartbeats 4000000 in
set_option maxRecDepth 100000 in
theorem ct_X4_has (l : Launch) (G : va_G) (L : cp_Lay) (hJ : cp_J L) (q : Nat) (k0 : Nat) (x1 : Int32) (D : cp_Dt) (res : Int32 × cp_Dt) (hF : fn_X4_has L q k0 x1 D = some res) : cp_Met l G yX4_has wsX4_has ({ frames := 0, cells := 0, slots := 0, locals := 0 }) L ([.ref (L.2.1 k0), .int x1] : List Value) D res.2 (some (.int res.1)) := by
  refine Met.ofW (cc := cX4_has) (maxL := 2) (ret := (some .boolean)) (by decide) rfl ?_
  intro p e s m args below meth c s₁ B hml hv
  obtain ⟨rfl, hP, hK, hN, hZ⟩ := hv
  have hx := B.exec
  have hb := B.bytes
  have hr := B.returns
  have hts := atoms_spec (ws := wsX4_has) B.pre
  have hown : s.vm.findClass "CreaturePond$Pond" = some m.cls := findClass_of_methodNamed B.named
  have hlocks := B.notSynchronized
  have hS : va_S (cp_A L) s.heap s.heap [] := va_S.rf
  have htT : ∀ w ∈ cp_T, w.before ([.ref (L.2.1 k0), .int x1] : List Value).toArray s = true := fun w h => hts w (List.mem_cons_of_mem _ h)
  have hl := lv_entry (([.ref (L.2.1 k0), .int x1] : List Value)) (n := 2) (Nat.le_of_ble_eq_true rfl)
  rw [lg_entry_eq]
  generalize (lg_sl (([.ref (L.2.1 k0), .int x1] : List Value)) ++ List.replicate (2 - (lg_sl (([.ref (L.2.1 k0), .int x1] : List Value))).length) Slot.unset).toArray = ls at hl ⊢
  have hl : lv_has ls 2 [(0, .ref (L.2.1 k0)), (1, .int x1)] := hl
  unfold fn_X4_has at hF
  refine lv_iload_n hx hb dX4_has_0 rfl (lv_at hl 1 rfl) ?_
  refine lv_if_lt (tgt := 26) hx hb dX4_has_1 (by decide) (fun hc1 => ?_) (fun hc1 => ?_)
  · rw [if_pos hc1] at hF
    refine lv_iconst (v := (0 : Int32)) hx hb dX4_has_26 (by decide) ?_
    exact cp_zret hx hb hr hlocks (by decide) hF hP hS dX4_has_27
  · rw [if_neg hc1] at hF
    refine lv_iload_n hx hb dX4_has_4 rfl (lv_at hl 1 rfl) ?_
    refine lv_bipush (v := (16 : Int32)) hx hb dX4_has_5 (by decide) ?_
    refine lv_icmp_ge (tgt := 26) hx hb dX4_has_7 (by decide) (fun hc2 => ?_) (fun hc2 => ?_)
    · rw [if_pos hc2] at hF
      refine lv_iconst (v := (0 : Int32)) hx hb dX4_has_26 (by decide) ?_
      exact cp_zret hx hb hr hlocks (by decide) hF hP hS dX4_has_27
    · rw [if_neg hc2] at hF
      refine lv_aload_n hx hb dX4_has_10 rfl (lv_at hl 0 rfl) ?_
      obtain ⟨r3, er3, hF⟩ := cp_bind hF
      refine cp_getR (T := TX4) (N := 12) (ci := 4) (j := 4) hx hb htT hinX4 hown hK hP rfl (by decide) rfl (htT _ tw_101) er3 dX4_has_11 ?_
      refine lv_iload_n hx hb dX4_has_14 rfl (lv_at hl 1 rfl) ?_
      obtain ⟨r4, er4, hF⟩ := cp_bind hF
      refine cp_aald hx hb hK hP er4 dX4_has_15 ?_
      obtain ⟨v5, ev5, hF⟩ := cp_bind hF
      refine cp_getIN (T := TX1) (N := 14) (ci := 1) (j := 3) hx hb htT hinX1 hown hK hP rfl (by decide) rfl (hN _ (List.mem_of_getElem? (i := 13) rfl)) ev5 dX4_has_16 ?_
      refine lv_if_eq (tgt := 26) hx hb dX4_has_19 (by decide) (fun hc6 => ?_) (fun hc6 => ?_)
      · rw [if_pos hc6] at hF
        refine lv_iconst (v := (0 : Int32)) hx hb dX4_has_26 (by decide) ?_
        exact cp_zret hx hb hr hlocks (by decide) hF hP hS dX4_has_27
      · rw [if_neg hc6] at hF
        refine lv_iconst (v := (1 : Int32)) hx hb dX4_has_22 (by decide) ?_
        refine lv_goto (tgt := 27) hx hb dX4_has_23 (by decide) ?_
        exact cp_zret hx hb hr hlocks (by decide) hF hP hS dX4_has_27
theorem dX4_energyOfAll_0 : decode cX4_energyOfAll 0 = .ok (.iconst 0, 1) := by decide +kernel
theorem dX4_energyOfAll_1 : decode cX4_energyOfAll 1 = .ok (.istore_n 1, 1) := by decide +kernel
theorem dX4_energyOfAll_2 : decode cX4_energyOfAll 2 = .ok (.iconst 0, 1) := by decide +kernel
theorem dX4_energyOfAll_3 : decode cX4_energyOfAll 3 = .ok (.istore_n 2, 1) := by decide +kernel
theorem dX4_energyOfAll_4 : decode cX4_energyOfAll 4 = .ok (.iload_n 2, 1) := by decide +kernel
theorem dX4_energyOfAll_5 : decode cX4_energyOfAll 5 = .ok (.bipush 16, 2) := by decide +kernel
theorem dX4_energyOfAll_7 : decode cX4_energyOfAll 7 = .ok (.if_icmp .ge 37, 3) := by decide +kernel
theorem dX4_energyOfAll_10 : decode cX4_energyOfAll 10 = .ok (.iload_n 1, 1) := by decide +kernel
theorem dX4_energyOfAll_11 : decode cX4_energyOfAll 11 = .ok (.aload_n 0, 1) := by decide +kernel
theorem dX4_energyOfAll_12 : decode cX4_energyOfAll 12 = .ok (.getfield 11, 3) := by decide +kernel
theorem dX4_energyOfAll_15 : decode cX4_energyOfAll 15 = .ok (.iload_n 2, 1) := by decide +kernel
theorem dX4_energyOfAll_16 : decode cX4_energyOfAll 16 = .ok (.aaload, 1) := by decide +kernel
theorem dX4_energyOfAll_17 : decode cX4_energyOfAll 17 = .ok (.getfield 79, 3) := by decide +kernel
theorem dX4_energyOfAll_20 : decode cX4_energyOfAll 20 = .ok (.ifCond .eq 15, 3) := by decide +kernel
theorem dX4_energyOfAll_23 : decode cX4_energyOfAll 23 = .ok (.aload_n 0, 1) := by decide +kernel
theorem dX4_energyOfAll_24 : decode cX4_energyOfAll 24 = .ok (.getfield 11, 3) := by decide +kernel
theorem dX4_energyOfAll_27 : decode cX4_energyOfAll 27 = .ok (.iload_n 2, 1) := by decide +kernel
theorem dX4_energyOfAll_28 : decode cX4_energyOfAll 28 = .ok (.aaload, 1) := by decide +kernel
theorem dX4_energyOfAll_29 : decode cX4_energyOfAll 29 = .ok (.getfield 83, 3) := by decide +kernel
theorem dX4_energyOfAll_32 : decode cX4_energyOfAll 32 = .ok (.goto 4, 3) := by decide +kernel
theorem dX4_energyOfAll_35 : decode cX4_energyOfAll 35 = .ok (.iconst 0, 1) := by decide +kernel
theorem dX4_energyOfAll_36 : decode cX4_energyOfAll 36 = .ok (.iadd, 1) := by decide +kernel
theorem dX4_energyOfAll_37 : decode cX4_energyOfAll 37 = .ok (.istore_n 1, 1) := by decide +kernel
theorem dX4_energyOfAll_38 : decode cX4_energyOfAll 38 = .ok (.iinc 2 1, 3) := by decide +kernel
theorem dX4_energyOfAll_41 : decode cX4_energyOfAll 41 = .ok (.goto (-37), 3) := by decide +kernel
theorem dX4_energyOfAll_44 : decode cX4_energyOfAll 44 = .ok (.iload_n 1, 1) := by decide +kernel
theorem dX4_energyOfAll_45 : decode cX4_energyOfAll 45 = .ok (.ireturn, 1) := by decide +kernel
def fn_X4_energyOfAll_L4 (L : cp_Lay) (q : Nat) : Nat → Nat → Int32 → Int32 → cp_Dt → Option (Int32 × cp_Dt)
  | 0, _, _, _, _ => none
  | n + 1, a0, i1, i2, D =>
    if (16 : Int32) ≤ i2 then (some (i1, D))
    else ((cp_gR L a0 4 4).bind fun r2 =>
    (cp_aR L r2 i2).bind fun r3 =>
    (cp_gI L D r3 1 3).bind fun v4 =>
    if v4 = 0 then (fn_X4_energyOfAll_L4 L q n a0 (i1 + (0 : Int32)) (i2 + 1) D)
    else ((cp_gR L a0 4 4).bind fun r6 =>
    (cp_aR L r6 i2).bind fun r7 =>
    (cp_gI L D r7 1 7).bind fun v8 =>
    fn_X4_energyOfAll_L4 L q n a0 (i1 + v8) (i2 + 1) D))
def fn_X4_energyOfAll (L : cp_Lay) (q : Nat) (k0 : Nat) (D : cp_Dt) : Option (Int32 × cp_Dt) :=
  fn_X4_energyOfAll_L4 L q q k0 (0 : Int32) (0 : Int32) D
set_option maxHeartbeats 4000000 in
set_option maxRecDepth 100000 in
theorem ct_X4_energyOfAll (l : Launch) (G : va_G) (L : cp_Lay) (hJ : cp_J L) (q : Nat) (k0 : Nat) (D : cp_Dt) (res : Int32 × cp_Dt) (hF : fn_X4_energyOfAll L q k0 D = some res) : cp_Met l G yX4_energyOfAll wsX4_energyOfAll ({ frames := 0, cells := 0, slots := 0, locals := 0 }) L ([.ref (L.2.1 k0)] : List Value) D res.2 (some (.int res.1)) := by
  refine Met.ofW (cc := cX4_energyOfAll) (maxL := 3) (ret := (some .int)) (by decide) rfl ?_
  intro p e s m args below meth c s₁ B hml hv
  obtain ⟨rfl, hP, hK, hN, hZ⟩ := hv
  have hx := B.exec
  have hb := B.bytes
  have hr := B.returns
  have hts := atoms_spec (ws := wsX4_energyOfAll) B.pre
  have hown : s.vm.findClass "CreaturePond$Pond" = some m.cls := findClass_of_methodNamed B.named
  have hlocks := B.notSynchronized
  have hS : va_S (cp_A L) s.heap s.heap [] := va_S.rf
  have htT : ∀ w ∈ cp_T, w.before ([.ref (L.2.1 k0)] : List Value).toArray s = true := fun w h => hts w (List.mem_cons_of_mem _ h)
  have hl := lv_entry (([.ref (L.2.1 k0)] : List Value)) (n := 3) (Nat.le_of_ble_eq_true rfl)
  rw [lg_entry_eq]
  generalize (lg_sl (([.ref (L.2.1 k0)] : List Value)) ++ List.replicate (3 - (lg_sl (([.ref (L.2.1 k0)] : List Value))).length) Slot.unset).toArray = ls at hl ⊢
  have hl : lv_has ls 3 [(0, .ref (L.2.1 k0))] := hl
  have hL4 : ∀ (n : Nat) (a0 : Nat) (i1 : Int32) (i2 : Int32) (D : cp_Dt) (H : Heap) (locs : List Loc) (ls : Array Slot), fn_X4_energyOfAll_L4 L q n a0 i1 i2 D = some res → va_P G vwCl (cp_ws L D) H → va_S (cp_A L) s.heap H locs → lv_has ls 3 [(0, .ref (L.2.1 a0)), (1, .int i1), (2, .int i2)] → W p l e (headSpec wsX4_energyOfAll ({ frames := 0, cells := 0, slots := 0, locals := 0 })).room s m ([.ref (L.2.1 k0)] : List Value).toArray below meth c H locs 0 0 (MQ below (cp_Q G L res.2 (some (.int res.1))) ([.ref (L.2.1 k0)] : List Value).toArray s 0 0 (cp_A L)) (F0 m 4 ls []) := by
    intro n
    induction n with
    | zero =>
      intro a0 i1 i2 D H locs ls hF
      cases hF
    | succ n ih =>
      intro a0 i1 i2 D H locs ls hF hP hS hl
      unfold fn_X4_energyOfAll_L4 at hF
      refine lv_iload_n hx hb dX4_energyOfAll_4 rfl (lv_at hl 2 rfl) ?_
      refine lv_bipush (v := (16 : Int32)) hx hb dX4_energyOfAll_5 (by decide) ?_
      refine lv_icmp_ge (tgt := 44) hx hb dX4_energyOfAll_7 (by decide) (fun hc1 => ?_) (fun hc1 => ?_)
      · rw [if_pos hc1] at hF
        refine lv_iload_n hx hb dX4_energyOfAll_44 rfl (lv_at hl 1 rfl) ?_
        exact cp_iret hx hb hr hlocks hF hP hS dX4_energyOfAll_45
      · rw [if_neg hc1] at hF
        refine lv_iload_n hx hb dX4_energyOfAll_10 rfl (lv_at hl 1 rfl) ?_
        refine lv_aload_n hx hb dX4_energyOfAll_11 rfl (lv_at hl 0 rfl) ?_
        obtain ⟨r2, er2, hF⟩ := cp_bind hF
        refine cp_getR (T := TX4) (N := 12) (ci := 4) (j := 4) hx hb htT hinX4 hown hK hP rfl (by decide) rfl (htT _ tw_101) er2 dX4_energyOfAll_12 ?_
        refine lv_iload_n hx hb dX4_energyOfAll_15 rfl (lv_at hl 2 rfl) ?_
        obtain ⟨r3, er3, hF⟩ := cp_bind hF
        refine cp_aald hx hb hK hP er3 dX4_energyOfAll_16 ?_
        obtain ⟨v4, ev4, hF⟩ := cp_bind hF
        refine cp_getIN (T := TX1) (N := 14) (ci := 1) (j := 3) hx hb htT hinX1 hown hK hP rfl (by decide) rfl (hN _ (List.mem_of_getElem? (i := 13) rfl)) ev4 dX4_energyOfAll_17 ?_
        refine lv_if_eq (tgt := 35) hx hb dX4_energyOfAll_20 (by decide) (fun hc5 => ?_) (fun hc5 => ?_)
        · rw [if_pos hc5] at hF
          refine lv_iconst (v := (0 : Int32)) hx hb dX4_energyOfAll_35 (by decide) ?_
          refine lv_iadd hx hb dX4_energyOfAll_36 ?_
          refine lv_istore_n (lv' := [(1, .int (i1 + (0 : Int32))), (0, .ref (L.2.1 a0)), (2, .int i2)]) hx hb dX4_energyOfAll_37 rfl hl (by decide) rfl (fun ls hl => ?_)
          refine lv_iinc (k := 2) (v := (i2 + 1)) (lv' := [(2, .int (i2 + 1)), (1, .int (i1 + (0 : Int32))), (0, .ref (L.2.1 a0))]) hx hb dX4_energyOfAll_38 hl rfl (congrArg (fun z => i2 + z) (by decide)) (by decide) rfl (fun ls hl => ?_)
          refine lv_goto (tgt := 4) hx hb dX4_energyOfAll_41 (by decide) ?_
          exact ih a0 (i1 + (0 : Int32)) (i2 + 1) D _ _ _ hF hP hS (lv_sub hl [2, 1, 0] rfl)
        · rw [if_neg hc5] at hF
          refine lv_aload_n hx hb dX4_energyOfAll_23 rfl (lv_at hl 0 rfl) ?_
          obtain ⟨r6, er6, hF⟩ := cp_bind hF
          refine cp_getR (T := TX4) (N := 12) (ci := 4) (j := 4) hx hb htT hinX4 hown hK hP rfl (by decide) rfl (htT _ tw_101) er6 dX4_energyOfAll_24 ?_
          refine lv_iload_n hx hb dX4_energyOfAll_27 rfl (lv_at hl 2 rfl) ?_
          obtain ⟨r7, er7, hF⟩ := cp_bind hF
          refine cp_aald hx hb hK hP er7 dX4_energyOfAll_28 ?_
          obtain ⟨v8, ev8, hF⟩ := cp_bind hF
          refine cp_getIN (T := TX1) (N := 14) (ci := 1) (j := 7) hx hb htT hinX1 hown hK hP rfl (by decide) rfl (hN _ (List.mem_of_getElem? (i := 25) rfl)) ev8 dX4_energyOfAll_29 ?_
          refine lv_goto (tgt := 36) hx hb dX4_energyOfAll_32 (by decide) ?_
          refine lv_iadd hx hb dX4_energyOfAll_36 ?_
          refine lv_istore_n (lv' := [(1, .int (i1 + v8)), (0, .ref (L.2.1 a0)), (2, .int i2)]) hx hb dX4_energyOfAll_37 rfl hl (by decide) rfl (fun ls hl => ?_)
          refine lv_iinc (k := 2) (v := (i2 + 1)) (lv' := [(2, .int (i2 + 1)), (1, .int (i1 + v8)), (0, .ref (L.2.1 a0))]) hx hb dX4_energyOfAll_38 hl rfl (congrArg (fun z => i2 + z) (by decide)) (by decide) rfl (fun ls hl => ?_)
          refine lv_goto (tgt := 4) hx hb dX4_energyOfAll_41 (by decide) ?_
          exact ih a0 (i1 + v8) (i2 + 1) D _ _ _ hF hP hS (lv_sub hl [2, 1, 0] rfl)
  unfold fn_X4_energyOfAll at hF
  refine lv_iconst (v := (0 : Int32)) hx hb dX4_energyOfAll_0 (by decide) ?_
  refine lv_istore_n (lv' := [(1, .int (0 : Int32)), (0, .ref (L.2.1 k0))]) hx hb dX4_energyOfAll_1 rfl hl (by decide) rfl (fun ls hl => ?_)
  refine lv_iconst (v := (0 : Int32)) hx hb dX4_energyOfAll_2 (by decide) ?_
  refine lv_istore_n (lv' := [(2, .int (0 : Int32)), (1, .int (0 : Int32)), (0, .ref (L.2.1 k0))]) hx hb dX4_energyOfAll_3 rfl hl (by decide) rfl (fun ls hl => ?_)
  exact hL4 q k0 (0 : Int32) (0 : Int32) D _ _ _ hF hP hS (lv_sub hl [2, 1, 0] rfl)
theorem dX4_grainOfAll_0 : decode cX4_grainOfAll 0 = .ok (.iconst 0, 1) := by decide +kernel
theorem dX4_grainOfAll_1 : decode cX4_grainOfAll 1 = .ok (.istore_n 1, 1) := by decide +kernel
theorem dX4_grainOfAll_2 : decode cX4_grainOfAll 2 = .ok (.aload_n 0, 1) := by decide +kernel
theorem dX4_grainOfAll_3 : decode cX4_grainOfAll 3 = .ok (.getfield 27, 3) := by decide +kernel
theorem dX4_grainOfAll_6 : decode cX4_grainOfAll 6 = .ok (.astore_n 2, 1) := by decide +kernel
theorem dX4_grainOfAll_7 : decode cX4_grainOfAll 7 = .ok (.aload_n 2, 1) := by decide +kernel
theorem dX4_grainOfAll_8 : decode cX4_grainOfAll 8 = .ok (.arraylength, 1) := by decide +kernel
theorem dX4_grainOfAll_9 : decode cX4_grainOfAll 9 = .ok (.istore_n 3, 1) := by decide +kernel
theorem dX4_grainOfAll_10 : decode cX4_grainOfAll 10 = .ok (.iconst 0, 1) := by decide +kernel
theorem dX4_grainOfAll_11 : decode cX4_grainOfAll 11 = .ok (.istore 4, 2) := by decide +kernel
theorem dX4_grainOfAll_13 : decode cX4_grainOfAll 13 = .ok (.iload 4, 2) := by decide +kernel
theorem dX4_grainOfAll_15 : decode cX4_grainOfAll 15 = .ok (.iload_n 3, 1) := by decide +kernel
theorem dX4_grainOfAll_16 : decode cX4_grainOfAll 16 = .ok (.if_icmp .ge 20, 3) := by decide +kernel
theorem dX4_grainOfAll_19 : decode cX4_grainOfAll 19 = .ok (.aload_n 2, 1) := by decide +kernel
theorem dX4_grainOfAll_20 : decode cX4_grainOfAll 20 = .ok (.iload 4, 2) := by decide +kernel
theorem dX4_grainOfAll_22 : decode cX4_grainOfAll 22 = .ok (.iaload, 1) := by decide +kernel
theorem dX4_grainOfAll_23 : decode cX4_grainOfAll 23 = .ok (.istore 5, 2) := by decide +kernel
theorem dX4_grainOfAll_25 : decode cX4_grainOfAll 25 = .ok (.iload_n 1, 1) := by decide +kernel
theorem dX4_grainOfAll_26 : decode cX4_grainOfAll 26 = .ok (.iload 5, 2) := by decide +kernel
theorem dX4_grainOfAll_28 : decode cX4_grainOfAll 28 = .ok (.iadd, 1) := by decide +kernel
theorem dX4_grainOfAll_29 : decode cX4_grainOfAll 29 = .ok (.istore_n 1, 1) := by decide +kernel
theorem dX4_grainOfAll_30 : decode cX4_grainOfAll 30 = .ok (.iinc 4 1, 3) := by decide +kernel
theorem dX4_grainOfAll_33 : decode cX4_grainOfAll 33 = .ok (.goto (-20), 3) := by decide +kernel
theorem dX4_grainOfAll_36 : decode cX4_grainOfAll 36 = .ok (.iload_n 1, 1) := by decide +kernel
theorem dX4_grainOfAll_37 : decode cX4_grainOfAll 37 = .ok (.ireturn, 1) := by decide +kernel
def fn_X4_grainOfAll_L13 (L : cp_Lay) (q : Nat) : Nat → Nat → Int32 → Nat → Int32 → Int32 → cp_Dt → Option (Int32 × cp_Dt)
  | 0, _, _, _, _, _, _ => none
  | n + 1, a0, i1, a2, i3, i4, D =>
    if i3 ≤ i4 then (some (i1, D))
    else ((cp_aI L D 0 a2 i4).bind fun v4 =>
    fn_X4_grainOfAll_L13 L q n a0 (i1 + v4) a2 i3 (i4 + 1) D)
def fn_X4_grainOfAll (L : cp_Lay) (q : Nat) (k0 : Nat) (D : cp_Dt) : Option (Int32 × cp_Dt) :=
  (cp_gR L k0 4 1).bind fun r1 =>
  (cp_aL L 0 r1).bind fun v2 =>
  fn_X4_grainOfAll_L13 L q q k0 (0 : Int32) r1 v2 (0 : Int32) D
set_option maxHeartbeats 4000000 in
set_option maxRecDepth 100000 in
theorem ct_X4_grainOfAll (l : Launch) (G : va_G) (L : cp_Lay) (hJ : cp_J L) (q : Nat) (k0 : Nat) (D : cp_Dt) (res : Int32 × cp_Dt) (hF : fn_X4_grainOfAll L q k0 D = some res) : cp_Met l G yX4_grainOfAll wsX4_grainOfAll ({ frames := 0, cells := 0, slots := 0, locals := 0 }) L ([.ref (L.2.1 k0)] : List Value) D res.2 (some (.int res.1)) := by
  refine Met.ofW (cc := cX4_grainOfAll) (maxL := 6) (ret := (some .int)) (by decide) rfl ?_
  intro p e s m args below meth c s₁ B hml hv
  obtain ⟨rfl, hP, hK, hN, hZ⟩ := hv
  have hx := B.exec
  have hb := B.bytes
  have hr := B.returns
  have hts := atoms_spec (ws := wsX4_grainOfAll) B.pre
  have hown : s.vm.findClass "CreaturePond$Pond" = some m.cls := findClass_of_methodNamed B.named
  have hlocks := B.notSynchronized
  have hS : va_S (cp_A L) s.heap s.heap [] := va_S.rf
  have htT : ∀ w ∈ cp_T, w.before ([.ref (L.2.1 k0)] : List Value).toArray s = true := fun w h => hts w (List.mem_cons_of_mem _ h)
  have hl := lv_entry (([.ref (L.2.1 k0)] : List Value)) (n := 6) (Nat.le_of_ble_eq_true rfl)
  rw [lg_entry_eq]
  generalize (lg_sl (([.ref (L.2.1 k0)] : List Value)) ++ List.replicate (6 - (lg_sl (([.ref (L.2.1 k0)] : List Value))).length) Slot.unset).toArray = ls at hl ⊢
  have hl : lv_has ls 6 [(0, .ref (L.2.1 k0))] := hl
  have hL13 : ∀ (n : Nat) (a0 : Nat) (i1 : Int32) (a2 : Nat) (i3 : Int32) (i4 : Int32) (D : cp_Dt) (H : Heap) (locs : List Loc) (ls : Array Slot), fn_X4_grainOfAll_L13 L q n a0 i1 a2 i3 i4 D = some res → va_P G vwCl (cp_ws L D) H → va_S (cp_A L) s.heap H locs → lv_has ls 6 [(0, .ref (L.2.1 a0)), (1, .int i1), (2, .ref (L.2.1 a2)), (3, .int i3), (4, .int i4)] → W p l e (headSpec wsX4_grainOfAll ({ frames := 0, cells := 0, slots := 0, locals := 0 })).room s m ([.ref (L.2.1 k0)] : List Value).toArray below meth c H locs 0 0 (MQ below (cp_Q G L res.2 (some (.int res.1))) ([.ref (L.2.1 k0)] : List Value).toArray s 0 0 (cp_A L)) (F0 m 13 ls []) := by
    intro n
    induction n with
    | zero =>
      intro a0 i1 a2 i3 i4 D H locs ls hF
      cases hF
    | succ n ih =>
      intro a0 i1 a2 i3 i4 D H locs ls hF hP hS hl
      unfold fn_X4_grainOfAll_L13 at hF
      refine lv_iload hx hb dX4_grainOfAll_13 (lv_at hl 4 rfl) ?_
      refine lv_iload_n hx hb dX4_grainOfAll_15 rfl (lv_at hl 3 rfl) ?_
      refine lv_icmp_ge (tgt := 36) hx hb dX4_grainOfAll_16 (by decide) (fun hc3 => ?_) (fun hc3 => ?_)
      · rw [if_pos hc3] at hF
        refine lv_iload_n hx hb dX4_grainOfAll_36 rfl (lv_at hl 1 rfl) ?_
        exact cp_iret hx hb hr hlocks hF hP hS dX4_grainOfAll_37
      · rw [if_neg hc3] at hF
        refine lv_aload_n hx hb dX4_grainOfAll_19 rfl (lv_at hl 2 rfl) ?_
        refine lv_iload hx hb dX4_grainOfAll_20 (lv_at hl 4 rfl) ?_
        obtain ⟨v4, ev4, hF⟩ := cp_bind hF
        refine cp_iald hx hb hK hP ev4 dX4_grainOfAll_22 ?_
        refine lv_istore (lv' := [(5, .int v4), (0, .ref (L.2.1 a0)), (1, .int i1), (2, .ref (L.2.1 a2)), (3, .int i3), (4, .int i4)]) hx hb dX4_grainOfAll_23 hl (by decide) rfl (fun ls hl => ?_)
        refine lv_iload_n hx hb dX4_grainOfAll_25 rfl (lv_at hl 2 rfl) ?_
        refine lv_iload hx hb dX4_grainOfAll_26 (lv_at hl 0 rfl) ?_
        refine lv_iadd hx hb dX4_grainOfAll_28 ?_
        refine lv_istore_n (lv' := [(1, .int (i1 + v4)), (5, .int v4), (0, .ref (L.2.1 a0)), (2, .ref (L.2.1 a2)), (3, .int i3), (4, .int i4)]) hx hb dX4_grainOfAll_29 rfl hl (by decide) rfl (fun ls hl => ?_)
        refine lv_iinc (k := 5) (v := (i4 + 1)) (lv' := [(4, .int (i4 + 1)), (1, .int (i1 + v4)), (5, .int v4), (0, .ref (L.2.1 a0)), (2, .ref (L.2.1 a2)), (3, .int i3)]) hx hb dX4_grainOfAll_30 hl rfl (congrArg (fun z => i4 + z) (by decide)) (by decide) rfl (fun ls hl => ?_)
        refine lv_goto (tgt := 13) hx hb dX4_grainOfAll_33 (by decide) ?_
        exact ih a0 (i1 + v4) a2 i3 (i4 + 1) D _ _ _ hF hP hS (lv_sub hl [3, 1, 4, 5, 0] rfl)
  unfold fn_X4_grainOfAll at hF
  refine lv_iconst (v := (0 : Int32)) hx hb dX4_grainOfAll_0 (by decide) ?_
  refine lv_istore_n (lv' := [(1, .int (0 : Int32)), (0, .ref (L.2.1 k0))]) hx hb dX4_grainOfAll_1 rfl hl (by decide) rfl (fun ls hl => ?_)
  refine lv_aload_n hx hb dX4_grainOfAll_2 rfl (lv_at hl 1 rfl) ?_
  obtain ⟨r1, er1, hF⟩ := cp_bind hF
  refine cp_getR (T := TX4) (N := 12) (ci := 4) (j := 1) hx hb htT hinX4 hown hK hP rfl (by decide) rfl (htT _ tw_98) er1 dX4_grainOfAll_3 ?_
  refine lv_astore_n (lv' := [(2, .ref (L.2.1 r1)), (1, .int (0 : Int32)), (0, .ref (L.2.1 k0))]) hx hb dX4_grainOfAll_6 rfl hl (by decide) rfl (fun ls hl => ?_)
  refine lv_aload_n hx hb dX4_grainOfAll_7 rfl (lv_at hl 0 rfl) ?_
  obtain ⟨v2, ev2, hF⟩ := cp_bind hF
  refine cp_alen0 hx hb hK hP ev2 dX4_grainOfAll_8 ?_
  refine lv_istore_n (lv' := [(3, .int v2), (2, .ref (L.2.1 r1)), (1, .int (0 : Int32)), (0, .ref (L.2.1 k0))]) hx hb dX4_grainOfAll_9 rfl hl (by decide) rfl (fun ls hl => ?_)
  refine lv_iconst (v := (0 : Int32)) hx hb dX4_grainOfAll_10 (by decide) ?_
  refine lv_istore (lv' := [(4, .int (0 : Int32)), (3, .int v2), (2, .ref (L.2.1 r1)), (1, .int (0 : Int32)), (0, .ref (L.2.1 k0))]) hx hb dX4_grainOfAll_11 hl (by decide) rfl (fun ls hl => ?_)
  exact hL13 q k0 (0 : Int32) r1 v2 (0 : Int32) D _ _ _ hF hP hS (lv_sub hl [4, 3, 2, 1, 0] rfl)
theorem dX4_countAnimals_0 : decode cX4_countAnimals 0 = .ok (.iconst 0, 1) := by decide +kernel
theorem dX4_countAnimals_1 : decode cX4_countAnimals 1 = .ok (.istore_n 1, 1) := by decide +kernel
theorem dX4_countAnimals_2 : decode cX4_countAnimals 2 = .ok (.iconst 0, 1) := by decide +kernel
theorem dX4_countAnimals_3 : decode cX4_countAnimals 3 = .ok (.istore_n 2, 1) := by decide +kernel
theorem dX4_countAnimals_4 : decode cX4_countAnimals 4 = .ok (.iload_n 2, 1) := by decide +kernel
theorem dX4_countAnimals_5 : decode cX4_countAnimals 5 = .ok (.bipush 16, 2) := by decide +kernel
theorem dX4_countAnimals_7 : decode cX4_countAnimals 7 = .ok (.if_icmp .ge 29, 3) := by decide +kernel
theorem dX4_countAnimals_10 : decode cX4_countAnimals 10 = .ok (.iload_n 1, 1) := by decide +kernel
theorem dX4_countAnimals_11 : decode cX4_countAnimals 11 = .ok (.aload_n 0, 1) := by decide +kernel
theorem dX4_countAnimals_12 : decode cX4_countAnimals 12 = .ok (.getfield 11, 3) := by decide +kernel
theorem dX4_countAnimals_15 : decode cX4_countAnimals 15 = .ok (.iload_n 2, 1) := by decide +kernel
theorem dX4_countAnimals_16 : decode cX4_countAnimals 16 = .ok (.aaload, 1) := by decide +kernel
theorem dX4_countAnimals_17 : decode cX4_countAnimals 17 = .ok (.getfield 79, 3) := by decide +kernel
theorem dX4_countAnimals_20 : decode cX4_countAnimals 20 = .ok (.ifCond .eq 7, 3) := by decide +kernel
theorem dX4_countAnimals_23 : decode cX4_countAnimals 23 = .ok (.iconst 1, 1) := by decide +kernel
theorem dX4_countAnimals_24 : decode cX4_countAnimals 24 = .ok (.goto 4, 3) := by decide +kernel
theorem dX4_countAnimals_27 : decode cX4_countAnimals 27 = .ok (.iconst 0, 1) := by decide +kernel
theorem dX4_countAnimals_28 : decode cX4_countAnimals 28 = .ok (.iadd, 1) := by decide +kernel
theorem dX4_countAnimals_29 : decode cX4_countAnimals 29 = .ok (.istore_n 1, 1) := by decide +kernel
theorem dX4_countAnimals_30 : decode cX4_countAnimals 30 = .ok (.iinc 2 1, 3) := by decide +kernel
theorem dX4_countAnimals_33 : decode cX4_countAnimals 33 = .ok (.goto (-29), 3) := by decide +kernel
theorem dX4_countAnimals_36 : decode cX4_countAnimals 36 = .ok (.iload_n 1, 1) := by decide +kernel
theorem dX4_countAnimals_37 : decode cX4_countAnimals 37 = .ok (.ireturn, 1) := by decide +kernel
def fn_X4_countAnimals_L4 (L : cp_Lay) (q : Nat) : Nat → Nat → Int32 → Int32 → cp_Dt → Option (Int32 × cp_Dt)
  | 0, _, _, _, _ => none
  | n + 1, a0, i1, i2, D =>
    if (16 : Int32) ≤ i2 then (some (i1, D))
    else ((cp_gR L a0 4 4).bind fun r2 =>
    (cp_aR L r2 i2).bind fun r3 =>
    (cp_gI L D r3 1 3).bind fun v4 =>
    if v4 = 0 then (fn_X4_countAnimals_L4 L q n a0 (i1 + (0 : Int32)) (i2 + 1) D)
    else (fn_X4_countAnimals_L4 L q n a0 (i1 + (1 : Int32)) (i2 + 1) D))
def fn_X4_countAnimals (L : cp_Lay) (q : Nat) (k0 : Nat) (D : cp_Dt) : Option (Int32 × cp_Dt) :=
  fn_X4_countAnimals_L4 L q q k0 (0 : Int32) (0 : Int32) D
set_option maxHeartbeats 4000000 in
set_option maxRecDepth 100000 in
theorem ct_X4_countAnimals (l : Launch) (G : va_G) (L : cp_Lay) (hJ : cp_J L) (q : Nat) (k0 : Nat) (D : cp_Dt) (res : Int32 × cp_Dt) (hF : fn_X4_countAnimals L q k0 D = some res) : cp_Met l G yX4_countAnimals wsX4_countAnimals ({ frames := 0, cells := 0, slots := 0, locals := 0 }) L ([.ref (L.2.1 k0)] : List Value) D res.2 (some (.int res.1)) := by
  refine Met.ofW (cc := cX4_countAnimals) (maxL := 3) (ret := (some .int)) (by decide) rfl ?_
  intro p e s m args below meth c s₁ B hml hv
  obtain ⟨rfl, hP, hK, hN, hZ⟩ := hv
  have hx := B.exec
  have hb := B.bytes
  have hr := B.returns
  have hts := atoms_spec (ws := wsX4_countAnimals) B.pre
  have hown : s.vm.findClass "CreaturePond$Pond" = some m.cls := findClass_of_methodNamed B.named
  have hlocks := B.notSynchronized
  have hS : va_S (cp_A L) s.heap s.heap [] := va_S.rf
  have htT : ∀ w ∈ cp_T, w.before ([.ref (L.2.1 k0)] : List Value).toArray s = true := fun w h => hts w (List.mem_cons_of_mem _ h)
  have hl := lv_entry (([.ref (L.2.1 k0)] : List Value)) (n := 3) (Nat.le_of_ble_eq_true rfl)
  rw [lg_entry_eq]
  generalize (lg_sl (([.ref (L.2.1 k0)] : List Value)) ++ List.replicate (3 - (lg_sl (([.ref (L.2.1 k0)] : List Value))).length) Slot.unset).toArray = ls at hl ⊢
  have hl : lv_has ls 3 [(0, .ref (L.2.1 k0))] := hl
  have hL4 : ∀ (n : Nat) (a0 : Nat) (i1 : Int32) (i2 : Int32) (D : cp_Dt) (H : Heap) (locs : List Loc) (ls : Array Slot), fn_X4_countAnimals_L4 L q n a0 i1 i2 D = some res → va_P G vwCl (cp_ws L D) H → va_S (cp_A L) s.heap H locs → lv_has ls 3 [(0, .ref (L.2.1 a0)), (1, .int i1), (2, .int i2)] → W p l e (headSpec wsX4_countAnimals ({ frames := 0, cells := 0, slots := 0, locals := 0 })).room s m ([.ref (L.2.1 k0)] : List Value).toArray below meth c H locs 0 0 (MQ below (cp_Q G L res.2 (some (.int res.1))) ([.ref (L.2.1 k0)] : List Value).toArray s 0 0 (cp_A L)) (F0 m 4 ls []) := by
    intro n
    induction n with
    | zero =>
      intro a0 i1 i2 D H locs ls hF
      cases hF
    | succ n ih =>
      intro a0 i1 i2 D H locs ls hF hP hS hl
      unfold fn_X4_countAnimals_L4 at hF
      refine lv_iload_n hx hb dX4_countAnimals_4 rfl (lv_at hl 2 rfl) ?_
      refine lv_bipush (v := (16 : Int32)) hx hb dX4_countAnimals_5 (by decide) ?_
      refine lv_icmp_ge (tgt := 36) hx hb dX4_countAnimals_7 (by decide) (fun hc1 => ?_) (fun hc1 => ?_)
      · rw [if_pos hc1] at hF
        refine lv_iload_n hx hb dX4_countAnimals_36 rfl (lv_at hl 1 rfl) ?_
        exact cp_iret hx hb hr hlocks hF hP hS dX4_countAnimals_37
      · rw [if_neg hc1] at hF
        refine lv_iload_n hx hb dX4_countAnimals_10 rfl (lv_at hl 1 rfl) ?_
        refine lv_aload_n hx hb dX4_countAnimals_11 rfl (lv_at hl 0 rfl) ?_
        obtain ⟨r2, er2, hF⟩ := cp_bind hF
        refine cp_getR (T := TX4) (N := 12) (ci := 4) (j := 4) hx hb htT hinX4 hown hK hP rfl (by decide) rfl (htT _ tw_101) er2 dX4_countAnimals_12 ?_
        refine lv_iload_n hx hb dX4_countAnimals_15 rfl (lv_at hl 2 rfl) ?_
        obtain ⟨r3, er3, hF⟩ := cp_bind hF
        refine cp_aald hx hb hK hP er3 dX4_countAnimals_16 ?_
        obtain ⟨v4, ev4, hF⟩ := cp_bind hF
        refine cp_getIN (T := TX1) (N := 14) (ci := 1) (j := 3) hx hb htT hinX1 hown hK hP rfl (by decide) rfl (hN _ (List.mem_of_getElem? (i := 13) rfl)) ev4 dX4_countAnimals_17 ?_
        refine lv_if_eq (tgt := 27) hx hb dX4_countAnimals_20 (by decide) (fun hc5 => ?_) (fun hc5 => ?_)
        · rw [if_pos hc5] at hF
          refine lv_iconst (v := (0 : Int32)) hx hb dX4_countAnimals_27 (by decide) ?_
          refine lv_iadd hx hb dX4_countAnimals_28 ?_
          refine lv_istore_n (lv' := [(1, .int (i1 + (0 : Int32))), (0, .ref (L.2.1 a0)), (2, .int i2)]) hx hb dX4_countAnimals_29 rfl hl (by decide) rfl (fun ls hl => ?_)
          refine lv_iinc (k := 2) (v := (i2 + 1)) (lv' := [(2, .int (i2 + 1)), (1, .int (i1 + (0 : Int32))), (0, .ref (L.2.1 a0))]) hx hb dX4_countAnimals_30 hl rfl (congrArg (fun z => i2 + z) (by decide)) (by decide) rfl (fun ls hl => ?_)
          refine lv_goto (tgt := 4) hx hb dX4_countAnimals_33 (by decide) ?_
          exact ih a0 (i1 + (0 : Int32)) (i2 + 1) D _ _ _ hF hP hS (lv_sub hl [2, 1, 0] rfl)
        · rw [if_neg hc5] at hF
          refine lv_iconst (v := (1 : Int32)) hx hb dX4_countAnimals_23 (by decide) ?_
          refine lv_goto (tgt := 28) hx hb dX4_countAnimals_24 (by decide) ?_
          refine lv_iadd hx hb dX4_countAnimals_28 ?_
          refine lv_istore_n (lv' := [(1, .int (i1 + (1 : Int32))), (0, .ref (L.2.1 a0)), (2, .int i2)]) hx hb dX4_countAnimals_29 rfl hl (by decide) rfl (fun ls hl => ?_)
          refine lv_iinc (k := 2) (v := (i2 + 1)) (lv' := [(2, .int (i2 + 1)), (1, .int (i1 + (1 : Int32))), (0, .ref (L.2.1 a0))]) hx hb dX4_countAnimals_30 hl rfl (congrArg (fun z => i2 + z) (by decide)) (by decide) rfl (fun ls hl => ?_)
          refine lv_goto (tgt := 4) hx hb dX4_countAnimals_33 (by decide) ?_
          exact ih a0 (i1 + (1 : Int32)) (i2 + 1) D _ _ _ hF hP hS (lv_sub hl [2, 1, 0] rfl)
  unfold fn_X4_countAnimals at hF
  refine lv_iconst (v := (0 : Int32)) hx hb dX4_countAnimals_0 (by decide) ?_
  refine lv_istore_n (lv' := [(1, .int (0 : Int32)), (0, .ref (L.2.1 k0))]) hx hb dX4_countAnimals_1 rfl hl (by decide) rfl (fun ls hl => ?_)
  refine lv_iconst (v := (0 : Int32)) hx hb dX4_countAnimals_2 (by decide) ?_
  refine lv_istore_n (lv' := [(2, .int (0 : Int32)), (1, .int (0 : Int32)), (0, .ref (L.2.1 k0))]) hx hb dX4_countAnimals_3 rfl hl (by decide) rfl (fun ls hl => ?_)
  exact hL4 q k0 (0 : Int32) (0 : Int32) D _ _ _ hF hP hS (lv_sub hl [2, 1, 0] rfl)
theorem dX4_copyFrom_0 : decode cX4_copyFrom 0 = .ok (.aload_n 1, 1) := by decide +kernel
theorem dX4_copyFrom_1 : decode cX4_copyFrom 1 = .ok (.getfield 27, 3) := by decide +kernel
theorem dX4_copyFrom_4 : decode cX4_copyFrom 4 = .ok (.iconst 0, 1) := by decide +kernel
theorem dX4_copyFrom_5 : decode cX4_copyFrom 5 = .ok (.aload_n 0, 1) := by decide +kernel
theorem dX4_copyFrom_6 : decode cX4_copyFrom 6 = .ok (.getfield 27, 3) := by decide +kernel
theorem dX4_copyFrom_9 : decode cX4_copyFrom 9 = .ok (.iconst 0, 1) := by decide +kernel
theorem dX4_copyFrom_10 : decode cX4_copyFrom 10 = .ok (.aload_n 0, 1) := by decide +kernel
theorem dX4_copyFrom_11 : decode cX4_copyFrom 11 = .ok (.getfield 17, 3) := by decide +kernel
theorem dX4_copyFrom_14 : decode cX4_copyFrom 14 = .ok (.getfield 21, 3) := by decide +kernel
theorem dX4_copyFrom_17 : decode cX4_copyFrom 17 = .ok (.invokestatic 39, 3) := by decide +kernel
theorem dX4_copyFrom_20 : decode cX4_copyFrom 20 = .ok (.aload_n 1, 1) := by decide +kernel
theorem dX4_copyFrom_21 : decode cX4_copyFrom 21 = .ok (.getfield 31, 3) := by decide +kernel
theorem dX4_copyFrom_24 : decode cX4_copyFrom 24 = .ok (.iconst 0, 1) := by decide +kernel
theorem dX4_copyFrom_25 : decode cX4_copyFrom 25 = .ok (.aload_n 0, 1) := by decide +kernel
theorem dX4_copyFrom_26 : decode cX4_copyFrom 26 = .ok (.getfield 31, 3) := by decide +kernel
theorem dX4_copyFrom_29 : decode cX4_copyFrom 29 = .ok (.iconst 0, 1) := by decide +kernel
theorem dX4_copyFrom_30 : decode cX4_copyFrom 30 = .ok (.aload_n 0, 1) := by decide +kernel
theorem dX4_copyFrom_31 : decode cX4_copyFrom 31 = .ok (.getfield 17, 3) := by decide +kernel
theorem dX4_copyFrom_34 : decode cX4_copyFrom 34 = .ok (.getfield 21, 3) := by decide +kernel
theorem dX4_copyFrom_37 : decode cX4_copyFrom 37 = .ok (.invokestatic 39, 3) := by decide +kernel
theorem dX4_copyFrom_40 : decode cX4_copyFrom 40 = .ok (.aload_n 1, 1) := by decide +kernel
theorem dX4_copyFrom_41 : decode cX4_copyFrom 41 = .ok (.getfield 35, 3) := by decide +kernel
theorem dX4_copyFrom_44 : decode cX4_copyFrom 44 = .ok (.iconst 0, 1) := by decide +kernel
theorem dX4_copyFrom_45 : decode cX4_copyFrom 45 = .ok (.aload_n 0, 1) := by decide +kernel
theorem dX4_copyFrom_46 : decode cX4_copyFrom 46 = .ok (.getfield 35, 3) := by decide +kernel
theorem dX4_copyFrom_49 : decode cX4_copyFrom 49 = .ok (.iconst 0, 1) := by decide +kernel
theorem dX4_copyFrom_50 : decode cX4_copyFrom 50 = .ok (.aload_n 0, 1) := by decide +kernel
theorem dX4_copyFrom_51 : decode cX4_copyFrom 51 = .ok (.getfield 17, 3) := by decide +kernel
theorem dX4_copyFrom_54 : decode cX4_copyFrom 54 = .ok (.getfield 21, 3) := by decide +kernel
theorem dX4_copyFrom_57 : decode cX4_copyFrom 57 = .ok (.invokestatic 39, 3) := by decide +kernel
theorem dX4_copyFrom_60 : decode cX4_copyFrom 60 = .ok (.iconst 0, 1) := by decide +kernel
theorem dX4_copyFrom_61 : decode cX4_copyFrom 61 = .ok (.istore_n 2, 1) := by decide +kernel
theorem dX4_copyFrom_62 : decode cX4_copyFrom 62 = .ok (.iload_n 2, 1) := by decide +kernel
theorem dX4_copyFrom_63 : decode cX4_copyFrom 63 = .ok (.bipush 16, 2) := by decide +kernel
theorem dX4_copyFrom_65 : decode cX4_copyFrom 65 = .ok (.if_icmp .ge 24, 3) := by decide +kernel
theorem dX4_copyFrom_68 : decode cX4_copyFrom 68 = .ok (.aload_n 0, 1) := by decide +kernel
theorem dX4_copyFrom_69 : decode cX4_copyFrom 69 = .ok (.getfield 11, 3) := by decide +kernel
theorem dX4_copyFrom_72 : decode cX4_copyFrom 72 = .ok (.iload_n 2, 1) := by decide +kernel
theorem dX4_copyFrom_73 : decode cX4_copyFrom 73 = .ok (.aaload, 1) := by decide +kernel
theorem dX4_copyFrom_74 : decode cX4_copyFrom 74 = .ok (.aload_n 1, 1) := by decide +kernel
theorem dX4_copyFrom_75 : decode cX4_copyFrom 75 = .ok (.getfield 11, 3) := by decide +kernel
theorem dX4_copyFrom_78 : decode cX4_copyFrom 78 = .ok (.iload_n 2, 1) := by decide +kernel
theorem dX4_copyFrom_79 : decode cX4_copyFrom 79 = .ok (.aaload, 1) := by decide +kernel
theorem dX4_copyFrom_80 : decode cX4_copyFrom 80 = .ok (.invokevirtual 45, 3) := by decide +kernel
theorem dX4_copyFrom_83 : decode cX4_copyFrom 83 = .ok (.iinc 2 1, 3) := by decide +kernel
theorem dX4_copyFrom_86 : decode cX4_copyFrom 86 = .ok (.goto (-24), 3) := by decide +kernel
theorem dX4_copyFrom_89 : decode cX4_copyFrom 89 = .ok (.aload_n 0, 1) := by decide +kernel
theorem dX4_copyFrom_90 : decode cX4_copyFrom 90 = .ok (.aload_n 1, 1) := by decide +kernel
theorem dX4_copyFrom_91 : decode cX4_copyFrom 91 = .ok (.getfield 49, 3) := by decide +kernel
theorem dX4_copyFrom_94 : decode cX4_copyFrom 94 = .ok (.putfield 49, 3) := by decide +kernel
theorem dX4_copyFrom_97 : decode cX4_copyFrom 97 = .ok (.aload_n 0, 1) := by decide +kernel
theorem dX4_copyFrom_98 : decode cX4_copyFrom 98 = .ok (.aload_n 1, 1) := by decide +kernel
theorem dX4_copyFrom_99 : decode cX4_copyFrom 99 = .ok (.getfield 52, 3) := by decide +kernel
theorem dX4_copyFrom_102 : decode cX4_copyFrom 102 = .ok (.putfield 52, 3) := by decide +kernel
theorem dX4_copyFrom_105 : decode cX4_copyFrom 105 = .ok (.aload_n 0, 1) := by decide +kernel
theorem dX4_copyFrom_106 : decode cX4_copyFrom 106 = .ok (.aload_n 1, 1) := by decide +kernel
theorem dX4_copyFrom_107 : decode cX4_copyFrom 107 = .ok (.getfield 55, 3) := by decide +kernel
theorem dX4_copyFrom_110 : decode cX4_copyFrom 110 = .ok (.putfield 55, 3) := by decide +kernel
theorem dX4_copyFrom_113 : decode cX4_copyFrom 113 = .ok (.aload_n 0, 1) := by decide +kernel
theorem dX4_copyFrom_114 : decode cX4_copyFrom 114 = .ok (.aload_n 1, 1) := by decide +kernel
theorem dX4_copyFrom_115 : decode cX4_copyFrom 115 = .ok (.getfield 58, 3) := by decide +kernel
theorem dX4_copyFrom_118 : decode cX4_copyFrom 118 = .ok (.putfield 58, 3) := by decide +kernel
theorem dX4_copyFrom_121 : decode cX4_copyFrom 121 = .ok (.aload_n 0, 1) := by decide +kernel
theorem dX4_copyFrom_122 : decode cX4_copyFrom 122 = .ok (.aload_n 1, 1) := by decide +kernel
theorem dX4_copyFrom_123 : decode cX4_copyFrom 123 = .ok (.getfield 61, 3) := by decide +kernel
theorem dX4_copyFrom_126 : decode cX4_copyFrom 126 = .ok (.putfield 61, 3) := by decide +kernel
theorem dX4_copyFrom_129 : decode cX4_copyFrom 129 = .ok (.aload_n 0, 1) := by decide +kernel
theorem dX4_copyFrom_130 : decode cX4_copyFrom 130 = .ok (.aload_n 1, 1) := by decide +kernel
theorem dX4_copyFrom_131 : decode cX4_copyFrom 131 = .ok (.getfield 64, 3) := by decide +kernel
theorem dX4_copyFrom_134 : decode cX4_copyFrom 134 = .ok (.putfield 64, 3) := by decide +kernel
theorem dX4_copyFrom_137 : decode cX4_copyFrom 137 = .ok (.aload_n 0, 1) := by decide +kernel
theorem dX4_copyFrom_138 : decode cX4_copyFrom 138 = .ok (.aload_n 1, 1) := by decide +kernel
theorem dX4_copyFrom_139 : decode cX4_copyFrom 139 = .ok (.getfield 67, 3) := by decide +kernel
theorem dX4_copyFrom_142 : decode cX4_copyFrom 142 = .ok (.putfield 67, 3) := by decide +kernel
theorem dX4_copyFrom_145 : decode cX4_copyFrom 145 = .ok (.return_, 1) := by decide +kernel
def fn_X4_copyFrom_L62 (L : cp_Lay) (q : Nat) : Nat → Nat → Nat → Int32 → cp_Dt → Option (cp_Dt)
  | 0, _, _, _, _ => none
  | n + 1, a0, a1, i2, D =>
    if (16 : Int32) ≤ i2 then ((cp_gI L D a1 4 5).bind fun v17 =>
    (cp_pI L D a0 4 5 v17).bind fun D18 =>
    (cp_gI L D18 a1 4 6).bind fun v19 =>
    (cp_pI L D18 a0 4 6 v19).bind fun D20 =>
    (cp_gI L D20 a1 4 7).bind fun v21 =>
    (cp_pI L D20 a0 4 7 v21).bind fun D22 =>
    (cp_gI L D22 a1 4 8).bind fun v23 =>
    (cp_pI L D22 a0 4 8 v23).bind fun D24 =>
    (cp_gI L D24 a1 4 9).bind fun v25 =>
    (cp_pI L D24 a0 4 9 v25).bind fun D26 =>
    (cp_gI L D26 a1 4 10).bind fun v27 =>
    (cp_pI L D26 a0 4 10 v27).bind fun D28 =>
    (cp_gI L D28 a1 4 11).bind fun v29 =>
    (cp_pI L D28 a0 4 11 v29).bind fun D30 =>
    some D30)
    else ((cp_gR L a0 4 4).bind fun r31 =>
    (cp_aR L r31 i2).bind fun r32 =>
    (cp_gR L a1 4 4).bind fun r33 =>
    (cp_aR L r33 i2).bind fun r34 =>
    (cp_fl L r32 1).bind fun f35 =>
    (fn_X1_copyFrom L q r32 r34 D).bind fun D36 =>
    fn_X4_copyFrom_L62 L q n a0 a1 (i2 + 1) D36)
def fn_X4_copyFrom (L : cp_Lay) (q : Nat) (k0 : Nat) (k1 : Nat) (D : cp_Dt) : Option (cp_Dt) :=
  (cp_gR L k1 4 1).bind fun r1 =>
  (cp_gR L k0 4 1).bind fun r2 =>
  (cp_gR L k0 4 0).bind fun r3 =>
  (cp_gI L D r3 5 2).bind fun v4 =>
  (cp_cp L D 0 r1 (0 : Int32) r2 (0 : Int32) v4).bind fun D5 =>
  (cp_gR L k1 4 2).bind fun r6 =>
  (cp_gR L k0 4 2).bind fun r7 =>
  (cp_gR L k0 4 0).bind fun r8 =>
  (cp_gI L D5 r8 5 2).bind fun v9 =>
  (cp_cp L D5 1 r6 (0 : Int32) r7 (0 : Int32) v9).bind fun D10 =>
  (cp_gR L k1 4 3).bind fun r11 =>
  (cp_gR L k0 4 3).bind fun r12 =>
  (cp_gR L k0 4 0).bind fun r13 =>
  (cp_gI L D10 r13 5 2).bind fun v14 =>
  (cp_cp L D10 0 r11 (0 : Int32) r12 (0 : Int32) v14).bind fun D15 =>
  fn_X4_copyFrom_L62 L q q k0 k1 (0 : Int32) D15
set_option maxHeartbeats 4000000 in
set_option maxRecDepth 100000 in
theorem ct_X4_copyFrom (l : Launch) (G : va_G) (L : cp_Lay) (hJ : cp_J L) (q : Nat) (k0 : Nat) (k1 : Nat) (D : cp_Dt) (res : cp_Dt) (hF : fn_X4_copyFrom L q k0 k1 D = some res) : cp_Met l G yX4_copyFrom wsX4_copyFrom ({ frames := 2, cells := 0, slots := 0, locals := 47 }) L ([.ref (L.2.1 k0), .ref (L.2.1 k1)] : List Value) D res none := by
  refine Met.ofW (cc := cX4_copyFrom) (maxL := 3) (ret := none) (by decide) rfl ?_
  intro p e s m args below meth c s₁ B hml hv
  obtain ⟨rfl, hP, hK, hN, hZ⟩ := hv
  have hx := B.exec
  have hb := B.bytes
  have hr := B.returns
  have hts := atoms_spec (ws := wsX4_copyFrom) B.pre
  have hown : s.vm.findClass "CreaturePond$Pond" = some m.cls := findClass_of_methodNamed B.named
  have hlocks := B.notSynchronized
  have hS : va_S (cp_A L) s.heap s.heap [] := va_S.rf
  have htT : ∀ w ∈ cp_T, w.before ([.ref (L.2.1 k0), .ref (L.2.1 k1)] : List Value).toArray s = true := fun w h => hts w (List.mem_cons_of_mem _ h)
  have hl := lv_entry (([.ref (L.2.1 k0), .ref (L.2.1 k1)] : List Value)) (n := 3) (Nat.le_of_ble_eq_true rfl)
  rw [lg_entry_eq]
  generalize (lg_sl (([.ref (L.2.1 k0), .ref (L.2.1 k1)] : List Value)) ++ List.replicate (3 - (lg_sl (([.ref (L.2.1 k0), .ref (L.2.1 k1)] : List Value))).length) Slot.unset).toArray = ls at hl ⊢
  have hl : lv_has ls 3 [(0, .ref (L.2.1 k0)), (1, .ref (L.2.1 k1))] := hl
  have hL62 : ∀ (n : Nat) (a0 : Nat) (a1 : Nat) (i2 : Int32) (D : cp_Dt) (H : Heap) (locs : List Loc) (ls : Array Slot), fn_X4_copyFrom_L62 L q n a0 a1 i2 D = some res → va_P G vwCl (cp_ws L D) H → va_S (cp_A L) s.heap H locs → lv_has ls 3 [(0, .ref (L.2.1 a0)), (1, .ref (L.2.1 a1)), (2, .int i2)] → W p l e (headSpec wsX4_copyFrom ({ frames := 2, cells := 0, slots := 0, locals := 47 })).room s m ([.ref (L.2.1 k0), .ref (L.2.1 k1)] : List Value).toArray below meth c H locs 0 0 (MQ below (cp_Q G L res none) ([.ref (L.2.1 k0), .ref (L.2.1 k1)] : List Value).toArray s 0 0 (cp_A L)) (F0 m 62 ls []) := by
    intro n
    induction n with
    | zero =>
      intro a0 a1 i2 D H locs ls hF
      cases hF
    | succ n ih =>
      intro a0 a1 i2 D H locs ls hF hP hS hl
      unfold fn_X4_copyFrom_L62 at hF
      refine lv_iload_n hx hb dX4_copyFrom_62 rfl (lv_at hl 2 rfl) ?_
      refine lv_bipush (v := (16 : Int32)) hx hb dX4_copyFrom_63 (by decide) ?_
      refine lv_icmp_ge (tgt := 89) hx hb dX4_copyFrom_65 (by decide) (fun hc16 => ?_) (fun hc16 => ?_)
      · rw [if_pos hc16] at hF
        refine lv_aload_n hx hb dX4_copyFrom_89 rfl (lv_at hl 0 rfl) ?_
        refine lv_aload_n hx hb dX4_copyFrom_90 rfl (lv_at hl 1 rfl) ?_
        obtain ⟨v17, ev17, hF⟩ := cp_bind hF
        refine cp_getI (T := TX4) (N := 12) (ci := 4) (j := 5) hx hb htT hinX4 hown hK hP rfl (by decide) rfl (htT _ tw_102) ev17 dX4_copyFrom_91 ?_
        obtain ⟨D18, eD18, hF⟩ := cp_bind hF
        refine cp_put (T := TX4) (N := 12) (ci := 4) (j := 5) hx hb htT hinX4 tyX4 tyX4_ok nmX4 hown hK hJ hP hS rfl (by decide) rfl (htT _ tw_102) rfl rfl rfl eD18 dX4_copyFrom_94 (fun H locs hP hS => ?_)
        refine lv_aload_n hx hb dX4_copyFrom_97 rfl (lv_at hl 0 rfl) ?_
        refine lv_aload_n hx hb dX4_copyFrom_98 rfl (lv_at hl 1 rfl) ?_
        obtain ⟨v19, ev19, hF⟩ := cp_bind hF
        refine cp_getI (T := TX4) (N := 12) (ci := 4) (j := 6) hx hb htT hinX4 hown hK hP rfl (by decide) rfl (htT _ tw_103) ev19 dX4_copyFrom_99 ?_
        obtain ⟨D20, eD20, hF⟩ := cp_bind hF
        refine cp_put (T := TX4) (N := 12) (ci := 4) (j := 6) hx hb htT hinX4 tyX4 tyX4_ok nmX4 hown hK hJ hP hS rfl (by decide) rfl (htT _ tw_103) rfl rfl rfl eD20 dX4_copyFrom_102 (fun H locs hP hS => ?_)
        refine lv_aload_n hx hb dX4_copyFrom_105 rfl (lv_at hl 0 rfl) ?_
        refine lv_aload_n hx hb dX4_copyFrom_106 rfl (lv_at hl 1 rfl) ?_
        obtain ⟨v21, ev21, hF⟩ := cp_bind hF
        refine cp_getI (T := TX4) (N := 12) (ci := 4) (j := 7) hx hb htT hinX4 hown hK hP rfl (by decide) rfl (htT _ tw_104) ev21 dX4_copyFrom_107 ?_
        obtain ⟨D22, eD22, hF⟩ := cp_bind hF
        refine cp_put (T := TX4) (N := 12) (ci := 4) (j := 7) hx hb htT hinX4 tyX4 tyX4_ok nmX4 hown hK hJ hP hS rfl (by decide) rfl (htT _ tw_104) rfl rfl rfl eD22 dX4_copyFrom_110 (fun H locs hP hS => ?_)
        refine lv_aload_n hx hb dX4_copyFrom_113 rfl (lv_at hl 0 rfl) ?_
        refine lv_aload_n hx hb dX4_copyFrom_114 rfl (lv_at hl 1 rfl) ?_
        obtain ⟨v23, ev23, hF⟩ := cp_bind hF
        refine cp_getI (T := TX4) (N := 12) (ci := 4) (j := 8) hx hb htT hinX4 hown hK hP rfl (by decide) rfl (htT _ tw_105) ev23 dX4_copyFrom_115 ?_
        obtain ⟨D24, eD24, hF⟩ := cp_bind hF
        refine cp_put (T := TX4) (N := 12) (ci := 4) (j := 8) hx hb htT hinX4 tyX4 tyX4_ok nmX4 hown hK hJ hP hS rfl (by decide) rfl (htT _ tw_105) rfl rfl rfl eD24 dX4_copyFrom_118 (fun H locs hP hS => ?_)
        refine lv_aload_n hx hb dX4_copyFrom_121 rfl (lv_at hl 0 rfl) ?_
        refine lv_aload_n hx hb dX4_copyFrom_122 rfl (lv_at hl 1 rfl) ?_
        obtain ⟨v25, ev25, hF⟩ := cp_bind hF
        refine cp_getI (T := TX4) (N := 12) (ci := 4) (j := 9) hx hb htT hinX4 hown hK hP rfl (by decide) rfl (htT _ tw_106) ev25 dX4_copyFrom_123 ?_
        obtain ⟨D26, eD26, hF⟩ := cp_bind hF
        refine cp_put (T := TX4) (N := 12) (ci := 4) (j := 9) hx hb htT hinX4 tyX4 tyX4_ok nmX4 hown hK hJ hP hS rfl (by decide) rfl (htT _ tw_106) rfl rfl rfl eD26 dX4_copyFrom_126 (fun H locs hP hS => ?_)
        refine lv_aload_n hx hb dX4_copyFrom_129 rfl (lv_at hl 0 rfl) ?_
        refine lv_aload_n hx hb dX4_copyFrom_130 rfl (lv_at hl 1 rfl) ?_
        obtain ⟨v27, ev27, hF⟩ := cp_bind hF
        refine cp_getI (T := TX4) (N := 12) (ci := 4) (j := 10) hx hb htT hinX4 hown hK hP rfl (by decide) rfl (htT _ tw_107) ev27 dX4_copyFrom_131 ?_
        obtain ⟨D28, eD28, hF⟩ := cp_bind hF
        refine cp_put (T := TX4) (N := 12) (ci := 4) (j := 10) hx hb htT hinX4 tyX4 tyX4_ok nmX4 hown hK hJ hP hS rfl (by decide) rfl (htT _ tw_107) rfl rfl rfl eD28 dX4_copyFrom_134 (fun H locs hP hS => ?_)
        refine lv_aload_n hx hb dX4_copyFrom_137 rfl (lv_at hl 0 rfl) ?_
        refine lv_aload_n hx hb dX4_copyFrom_138 rfl (lv_at hl 1 rfl) ?_
        obtain ⟨v29, ev29, hF⟩ := cp_bind hF
        refine cp_getI (T := TX4) (N := 12) (ci := 4) (j := 11) hx hb htT hinX4 hown hK hP rfl (by decide) rfl (htT _ tw_108) ev29 dX4_copyFrom_139 ?_
        obtain ⟨D30, eD30, hF⟩ := cp_bind hF
        refine cp_put (T := TX4) (N := 12) (ci := 4) (j := 11) hx hb htT hinX4 tyX4 tyX4_ok nmX4 hown hK hJ hP hS rfl (by decide) rfl (htT _ tw_108) rfl rfl rfl eD30 dX4_copyFrom_142 (fun H locs hP hS => ?_)
        exact cp_vret hx hb hr hlocks hF hP hS dX4_copyFrom_145
      · rw [if_neg hc16] at hF
        refine lv_aload_n hx hb dX4_copyFrom_68 rfl (lv_at hl 0 rfl) ?_
        obtain ⟨r31, er31, hF⟩ := cp_bind hF
        refine cp_getR (T := TX4) (N := 12) (ci := 4) (j := 4) hx hb htT hinX4 hown hK hP rfl (by decide) rfl (htT _ tw_101) er31 dX4_copyFrom_69 ?_
        refine lv_iload_n hx hb dX4_copyFrom_72 rfl (lv_at hl 2 rfl) ?_
        obtain ⟨r32, er32, hF⟩ := cp_bind hF
        refine cp_aald hx hb hK hP er32 dX4_copyFrom_73 ?_
        refine lv_aload_n hx hb dX4_copyFrom_74 rfl (lv_at hl 1 rfl) ?_
        obtain ⟨r33, er33, hF⟩ := cp_bind hF
        refine cp_getR (T := TX4) (N := 12) (ci := 4) (j := 4) hx hb htT hinX4 hown hK hP rfl (by decide) rfl (htT _ tw_101) er33 dX4_copyFrom_75 ?_
        refine lv_iload_n hx hb dX4_copyFrom_78 rfl (lv_at hl 2 rfl) ?_
        obtain ⟨r34, er34, hF⟩ := cp_bind hF
        refine cp_aald hx hb hK hP er34 dX4_copyFrom_79 ?_
        obtain ⟨f35, ef35, hF⟩ := cp_bind hF
        obtain ⟨D36, eD36, hF⟩ := cp_bind hF
        refine cp_call (st1 := []) (va_runVN (As := [.ref (L.2.1 r34)]) (rest := []) ⟨hx, hb, hml, hown, htT⟩ (ct_X1_copyFrom l G L hJ q r32 r34 D D36 eD36) ⟨va_cnB 1 htT gdX1_copyFrom rfl rfl rfl (hN _ (List.mem_of_getElem? (i := 65) rfl)) (htT _ tw_5) hdX1_copyFrom ⟨Nat.le_of_ble_eq_true rfl, Nat.le_of_ble_eq_true rfl⟩, (htT _ tw_191), (htT _ tw_537)⟩ ⟨cp_blind, cp_recv hK hP rfl ef35, cp_pre hP hK hN hZ hS⟩ rfl rfl hl.1 rfl (lv_room (Nat.le_of_ble_eq_true rfl)) dX4_copyFrom_80 ⟨Nat.zero_le _, Nat.zero_le _⟩) hS (fun H locs hP hS => ?_)
        refine lv_iinc (k := 2) (v := (i2 + 1)) (lv' := [(2, .int (i2 + 1)), (0, .ref (L.2.1 a0)), (1, .ref (L.2.1 a1))]) hx hb dX4_copyFrom_83 hl rfl (congrArg (fun z => i2 + z) (by decide)) (by decide) rfl (fun ls hl => ?_)
        refine lv_goto (tgt := 62) hx hb dX4_copyFrom_86 (by decide) ?_
        exact ih a0 a1 (i2 + 1) D36 _ _ _ hF hP hS (lv_sub hl [1, 2, 0] rfl)
  unfold fn_X4_copyFrom at hF
  refine lv_aload_n hx hb dX4_copyFrom_0 rfl (lv_at hl 1 rfl) ?_
  obtain ⟨r1, er1, hF⟩ := cp_bind hF
  refine cp_getR (T := TX4) (N := 12) (ci := 4) (j := 1) hx hb htT hinX4 hown hK hP rfl (by decide) rfl (htT _ tw_98) er1 dX4_copyFrom_1 ?_
  refine lv_iconst (v := (0 : Int32)) hx hb dX4_copyFrom_4 (by decide) ?_
  refine lv_aload_n hx hb dX4_copyFrom_5 rfl (lv_at hl 0 rfl) ?_
  obtain ⟨r2, er2, hF⟩ := cp_bind hF
  refine cp_getR (T := TX4) (N := 12) (ci := 4) (j := 1) hx hb htT hinX4 hown hK hP rfl (by decide) rfl (htT _ tw_98) er2 dX4_copyFrom_6 ?_
  refine lv_iconst (v := (0 : Int32)) hx hb dX4_copyFrom_9 (by decide) ?_
  refine lv_aload_n hx hb dX4_copyFrom_10 rfl (lv_at hl 0 rfl) ?_
  obtain ⟨r3, er3, hF⟩ := cp_bind hF
  refine cp_getR (T := TX4) (N := 12) (ci := 4) (j := 0) hx hb htT hinX4 hown hK hP rfl (by decide) rfl (htT _ tw_97) er3 dX4_copyFrom_11 ?_
  obtain ⟨v4, ev4, hF⟩ := cp_bind hF
  refine cp_getIN (T := TX5) (N := 4) (ci := 5) (j := 2) hx hb htT hinX5 hown hK hP rfl (by decide) rfl (hN _ (List.mem_of_getElem? (i := 1) rfl)) ev4 dX4_copyFrom_14 ?_
  obtain ⟨D5, eD5, hF⟩ := cp_bind hF
  refine cp_copy hx hb (by rw [hml]; exact hl.1.symm) hown (htT _ tw_188) (htT _ tw_190) (htT _ tw_189) (htT _ tw_15) hK hJ hP hS (Or.inl rfl) eD5 (Nat.le_of_ble_eq_true rfl) (Nat.le_of_ble_eq_true rfl) dX4_copyFrom_17 (fun H locs hP hS => ?_)
  refine lv_aload_n hx hb dX4_copyFrom_20 rfl (lv_at hl 1 rfl) ?_
  obtain ⟨r6, er6, hF⟩ := cp_bind hF
  refine cp_getR (T := TX4) (N := 12) (ci := 4) (j := 2) hx hb htT hinX4 hown hK hP rfl (by decide) rfl (htT _ tw_99) er6 dX4_copyFrom_21 ?_
  refine lv_iconst (v := (0 : Int32)) hx hb dX4_copyFrom_24 (by decide) ?_
  refine lv_aload_n hx hb dX4_copyFrom_25 rfl (lv_at hl 0 rfl) ?_
  obtain ⟨r7, er7, hF⟩ := cp_bind hF
  refine cp_getR (T := TX4) (N := 12) (ci := 4) (j := 2) hx hb htT hinX4 hown hK hP rfl (by decide) rfl (htT _ tw_99) er7 dX4_copyFrom_26 ?_
  refine lv_iconst (v := (0 : Int32)) hx hb dX4_copyFrom_29 (by decide) ?_
  refine lv_aload_n hx hb dX4_copyFrom_30 rfl (lv_at hl 0 rfl) ?_
  obtain ⟨r8, er8, hF⟩ := cp_bind hF
  refine cp_getR (T := TX4) (N := 12) (ci := 4) (j := 0) hx hb htT hinX4 hown hK hP rfl (by decide) rfl (htT _ tw_97) er8 dX4_copyFrom_31 ?_
  obtain ⟨v9, ev9, hF⟩ := cp_bind hF
  refine cp_getIN (T := TX5) (N := 4) (ci := 5) (j := 2) hx hb htT hinX5 hown hK hP rfl (by decide) rfl (hN _ (List.mem_of_getElem? (i := 1) rfl)) ev9 dX4_copyFrom_34 ?_
  obtain ⟨D10, eD10, hF⟩ := cp_bind hF
  refine cp_copy hx hb (by rw [hml]; exact hl.1.symm) hown (htT _ tw_188) (htT _ tw_190) (htT _ tw_189) (htT _ tw_15) hK hJ hP hS (Or.inr rfl) eD10 (Nat.le_of_ble_eq_true rfl) (Nat.le_of_ble_eq_true rfl) dX4_copyFrom_37 (fun H locs hP hS => ?_)
  refine lv_aload_n hx hb dX4_copyFrom_40 rfl (lv_at hl 1 rfl) ?_
  obtain ⟨r11, er11, hF⟩ := cp_bind hF
  refine cp_getR (T := TX4) (N := 12) (ci := 4) (j := 3) hx hb htT hinX4 hown hK hP rfl (by decide) rfl (htT _ tw_100) er11 dX4_copyFrom_41 ?_
  refine lv_iconst (v := (0 : Int32)) hx hb dX4_copyFrom_44 (by decide) ?_
  refine lv_aload_n hx hb dX4_copyFrom_45 rfl (lv_at hl 0 rfl) ?_
  obtain ⟨r12, er12, hF⟩ := cp_bind hF
  refine cp_getR (T := TX4) (N := 12) (ci := 4) (j := 3) hx hb htT hinX4 hown hK hP rfl (by decide) rfl (htT _ tw_100) er12 dX4_copyFrom_46 ?_
  refine lv_iconst (v := (0 : Int32)) hx hb dX4_copyFrom_49 (by decide) ?_
  refine lv_aload_n hx hb dX4_copyFrom_50 rfl (lv_at hl 0 rfl) ?_
  obtain ⟨r13, er13, hF⟩ := cp_bind hF
  refine cp_getR (T := TX4) (N := 12) (ci := 4) (j := 0) hx hb htT hinX4 hown hK hP rfl (by decide) rfl (htT _ tw_97) er13 dX4_copyFrom_51 ?_
  obtain ⟨v14, ev14, hF⟩ := cp_bind hF
  refine cp_getIN (T := TX5) (N := 4) (ci := 5) (j := 2) hx hb htT hinX5 hown hK hP rfl (by decide) rfl (hN _ (List.mem_of_getElem? (i := 1) rfl)) ev14 dX4_copyFrom_54 ?_
  obtain ⟨D15, eD15, hF⟩ := cp_bind hF
  refine cp_copy hx hb (by rw [hml]; exact hl.1.symm) hown (htT _ tw_188) (htT _ tw_190) (htT _ tw_189) (htT _ tw_15) hK hJ hP hS (Or.inl rfl) eD15 (Nat.le_of_ble_eq_true rfl) (Nat.le_of_ble_eq_true rfl) dX4_copyFrom_57 (fun H locs hP hS => ?_)
  refine lv_iconst (v := (0 : Int32)) hx hb dX4_copyFrom_60 (by decide) ?_
  refine lv_istore_n (lv' := [(2, .int (0 : Int32)), (0, .ref (L.2.1 k0)), (1, .ref (L.2.1 k1))]) hx hb dX4_copyFrom_61 rfl hl (by decide) rfl (fun ls hl => ?_)
  exact hL62 q k0 k1 (0 : Int32) D15 _ _ _ hF hP hS (lv_sub hl [1, 2, 0] rfl)
