theorem dX6_field_0 : decode cX6_field 0 = .ok (.aload_n 0, 1) := by decide +kernel
theorem dX6_field_1 : decode cX6_field 1 = .ok (.iconst 0, 1) := by decide +kernel
theorem dX6_field_2 : decode cX6_field 2 = .ok (.putfield 23, 3) := by decide +kernel
theorem dX6_field_5 : decode cX6_field 5 = .ok (.aload_n 0, 1) := by decide +kernel
theorem dX6_field_6 : decode cX6_field 6 = .ok (.iload_n 1, 1) := by decide +kernel
theorem dX6_field_7 : decode cX6_field 7 = .ok (.invokevirtual 34, 3) := by decide +kernel
theorem dX6_field_10 : decode cX6_field 10 = .ok (.ifCond .eq 13, 3) := by decide +kernel
theorem dX6_field_13 : decode cX6_field 13 = .ok (.iload_n 2, 1) := by decide +kernel
theorem dX6_field_14 : decode cX6_field 14 = .ok (.ifCond .lt 9, 3) := by decide +kernel
theorem dX6_field_17 : decode cX6_field 17 = .ok (.iload_n 2, 1) := by decide +kernel
theorem dX6_field_18 : decode cX6_field 18 = .ok (.bipush 18, 2) := by decide +kernel
theorem dX6_field_20 : decode cX6_field 20 = .ok (.if_icmp .le 5, 3) := by decide +kernel
theorem dX6_field_23 : decode cX6_field 23 = .ok (.iconst (-1), 1) := by decide +kernel
theorem dX6_field_24 : decode cX6_field 24 = .ok (.ireturn, 1) := by decide +kernel
theorem dX6_field_25 : decode cX6_field 25 = .ok (.iload_n 1, 1) := by decide +kernel
theorem dX6_field_26 : decode cX6_field 26 = .ok (.invokestatic 30, 3) := by decide +kernel
theorem dX6_field_29 : decode cX6_field 29 = .ok (.istore_n 3, 1) := by decide +kernel
theorem dX6_field_30 : decode cX6_field 30 = .ok (.iload_n 2, 1) := by decide +kernel
theorem dX6_field_31 : decode cX6_field 31 = .ok (.bipush 8, 2) := by decide +kernel
theorem dX6_field_33 : decode cX6_field 33 = .ok (.if_icmp .ge 15, 3) := by decide +kernel
theorem dX6_field_36 : decode cX6_field 36 = .ok (.aload_n 0, 1) := by decide +kernel
theorem dX6_field_37 : decode cX6_field 37 = .ok (.getfield 7, 3) := by decide +kernel
theorem dX6_field_40 : decode cX6_field 40 = .ok (.iload_n 3, 1) := by decide +kernel
theorem dX6_field_41 : decode cX6_field 41 = .ok (.bipush 10, 2) := by decide +kernel
theorem dX6_field_43 : decode cX6_field 43 = .ok (.iadd, 1) := by decide +kernel
theorem dX6_field_44 : decode cX6_field 44 = .ok (.iload_n 2, 1) := by decide +kernel
theorem dX6_field_45 : decode cX6_field 45 = .ok (.iadd, 1) := by decide +kernel
theorem dX6_field_46 : decode cX6_field 46 = .ok (.iaload, 1) := by decide +kernel
theorem dX6_field_47 : decode cX6_field 47 = .ok (.ireturn, 1) := by decide +kernel
theorem dX6_field_48 : decode cX6_field 48 = .ok (.iload_n 2, 1) := by decide +kernel
theorem dX6_field_49 : decode cX6_field 49 = .ok (.bipush 10, 2) := by decide +kernel
theorem dX6_field_51 : decode cX6_field 51 = .ok (.if_icmp .ge 35, 3) := by decide +kernel
theorem dX6_field_54 : decode cX6_field 54 = .ok (.iload_n 2, 1) := by decide +kernel
theorem dX6_field_55 : decode cX6_field 55 = .ok (.bipush 8, 2) := by decide +kernel
theorem dX6_field_57 : decode cX6_field 57 = .ok (.if_icmp .ne 17, 3) := by decide +kernel
theorem dX6_field_60 : decode cX6_field 60 = .ok (.aload_n 0, 1) := by decide +kernel
theorem dX6_field_61 : decode cX6_field 61 = .ok (.getfield 7, 3) := by decide +kernel
theorem dX6_field_64 : decode cX6_field 64 = .ok (.iload_n 3, 1) := by decide +kernel
theorem dX6_field_65 : decode cX6_field 65 = .ok (.iaload, 1) := by decide +kernel
theorem dX6_field_66 : decode cX6_field 66 = .ok (.aload_n 0, 1) := by decide +kernel
theorem dX6_field_67 : decode cX6_field 67 = .ok (.getfield 16, 3) := by decide +kernel
theorem dX6_field_70 : decode cX6_field 70 = .ok (.irem, 1) := by decide +kernel
theorem dX6_field_71 : decode cX6_field 71 = .ok (.goto 14, 3) := by decide +kernel
theorem dX6_field_74 : decode cX6_field 74 = .ok (.aload_n 0, 1) := by decide +kernel
theorem dX6_field_75 : decode cX6_field 75 = .ok (.getfield 7, 3) := by decide +kernel
theorem dX6_field_78 : decode cX6_field 78 = .ok (.iload_n 3, 1) := by decide +kernel
theorem dX6_field_79 : decode cX6_field 79 = .ok (.iaload, 1) := by decide +kernel
theorem dX6_field_80 : decode cX6_field 80 = .ok (.aload_n 0, 1) := by decide +kernel
theorem dX6_field_81 : decode cX6_field 81 = .ok (.getfield 16, 3) := by decide +kernel
theorem dX6_field_84 : decode cX6_field 84 = .ok (.idiv, 1) := by decide +kernel
theorem dX6_field_85 : decode cX6_field 85 = .ok (.ireturn, 1) := by decide +kernel
theorem dX6_field_86 : decode cX6_field 86 = .ok (.aload_n 0, 1) := by decide +kernel
theorem dX6_field_87 : decode cX6_field 87 = .ok (.getfield 7, 3) := by decide +kernel
theorem dX6_field_90 : decode cX6_field 90 = .ok (.iload_n 3, 1) := by decide +kernel
theorem dX6_field_91 : decode cX6_field 91 = .ok (.iload_n 2, 1) := by decide +kernel
theorem dX6_field_92 : decode cX6_field 92 = .ok (.iadd, 1) := by decide +kernel
theorem dX6_field_93 : decode cX6_field 93 = .ok (.bipush 9, 2) := by decide +kernel
theorem dX6_field_95 : decode cX6_field 95 = .ok (.isub, 1) := by decide +kernel
theorem dX6_field_96 : decode cX6_field 96 = .ok (.iaload, 1) := by decide +kernel
theorem dX6_field_97 : decode cX6_field 97 = .ok (.ireturn, 1) := by decide +kernel
def fn_X6_field (L : cp_Lay) (q : Nat) (k0 : Nat) (x1 : Int32) (x2 : Int32) (D : cp_Dt) : Option (Int32 × cp_Dt) :=
  (cp_pI L D k0 6 0 (0 : Int32)).bind fun D1 =>
  (cp_fl L k0 6).bind fun f2 =>
  (fn_X6_lives L q k0 x1 D1).bind fun y3 =>
  if y3.1 = 0 then (some ((-1 : Int32), y3.2))
  else (if x2 < 0 then (some ((-1 : Int32), y3.2))
  else (if x2 ≤ (18 : Int32) then ((fn_X6_at L q x1 y3.2).bind fun y7 =>
  if (8 : Int32) ≤ x2 then (if (10 : Int32) ≤ x2 then ((cp_gR L k0 6 3).bind fun r10 =>
  (cp_aI L y7.2 0 r10 ((y7.1 + x2) - (9 : Int32))).bind fun v11 =>
  some (v11, y7.2))
  else (if x2 = (8 : Int32) then ((cp_gR L k0 6 3).bind fun r17 =>
  (cp_aI L y7.2 0 r17 y7.1).bind fun v18 =>
  (cp_gI L y7.2 k0 6 1).bind fun v19 =>
  (cp_nz v19).bind fun u20 =>
  some ((v18 - v18 / v19 * v19), y7.2))
  else ((cp_gR L k0 6 3).bind fun r13 =>
  (cp_aI L y7.2 0 r13 y7.1).bind fun v14 =>
  (cp_gI L y7.2 k0 6 1).bind fun v15 =>
  (cp_nz v15).bind fun u16 =>
  some ((v14 / v15), y7.2))))
  else ((cp_gR L k0 6 3).bind fun r21 =>
  (cp_aI L y7.2 0 r21 ((y7.1 + (10 : Int32)) + x2)).bind fun v22 =>
  some (v22, y7.2)))
  else (some ((-1 : Int32), y3.2))))
set_option maxHeartbeats 4000000 in
set_option maxRecDepth 100000 in
theorem ct_X6_field (l : Launch) (G : va_G) (L : cp_Lay) (hJ : cp_J L) (q : Nat) (k0 : Nat) (x1 : Int32) (x2 : Int32) (D : cp_Dt) (res : Int32 × cp_Dt) (hF : fn_X6_field L q k0 x1 x2 D = some res) : cp_Met l G yX6_field wsX6_field ({ frames := 2, cells := 0, slots := 0, locals := 41 }) L ([.ref (L.2.1 k0), .int x1, .int x2] : List Value) D res.2 (some (.int res.1)) := by
  refine Met.ofW (cc := cX6_field) (maxL := 4) (ret := (some .int)) (by decide) rfl ?_
  intro p e s m args below meth c s₁ B hml hv
  obtain ⟨rfl, hP, hK, hN, hZ⟩ := hv
  have hx := B.exec
  have hb := B.bytes
  have hr := B.returns
  have hts := atoms_spec (ws := wsX6_field) B.pre
  have hown : s.vm.findClass "CreaturePondModel" = some m.cls := findClass_of_methodNamed B.named
  have hlocks := B.notSynchronized
  have hS : va_S (cp_A L) s.heap s.heap [] := va_S.rf
  have htT : ∀ w ∈ cp_T, w.before ([.ref (L.2.1 k0), .int x1, .int x2] : List Value).toArray s = true := fun w h => hts w (List.mem_cons_of_mem _ h)
  have hl := lv_entry (([.ref (L.2.1 k0), .int x1, .int x2] : List Value)) (n := 4) (Nat.le_of_ble_eq_true rfl)
  rw [lg_entry_eq]
  generalize (lg_sl (([.ref (L.2.1 k0), .int x1, .int x2] : List Value)) ++ List.replicate (4 - (lg_sl (([.ref (L.2.1 k0), .int x1, .int x2] : List Value))).length) Slot.unset).toArray = ls at hl ⊢
  have hl : lv_has ls 4 [(0, .ref (L.2.1 k0)), (1, .int x1), (2, .int x2)] := hl
  unfold fn_X6_field at hF
  refine lv_aload_n hx hb dX6_field_0 rfl (lv_at hl 0 rfl) ?_
  refine lv_iconst (v := (0 : Int32)) hx hb dX6_field_1 (by decide) ?_
  obtain ⟨D1, eD1, hF⟩ := cp_bind hF
  refine cp_put (T := TX6) (N := 6) (ci := 6) (j := 0) hx hb htT hinX6 tyX6 tyX6_ok nmX6 hown hK hJ hP hS rfl (by decide) rfl (htT _ tw_375) rfl rfl rfl eD1 dX6_field_2 (fun H locs hP hS => ?_)
  refine lv_aload_n hx hb dX6_field_5 rfl (lv_at hl 0 rfl) ?_
  refine lv_iload_n hx hb dX6_field_6 rfl (lv_at hl 1 rfl) ?_
  obtain ⟨f2, ef2, hF⟩ := cp_bind hF
  obtain ⟨y3, ey3, hF⟩ := cp_bind hF
  refine cp_call (st1 := [.int y3.1]) (va_runV (As := [.int x1]) (rest := []) ⟨hx, hb, hml, hown, htT⟩ (ct_X6_lives l G L hJ q k0 x1 D1 y3 ey3) ⟨callB_of 1 htT gdX6_lives rfl rfl rfl (htT _ tw_8) (htT _ tw_423) hdX6_lives ⟨Nat.le_of_ble_eq_true rfl, Nat.le_of_ble_eq_true rfl⟩, (htT _ tw_424), (htT _ tw_576)⟩ ⟨cp_blind, cp_recv hK hP rfl ef2, cp_pre hP hK hN hZ hS⟩ rfl rfl hl.1 rfl (lv_room (Nat.le_of_ble_eq_true rfl)) dX6_field_7 ⟨Nat.zero_le _, Nat.zero_le _⟩) hS (fun H locs hP hS => ?_)
  refine lv_if_eq (tgt := 23) hx hb dX6_field_10 (by decide) (fun hc4 => ?_) (fun hc4 => ?_)
  · rw [if_pos hc4] at hF
    refine lv_iconst (v := (-1 : Int32)) hx hb dX6_field_23 (by decide) ?_
    exact cp_iret hx hb hr hlocks hF hP hS dX6_field_24
  · rw [if_neg hc4] at hF
    refine lv_iload_n hx hb dX6_field_13 rfl (lv_at hl 2 rfl) ?_
    refine lv_if_lt (tgt := 23) hx hb dX6_field_14 (by decide) (fun hc5 => ?_) (fun hc5 => ?_)
    · rw [if_pos hc5] at hF
      refine lv_iconst (v := (-1 : Int32)) hx hb dX6_field_23 (by decide) ?_
      exact cp_iret hx hb hr hlocks hF hP hS dX6_field_24
    · rw [if_neg hc5] at hF
      refine lv_iload_n hx hb dX6_field_17 rfl (lv_at hl 2 rfl) ?_
      refine lv_bipush (v := (18 : Int32)) hx hb dX6_field_18 (by decide) ?_
      refine lv_icmp_le (tgt := 25) hx hb dX6_field_20 (by decide) (fun hc6 => ?_) (fun hc6 => ?_)
      · rw [if_pos hc6] at hF
        refine lv_iload_n hx hb dX6_field_25 rfl (lv_at hl 1 rfl) ?_
        obtain ⟨y7, ey7, hF⟩ := cp_bind hF
        refine cp_call (st1 := [.int y7.1]) (va_runS (As := [.int x1]) (rest := []) ⟨hx, hb, hml, hown, htT⟩ (ct_X6_at l G L hJ q x1 y3.2 y7 ey7) ⟨callB_of 1 htT gdX6_at rfl rfl rfl (htT _ tw_8) (htT _ tw_417) hdX6_at ⟨Nat.le_of_ble_eq_true rfl, Nat.le_of_ble_eq_true rfl⟩, (htT _ tw_418)⟩ ⟨cp_blind, cp_pre hP hK hN hZ hS⟩ rfl rfl hl.1 rfl (lv_room (Nat.le_of_ble_eq_true rfl)) dX6_field_26 ⟨Nat.zero_le _, Nat.zero_le _⟩) hS (fun H locs hP hS => ?_)
        refine lv_istore_n (lv' := [(3, .int y7.1), (0, .ref (L.2.1 k0)), (1, .int x1), (2, .int x2)]) hx hb dX6_field_29 rfl hl (by decide) rfl (fun ls hl => ?_)
        refine lv_iload_n hx hb dX6_field_30 rfl (lv_at hl 3 rfl) ?_
        refine lv_bipush (v := (8 : Int32)) hx hb dX6_field_31 (by decide) ?_
        refine lv_icmp_ge (tgt := 48) hx hb dX6_field_33 (by decide) (fun hc8 => ?_) (fun hc8 => ?_)
        · rw [if_pos hc8] at hF
          refine lv_iload_n hx hb dX6_field_48 rfl (lv_at hl 3 rfl) ?_
          refine lv_bipush (v := (10 : Int32)) hx hb dX6_field_49 (by decide) ?_
          refine lv_icmp_ge (tgt := 86) hx hb dX6_field_51 (by decide) (fun hc9 => ?_) (fun hc9 => ?_)
          · rw [if_pos hc9] at hF
            refine lv_aload_n hx hb dX6_field_86 rfl (lv_at hl 1 rfl) ?_
            obtain ⟨r10, er10, hF⟩ := cp_bind hF
            refine cp_getR (T := TX6) (N := 6) (ci := 6) (j := 3) hx hb htT hinX6 hown hK hP rfl (by decide) rfl (htT _ tw_378) er10 dX6_field_87 ?_
            refine lv_iload_n hx hb dX6_field_90 rfl (lv_at hl 0 rfl) ?_
            refine lv_iload_n hx hb dX6_field_91 rfl (lv_at hl 3 rfl) ?_
            refine lv_iadd hx hb dX6_field_92 ?_
            refine lv_bipush (v := (9 : Int32)) hx hb dX6_field_93 (by decide) ?_
            refine lv_isub hx hb dX6_field_95 ?_
            obtain ⟨v11, ev11, hF⟩ := cp_bind hF
            refine cp_iald hx hb hK hP ev11 dX6_field_96 ?_
            exact cp_iret hx hb hr hlocks hF hP hS dX6_field_97
          · rw [if_neg hc9] at hF
            refine lv_iload_n hx hb dX6_field_54 rfl (lv_at hl 3 rfl) ?_
            refine lv_bipush (v := (8 : Int32)) hx hb dX6_field_55 (by decide) ?_
            refine lv_icmp_ne (tgt := 74) hx hb dX6_field_57 (by decide) (fun hc12 => ?_) (fun hc12 => ?_)
            · rw [if_neg hc12] at hF
              refine lv_aload_n hx hb dX6_field_74 rfl (lv_at hl 1 rfl) ?_
              obtain ⟨r13, er13, hF⟩ := cp_bind hF
              refine cp_getR (T := TX6) (N := 6) (ci := 6) (j := 3) hx hb htT hinX6 hown hK hP rfl (by decide) rfl (htT _ tw_378) er13 dX6_field_75 ?_
              refine lv_iload_n hx hb dX6_field_78 rfl (lv_at hl 0 rfl) ?_
              obtain ⟨v14, ev14, hF⟩ := cp_bind hF
              refine cp_iald hx hb hK hP ev14 dX6_field_79 ?_
              refine lv_aload_n hx hb dX6_field_80 rfl (lv_at hl 1 rfl) ?_
              obtain ⟨v15, ev15, hF⟩ := cp_bind hF
              refine cp_getI (T := TX6) (N := 6) (ci := 6) (j := 1) hx hb htT hinX6 hown hK hP rfl (by decide) rfl (htT _ tw_376) ev15 dX6_field_81 ?_
              obtain ⟨u16, eu16, hF⟩ := cp_bind hF
              refine lv_idiv hx hb dX6_field_84 (cp_nz_ne eu16) ?_
              exact cp_iret hx hb hr hlocks hF hP hS dX6_field_85
            · rw [if_pos hc12] at hF
              refine lv_aload_n hx hb dX6_field_60 rfl (lv_at hl 1 rfl) ?_
              obtain ⟨r17, er17, hF⟩ := cp_bind hF
              refine cp_getR (T := TX6) (N := 6) (ci := 6) (j := 3) hx hb htT hinX6 hown hK hP rfl (by decide) rfl (htT _ tw_378) er17 dX6_field_61 ?_
              refine lv_iload_n hx hb dX6_field_64 rfl (lv_at hl 0 rfl) ?_
              obtain ⟨v18, ev18, hF⟩ := cp_bind hF
              refine cp_iald hx hb hK hP ev18 dX6_field_65 ?_
              refine lv_aload_n hx hb dX6_field_66 rfl (lv_at hl 1 rfl) ?_
              obtain ⟨v19, ev19, hF⟩ := cp_bind hF
              refine cp_getI (T := TX6) (N := 6) (ci := 6) (j := 1) hx hb htT hinX6 hown hK hP rfl (by decide) rfl (htT _ tw_376) ev19 dX6_field_67 ?_
              obtain ⟨u20, eu20, hF⟩ := cp_bind hF
              refine lv_irem hx hb dX6_field_70 (cp_nz_ne eu20) ?_
              refine lv_goto (tgt := 85) hx hb dX6_field_71 (by decide) ?_
              exact cp_iret hx hb hr hlocks hF hP hS dX6_field_85
        · rw [if_neg hc8] at hF
          refine lv_aload_n hx hb dX6_field_36 rfl (lv_at hl 1 rfl) ?_
          obtain ⟨r21, er21, hF⟩ := cp_bind hF
          refine cp_getR (T := TX6) (N := 6) (ci := 6) (j := 3) hx hb htT hinX6 hown hK hP rfl (by decide) rfl (htT _ tw_378) er21 dX6_field_37 ?_
          refine lv_iload_n hx hb dX6_field_40 rfl (lv_at hl 0 rfl) ?_
          refine lv_bipush (v := (10 : Int32)) hx hb dX6_field_41 (by decide) ?_
          refine lv_iadd hx hb dX6_field_43 ?_
          refine lv_iload_n hx hb dX6_field_44 rfl (lv_at hl 3 rfl) ?_
          refine lv_iadd hx hb dX6_field_45 ?_
          obtain ⟨v22, ev22, hF⟩ := cp_bind hF
          refine cp_iald hx hb hK hP ev22 dX6_field_46 ?_
          exact cp_iret hx hb hr hlocks hF hP hS dX6_field_47
      · rw [if_neg hc6] at hF
        refine lv_iconst (v := (-1 : Int32)) hx hb dX6_field_23 (by decide) ?_
        exact cp_iret hx hb hr hlocks hF hP hS dX6_field_24
theorem dX6_inner_0 : decode cX6_inner 0 = .ok (.aload_n 0, 1) := by decide +kernel
theorem dX6_inner_1 : decode cX6_inner 1 = .ok (.aload_n 0, 1) := by decide +kernel
theorem dX6_inner_2 : decode cX6_inner 2 = .ok (.iload_n 1, 1) := by decide +kernel
theorem dX6_inner_3 : decode cX6_inner 3 = .ok (.invokevirtual 34, 3) := by decide +kernel
theorem dX6_inner_6 : decode cX6_inner 6 = .ok (.ifCond .eq 7, 3) := by decide +kernel
theorem dX6_inner_9 : decode cX6_inner 9 = .ok (.iload_n 3, 1) := by decide +kernel
theorem dX6_inner_10 : decode cX6_inner 10 = .ok (.ifCond .ge 7, 3) := by decide +kernel
theorem dX6_inner_13 : decode cX6_inner 13 = .ok (.iconst 1, 1) := by decide +kernel
theorem dX6_inner_14 : decode cX6_inner 14 = .ok (.goto 4, 3) := by decide +kernel
theorem dX6_inner_17 : decode cX6_inner 17 = .ok (.iconst 0, 1) := by decide +kernel
theorem dX6_inner_18 : decode cX6_inner 18 = .ok (.putfield 23, 3) := by decide +kernel
theorem dX6_inner_21 : decode cX6_inner 21 = .ok (.aload_n 0, 1) := by decide +kernel
theorem dX6_inner_22 : decode cX6_inner 22 = .ok (.getfield 23, 3) := by decide +kernel
theorem dX6_inner_25 : decode cX6_inner 25 = .ok (.ifCond .le 5, 3) := by decide +kernel
theorem dX6_inner_28 : decode cX6_inner 28 = .ok (.iconst 0, 1) := by decide +kernel
theorem dX6_inner_29 : decode cX6_inner 29 = .ok (.ireturn, 1) := by decide +kernel
theorem dX6_inner_30 : decode cX6_inner 30 = .ok (.aload_n 0, 1) := by decide +kernel
theorem dX6_inner_31 : decode cX6_inner 31 = .ok (.iload_n 3, 1) := by decide +kernel
theorem dX6_inner_32 : decode cX6_inner 32 = .ok (.iload_n 2, 1) := by decide +kernel
theorem dX6_inner_33 : decode cX6_inner 33 = .ok (.ifCond .eq 17, 3) := by decide +kernel
theorem dX6_inner_36 : decode cX6_inner 36 = .ok (.aload_n 0, 1) := by decide +kernel
theorem dX6_inner_37 : decode cX6_inner 37 = .ok (.getfield 7, 3) := by decide +kernel
theorem dX6_inner_40 : decode cX6_inner 40 = .ok (.iload_n 1, 1) := by decide +kernel
theorem dX6_inner_41 : decode cX6_inner 41 = .ok (.invokestatic 30, 3) := by decide +kernel
theorem dX6_inner_44 : decode cX6_inner 44 = .ok (.iconst 5, 1) := by decide +kernel
theorem dX6_inner_45 : decode cX6_inner 45 = .ok (.iadd, 1) := by decide +kernel
theorem dX6_inner_46 : decode cX6_inner 46 = .ok (.iaload, 1) := by decide +kernel
theorem dX6_inner_47 : decode cX6_inner 47 = .ok (.goto 5, 3) := by decide +kernel
theorem dX6_inner_50 : decode cX6_inner 50 = .ok (.bipush 16, 2) := by decide +kernel
theorem dX6_inner_52 : decode cX6_inner 52 = .ok (.if_icmp .lt 7, 3) := by decide +kernel
theorem dX6_inner_55 : decode cX6_inner 55 = .ok (.iconst 1, 1) := by decide +kernel
theorem dX6_inner_56 : decode cX6_inner 56 = .ok (.goto 4, 3) := by decide +kernel
theorem dX6_inner_59 : decode cX6_inner 59 = .ok (.iconst 0, 1) := by decide +kernel
theorem dX6_inner_60 : decode cX6_inner 60 = .ok (.putfield 23, 3) := by decide +kernel
theorem dX6_inner_63 : decode cX6_inner 63 = .ok (.aload_n 0, 1) := by decide +kernel
theorem dX6_inner_64 : decode cX6_inner 64 = .ok (.getfield 23, 3) := by decide +kernel
theorem dX6_inner_67 : decode cX6_inner 67 = .ok (.ifCond .le 7, 3) := by decide +kernel
theorem dX6_inner_70 : decode cX6_inner 70 = .ok (.iconst 0, 1) := by decide +kernel
theorem dX6_inner_71 : decode cX6_inner 71 = .ok (.goto 27, 3) := by decide +kernel
theorem dX6_inner_74 : decode cX6_inner 74 = .ok (.aload_n 0, 1) := by decide +kernel
theorem dX6_inner_75 : decode cX6_inner 75 = .ok (.getfield 7, 3) := by decide +kernel
theorem dX6_inner_78 : decode cX6_inner 78 = .ok (.iload_n 1, 1) := by decide +kernel
theorem dX6_inner_79 : decode cX6_inner 79 = .ok (.invokestatic 30, 3) := by decide +kernel
theorem dX6_inner_82 : decode cX6_inner 82 = .ok (.iload_n 2, 1) := by decide +kernel
theorem dX6_inner_83 : decode cX6_inner 83 = .ok (.ifCond .eq 8, 3) := by decide +kernel
theorem dX6_inner_86 : decode cX6_inner 86 = .ok (.bipush 34, 2) := by decide +kernel
theorem dX6_inner_88 : decode cX6_inner 88 = .ok (.goto 5, 3) := by decide +kernel
theorem dX6_inner_91 : decode cX6_inner 91 = .ok (.bipush 18, 2) := by decide +kernel
theorem dX6_inner_93 : decode cX6_inner 93 = .ok (.iadd, 1) := by decide +kernel
theorem dX6_inner_94 : decode cX6_inner 94 = .ok (.iload_n 3, 1) := by decide +kernel
theorem dX6_inner_95 : decode cX6_inner 95 = .ok (.iadd, 1) := by decide +kernel
theorem dX6_inner_96 : decode cX6_inner 96 = .ok (.iaload, 1) := by decide +kernel
theorem dX6_inner_97 : decode cX6_inner 97 = .ok (.i2b, 1) := by decide +kernel
theorem dX6_inner_98 : decode cX6_inner 98 = .ok (.ireturn, 1) := by decide +kernel
def fn_X6_inner (L : cp_Lay) (q : Nat) (k0 : Nat) (x1 : Int32) (x2 : Int32) (x3 : Int32) (D : cp_Dt) : Option (Int32 × cp_Dt) :=
  (cp_fl L k0 6).bind fun f1 =>
  (fn_X6_lives L q k0 x1 D).bind fun y2 =>
  if y2.1 = 0 then ((cp_pI L y2.2 k0 6 0 (1 : Int32)).bind fun D4 =>
  (cp_gI L D4 k0 6 0).bind fun v5 =>
  if v5 ≤ 0 then (if x2 = 0 then (if x3 < (16 : Int32) then ((cp_pI L D4 k0 6 0 (0 : Int32)).bind fun D9 =>
  (cp_gI L D9 k0 6 0).bind fun v10 =>
  if v10 ≤ 0 then ((cp_gR L k0 6 3).bind fun r12 =>
  (fn_X6_at L q x1 D9).bind fun y13 =>
  if x2 = 0 then ((cp_aI L y13.2 0 r12 ((y13.1 + (18 : Int32)) + x3)).bind fun v15 =>
  (cp_gby v15.toInt8.toInt32).bind fun u16 => some (v15.toInt8.toInt32, y13.2))
  else ((cp_aI L y13.2 0 r12 ((y13.1 + (34 : Int32)) + x3)).bind fun v17 =>
  (cp_gby v17.toInt8.toInt32).bind fun u18 => some (v17.toInt8.toInt32, y13.2)))
  else (some ((0 : Int32), D9)))
  else ((cp_pI L D4 k0 6 0 (1 : Int32)).bind fun D19 =>
  (cp_gI L D19 k0 6 0).bind fun v20 =>
  if v20 ≤ 0 then ((cp_gR L k0 6 3).bind fun r22 =>
  (fn_X6_at L q x1 D19).bind fun y23 =>
  if x2 = 0 then ((cp_aI L y23.2 0 r22 ((y23.1 + (18 : Int32)) + x3)).bind fun v25 =>
  (cp_gby v25.toInt8.toInt32).bind fun u26 => some (v25.toInt8.toInt32, y23.2))
  else ((cp_aI L y23.2 0 r22 ((y23.1 + (34 : Int32)) + x3)).bind fun v27 =>
  (cp_gby v27.toInt8.toInt32).bind fun u28 => some (v27.toInt8.toInt32, y23.2)))
  else (some ((0 : Int32), D19))))
  else ((cp_gR L k0 6 3).bind fun r29 =>
  (fn_X6_at L q x1 D4).bind fun y30 =>
  (cp_aI L y30.2 0 r29 (y30.1 + (5 : Int32))).bind fun v31 =>
  if x3 < v31 then ((cp_pI L y30.2 k0 6 0 (0 : Int32)).bind fun D33 =>
  (cp_gI L D33 k0 6 0).bind fun v34 =>
  if v34 ≤ 0 then ((cp_gR L k0 6 3).bind fun r36 =>
  (fn_X6_at L q x1 D33).bind fun y37 =>
  if x2 = 0 then ((cp_aI L y37.2 0 r36 ((y37.1 + (18 : Int32)) + x3)).bind fun v39 =>
  (cp_gby v39.toInt8.toInt32).bind fun u40 => some (v39.toInt8.toInt32, y37.2))
  else ((cp_aI L y37.2 0 r36 ((y37.1 + (34 : Int32)) + x3)).bind fun v41 =>
  (cp_gby v41.toInt8.toInt32).bind fun u42 => some (v41.toInt8.toInt32, y37.2)))
  else (some ((0 : Int32), D33)))
  else ((cp_pI L y30.2 k0 6 0 (1 : Int32)).bind fun D43 =>
  (cp_gI L D43 k0 6 0).bind fun v44 =>
  if v44 ≤ 0 then ((cp_gR L k0 6 3).bind fun r46 =>
  (fn_X6_at L q x1 D43).bind fun y47 =>
  if x2 = 0 then ((cp_aI L y47.2 0 r46 ((y47.1 + (18 : Int32)) + x3)).bind fun v49 =>
  (cp_gby v49.toInt8.toInt32).bind fun u50 => some (v49.toInt8.toInt32, y47.2))
  else ((cp_aI L y47.2 0 r46 ((y47.1 + (34 : Int32)) + x3)).bind fun v51 =>
  (cp_gby v51.toInt8.toInt32).bind fun u52 => some (v51.toInt8.toInt32, y47.2)))
  else (some ((0 : Int32), D43)))))
  else (some ((0 : Int32), D4)))
  else (if 0 ≤ x3 then ((cp_pI L y2.2 k0 6 0 (0 : Int32)).bind fun D54 =>
  (cp_gI L D54 k0 6 0).bind fun v55 =>
  if v55 ≤ 0 then (if x2 = 0 then (if x3 < (16 : Int32) then ((cp_pI L D54 k0 6 0 (0 : Int32)).bind fun D59 =>
  (cp_gI L D59 k0 6 0).bind fun v60 =>
  if v60 ≤ 0 then ((cp_gR L k0 6 3).bind fun r62 =>
  (fn_X6_at L q x1 D59).bind fun y63 =>
  if x2 = 0 then ((cp_aI L y63.2 0 r62 ((y63.1 + (18 : Int32)) + x3)).bind fun v65 =>
  (cp_gby v65.toInt8.toInt32).bind fun u66 => some (v65.toInt8.toInt32, y63.2))
  else ((cp_aI L y63.2 0 r62 ((y63.1 + (34 : Int32)) + x3)).bind fun v67 =>
  (cp_gby v67.toInt8.toInt32).bind fun u68 => some (v67.toInt8.toInt32, y63.2)))
  else (some ((0 : Int32), D59)))
  else ((cp_pI L D54 k0 6 0 (1 : Int32)).bind fun D69 =>
  (cp_gI L D69 k0 6 0).bind fun v70 =>
  if v70 ≤ 0 then ((cp_gR L k0 6 3).bind fun r72 =>
  (fn_X6_at L q x1 D69).bind fun y73 =>
  if x2 = 0 then ((cp_aI L y73.2 0 r72 ((y73.1 + (18 : Int32)) + x3)).bind fun v75 =>
  (cp_gby v75.toInt8.toInt32).bind fun u76 => some (v75.toInt8.toInt32, y73.2))
  else ((cp_aI L y73.2 0 r72 ((y73.1 + (34 : Int32)) + x3)).bind fun v77 =>
  (cp_gby v77.toInt8.toInt32).bind fun u78 => some (v77.toInt8.toInt32, y73.2)))
  else (some ((0 : Int32), D69))))
  else ((cp_gR L k0 6 3).bind fun r79 =>
  (fn_X6_at L q x1 D54).bind fun y80 =>
  (cp_aI L y80.2 0 r79 (y80.1 + (5 : Int32))).bind fun v81 =>
  if x3 < v81 then ((cp_pI L y80.2 k0 6 0 (0 : Int32)).bind fun D83 =>
  (cp_gI L D83 k0 6 0).bind fun v84 =>
  if v84 ≤ 0 then ((cp_gR L k0 6 3).bind fun r86 =>
  (fn_X6_at L q x1 D83).bind fun y87 =>
  if x2 = 0 then ((cp_aI L y87.2 0 r86 ((y87.1 + (18 : Int32)) + x3)).bind fun v89 =>
  (cp_gby v89.toInt8.toInt32).bind fun u90 => some (v89.toInt8.toInt32, y87.2))
  else ((cp_aI L y87.2 0 r86 ((y87.1 + (34 : Int32)) + x3)).bind fun v91 =>
  (cp_gby v91.toInt8.toInt32).bind fun u92 => some (v91.toInt8.toInt32, y87.2)))
  else (some ((0 : Int32), D83)))
  else ((cp_pI L y80.2 k0 6 0 (1 : Int32)).bind fun D93 =>
  (cp_gI L D93 k0 6 0).bind fun v94 =>
  if v94 ≤ 0 then ((cp_gR L k0 6 3).bind fun r96 =>
  (fn_X6_at L q x1 D93).bind fun y97 =>
  if x2 = 0 then ((cp_aI L y97.2 0 r96 ((y97.1 + (18 : Int32)) + x3)).bind fun v99 =>
  (cp_gby v99.toInt8.toInt32).bind fun u100 => some (v99.toInt8.toInt32, y97.2))
  else ((cp_aI L y97.2 0 r96 ((y97.1 + (34 : Int32)) + x3)).bind fun v101 =>
  (cp_gby v101.toInt8.toInt32).bind fun u102 => some (v101.toInt8.toInt32, y97.2)))
  else (some ((0 : Int32), D93)))))
  else (some ((0 : Int32), D54)))
  else ((cp_pI L y2.2 k0 6 0 (1 : Int32)).bind fun D103 =>
  (cp_gI L D103 k0 6 0).bind fun v104 =>
  if v104 ≤ 0 then (if x2 = 0 then (if x3 < (16 : Int32) then ((cp_pI L D103 k0 6 0 (0 : Int32)).bind fun D108 =>
  (cp_gI L D108 k0 6 0).bind fun v109 =>
  if v109 ≤ 0 then ((cp_gR L k0 6 3).bind fun r111 =>
  (fn_X6_at L q x1 D108).bind fun y112 =>
  if x2 = 0 then ((cp_aI L y112.2 0 r111 ((y112.1 + (18 : Int32)) + x3)).bind fun v114 =>
  (cp_gby v114.toInt8.toInt32).bind fun u115 => some (v114.toInt8.toInt32, y112.2))
  else ((cp_aI L y112.2 0 r111 ((y112.1 + (34 : Int32)) + x3)).bind fun v116 =>
  (cp_gby v116.toInt8.toInt32).bind fun u117 => some (v116.toInt8.toInt32, y112.2)))
  else (some ((0 : Int32), D108)))
  else ((cp_pI L D103 k0 6 0 (1 : Int32)).bind fun D118 =>
  (cp_gI L D118 k0 6 0).bind fun v119 =>
  if v119 ≤ 0 then ((cp_gR L k0 6 3).bind fun r121 =>
  (fn_X6_at L q x1 D118).bind fun y122 =>
  if x2 = 0 then ((cp_aI L y122.2 0 r121 ((y122.1 + (18 : Int32)) + x3)).bind fun v124 =>
  (cp_gby v124.toInt8.toInt32).bind fun u125 => some (v124.toInt8.toInt32, y122.2))
  else ((cp_aI L y122.2 0 r121 ((y122.1 + (34 : Int32)) + x3)).bind fun v126 =>
  (cp_gby v126.toInt8.toInt32).bind fun u127 => some (v126.toInt8.toInt32, y122.2)))
  else (some ((0 : Int32), D118))))
  else ((cp_gR L k0 6 3).bind fun r128 =>
  (fn_X6_at L q x1 D103).bind fun y129 =>
  (cp_aI L y129.2 0 r128 (y129.1 + (5 : Int32))).bind fun v130 =>
  if x3 < v130 then ((cp_pI L y129.2 k0 6 0 (0 : Int32)).bind fun D132 =>
  (cp_gI L D132 k0 6 0).bind fun v133 =>
  if v133 ≤ 0 then ((cp_gR L k0 6 3).bind fun r135 =>
  (fn_X6_at L q x1 D132).bind fun y136 =>
  if x2 = 0 then ((cp_aI L y136.2 0 r135 ((y136.1 + (18 : Int32)) + x3)).bind fun v138 =>
  (cp_gby v138.toInt8.toInt32).bind fun u139 => some (v138.toInt8.toInt32, y136.2))
  else ((cp_aI L y136.2 0 r135 ((y136.1 + (34 : Int32)) + x3)).bind fun v140 =>
  (cp_gby v140.toInt8.toInt32).bind fun u141 => some (v140.toInt8.toInt32, y136.2)))
  else (some ((0 : Int32), D132)))
  else ((cp_pI L y129.2 k0 6 0 (1 : Int32)).bind fun D142 =>
  (cp_gI L D142 k0 6 0).bind fun v143 =>
  if v143 ≤ 0 then ((cp_gR L k0 6 3).bind fun r145 =>
  (fn_X6_at L q x1 D142).bind fun y146 =>
  if x2 = 0 then ((cp_aI L y146.2 0 r145 ((y146.1 + (18 : Int32)) + x3)).bind fun v148 =>
  (cp_gby v148.toInt8.toInt32).bind fun u149 => some (v148.toInt8.toInt32, y146.2))
  else ((cp_aI L y146.2 0 r145 ((y146.1 + (34 : Int32)) + x3)).bind fun v150 =>
  (cp_gby v150.toInt8.toInt32).bind fun u151 => some (v150.toInt8.toInt32, y146.2)))
  else (some ((0 : Int32), D142)))))
  else (some ((0 : Int32), D103))))
set_option maxHeartbeats 4000000 in
set_option maxRecDepth 100000 in
theorem ct_X6_inner (l : Launch) (G : va_G) (L : cp_Lay) (hJ : cp_J L) (q : Nat) (k0 : Nat) (x1 : Int32) (x2 : Int32) (x3 : Int32) (D : cp_Dt) (res : Int32 × cp_Dt) (hF : fn_X6_inner L q k0 x1 x2 x3 D = some res) : cp_Met l G yX6_inner wsX6_inner ({ frames := 2, cells := 0, slots := 0, locals := 41 }) L ([.ref (L.2.1 k0), .int x1, .int x2, .int x3] : List Value) D res.2 (some (.int res.1)) := by
  refine Met.ofW (cc := cX6_inner) (maxL := 4) (ret := (some .byte)) (by decide) rfl ?_
  intro p e s m args below meth c s₁ B hml hv
  obtain ⟨rfl, hP, hK, hN, hZ⟩ := hv
  have hx := B.exec
  have hb := B.bytes
  have hr := B.returns
  have hts := atoms_spec (ws := wsX6_inner) B.pre
  have hown : s.vm.findClass "CreaturePondModel" = some m.cls := findClass_of_methodNamed B.named
  have hlocks := B.notSynchronized
  have hS : va_S (cp_A L) s.heap s.heap [] := va_S.rf
  have htT : ∀ w ∈ cp_T, w.before ([.ref (L.2.1 k0), .int x1, .int x2, .int x3] : List Value).toArray s = true := fun w h => hts w (List.mem_cons_of_mem _ h)
  have hl := lv_entry (([.ref (L.2.1 k0), .int x1, .int x2, .int x3] : List Value)) (n := 4) (Nat.le_of_ble_eq_true rfl)
  rw [lg_entry_eq]
  generalize (lg_sl (([.ref (L.2.1 k0), .int x1, .int x2, .int x3] : List Value)) ++ List.replicate (4 - (lg_sl (([.ref (L.2.1 k0), .int x1, .int x2, .int x3] : List Value))).length) Slot.unset).toArray = ls at hl ⊢
  have hl : lv_has ls 4 [(0, .ref (L.2.1 k0)), (1, .int x1), (2, .int x2), (3, .int x3)] := hl
  unfold fn_X6_inner at hF
  refine lv_aload_n hx hb dX6_inner_0 rfl (lv_at hl 0 rfl) ?_
  refine lv_aload_n hx hb dX6_inner_1 rfl (lv_at hl 0 rfl) ?_
  refine lv_iload_n hx hb dX6_inner_2 rfl (lv_at hl 1 rfl) ?_
  obtain ⟨f1, ef1, hF⟩ := cp_bind hF
  obtain ⟨y2, ey2, hF⟩ := cp_bind hF
  refine cp_call (st1 := [.int y2.1, .ref (L.2.1 k0)]) (va_runV (As := [.int x1]) (rest := [.ref (L.2.1 k0)]) ⟨hx, hb, hml, hown, htT⟩ (ct_X6_lives l G L hJ q k0 x1 D y2 ey2) ⟨callB_of 1 htT gdX6_lives rfl rfl rfl (htT _ tw_8) (htT _ tw_423) hdX6_lives ⟨Nat.le_of_ble_eq_true rfl, Nat.le_of_ble_eq_true rfl⟩, (htT _ tw_424), (htT _ tw_576)⟩ ⟨cp_blind, cp_recv hK hP rfl ef1, cp_pre hP hK hN hZ hS⟩ rfl rfl hl.1 rfl (lv_room (Nat.le_of_ble_eq_true rfl)) dX6_inner_3 ⟨Nat.zero_le _, Nat.zero_le _⟩) hS (fun H locs hP hS => ?_)
  refine lv_if_eq (tgt := 13) hx hb dX6_inner_6 (by decide) (fun hc3 => ?_) (fun hc3 => ?_)
  · rw [if_pos hc3] at hF
    refine lv_iconst (v := (1 : Int32)) hx hb dX6_inner_13 (by decide) ?_
    refine lv_goto (tgt := 18) hx hb dX6_inner_14 (by decide) ?_
    obtain ⟨D4, eD4, hF⟩ := cp_bind hF
    refine cp_put (T := TX6) (N := 6) (ci := 6) (j := 0) hx hb htT hinX6 tyX6 tyX6_ok nmX6 hown hK hJ hP hS rfl (by decide) rfl (htT _ tw_375) rfl rfl rfl eD4 dX6_inner_18 (fun H locs hP hS => ?_)
    refine lv_aload_n hx hb dX6_inner_21 rfl (lv_at hl 0 rfl) ?_
    obtain ⟨v5, ev5, hF⟩ := cp_bind hF
    refine cp_getI (T := TX6) (N := 6) (ci := 6) (j := 0) hx hb htT hinX6 hown hK hP rfl (by decide) rfl (htT _ tw_375) ev5 dX6_inner_22 ?_
    refine lv_if_le (tgt := 30) hx hb dX6_inner_25 (by decide) (fun hc6 => ?_) (fun hc6 => ?_)
    · rw [if_pos hc6] at hF
      refine lv_aload_n hx hb dX6_inner_30 rfl (lv_at hl 0 rfl) ?_
      refine lv_iload_n hx hb dX6_inner_31 rfl (lv_at hl 3 rfl) ?_
      refine lv_iload_n hx hb dX6_inner_32 rfl (lv_at hl 2 rfl) ?_
      refine lv_if_eq (tgt := 50) hx hb dX6_inner_33 (by decide) (fun hc7 => ?_) (fun hc7 => ?_)
      · rw [if_pos hc7] at hF
        refine lv_bipush (v := (16 : Int32)) hx hb dX6_inner_50 (by decide) ?_
        refine lv_icmp_lt (tgt := 59) hx hb dX6_inner_52 (by decide) (fun hc8 => ?_) (fun hc8 => ?_)
        · rw [if_pos hc8] at hF
          refine lv_iconst (v := (0 : Int32)) hx hb dX6_inner_59 (by decide) ?_
          obtain ⟨D9, eD9, hF⟩ := cp_bind hF
          refine cp_put (T := TX6) (N := 6) (ci := 6) (j := 0) hx hb htT hinX6 tyX6 tyX6_ok nmX6 hown hK hJ hP hS rfl (by decide) rfl (htT _ tw_375) rfl rfl rfl eD9 dX6_inner_60 (fun H locs hP hS => ?_)
          refine lv_aload_n hx hb dX6_inner_63 rfl (lv_at hl 0 rfl) ?_
          obtain ⟨v10, ev10, hF⟩ := cp_bind hF
          refine cp_getI (T := TX6) (N := 6) (ci := 6) (j := 0) hx hb htT hinX6 hown hK hP rfl (by decide) rfl (htT _ tw_375) ev10 dX6_inner_64 ?_
          refine lv_if_le (tgt := 74) hx hb dX6_inner_67 (by decide) (fun hc11 => ?_) (fun hc11 => ?_)
          · rw [if_pos hc11] at hF
            refine lv_aload_n hx hb dX6_inner_74 rfl (lv_at hl 0 rfl) ?_
            obtain ⟨r12, er12, hF⟩ := cp_bind hF
            refine cp_getR (T := TX6) (N := 6) (ci := 6) (j := 3) hx hb htT hinX6 hown hK hP rfl (by decide) rfl (htT _ tw_378) er12 dX6_inner_75 ?_
            refine lv_iload_n hx hb dX6_inner_78 rfl (lv_at hl 1 rfl) ?_
            obtain ⟨y13, ey13, hF⟩ := cp_bind hF
            refine cp_call (st1 := [.int y13.1, .ref (L.2.1 r12)]) (va_runS (As := [.int x1]) (rest := [.ref (L.2.1 r12)]) ⟨hx, hb, hml, hown, htT⟩ (ct_X6_at l G L hJ q x1 D9 y13 ey13) ⟨callB_of 1 htT gdX6_at rfl rfl rfl (htT _ tw_8) (htT _ tw_417) hdX6_at ⟨Nat.le_of_ble_eq_true rfl, Nat.le_of_ble_eq_true rfl⟩, (htT _ tw_418)⟩ ⟨cp_blind, cp_pre hP hK hN hZ hS⟩ rfl rfl hl.1 rfl (lv_room (Nat.le_of_ble_eq_true rfl)) dX6_inner_79 ⟨Nat.zero_le _, Nat.zero_le _⟩) hS (fun H locs hP hS => ?_)
            refine lv_iload_n hx hb dX6_inner_82 rfl (lv_at hl 2 rfl) ?_
            refine lv_if_eq (tgt := 91) hx hb dX6_inner_83 (by decide) (fun hc14 => ?_) (fun hc14 => ?_)
            · rw [if_pos hc14] at hF
              refine lv_bipush (v := (18 : Int32)) hx hb dX6_inner_91 (by decide) ?_
              refine lv_iadd hx hb dX6_inner_93 ?_
              refine lv_iload_n hx hb dX6_inner_94 rfl (lv_at hl 3 rfl) ?_
              refine lv_iadd hx hb dX6_inner_95 ?_
              obtain ⟨v15, ev15, hF⟩ := cp_bind hF
              refine cp_iald hx hb hK hP ev15 dX6_inner_96 ?_
              refine lv_i2b hx hb dX6_inner_97 rfl ?_
              obtain ⟨u16, eu16, hF⟩ := cp_bind hF
              exact cp_zret hx hb hr hlocks (cp_gby_n eu16) hF hP hS dX6_inner_98
            · rw [if_neg hc14] at hF
              refine lv_bipush (v := (34 : Int32)) hx hb dX6_inner_86 (by decide) ?_
              refine lv_goto (tgt := 93) hx hb dX6_inner_88 (by decide) ?_
              refine lv_iadd hx hb dX6_inner_93 ?_
              refine lv_iload_n hx hb dX6_inner_94 rfl (lv_at hl 3 rfl) ?_
              refine lv_iadd hx hb dX6_inner_95 ?_
              obtain ⟨v17, ev17, hF⟩ := cp_bind hF
              refine cp_iald hx hb hK hP ev17 dX6_inner_96 ?_
              refine lv_i2b hx hb dX6_inner_97 rfl ?_
              obtain ⟨u18, eu18, hF⟩ := cp_bind hF
              exact cp_zret hx hb hr hlocks (cp_gby_n eu18) hF hP hS dX6_inner_98
          · rw [if_neg hc11] at hF
            refine lv_iconst (v := (0 : Int32)) hx hb dX6_inner_70 (by decide) ?_
            refine lv_goto (tgt := 98) hx hb dX6_inner_71 (by decide) ?_
            exact cp_zret hx hb hr hlocks (by decide) hF hP hS dX6_inner_98
        · rw [if_neg hc8] at hF
          refine lv_iconst (v := (1 : Int32)) hx hb dX6_inner_55 (by decide) ?_
          refine lv_goto (tgt := 60) hx hb dX6_inner_56 (by decide) ?_
          obtain ⟨D19, eD19, hF⟩ := cp_bind hF
          refine cp_put (T := TX6) (N := 6) (ci := 6) (j := 0) hx hb htT hinX6 tyX6 tyX6_ok nmX6 hown hK hJ hP hS rfl (by decide) rfl (htT _ tw_375) rfl rfl rfl eD19 dX6_inner_60 (fun H locs hP hS => ?_)
          refine lv_aload_n hx hb dX6_inner_63 rfl (lv_at hl 0 rfl) ?_
          obtain ⟨v20, ev20, hF⟩ := cp_bind hF
          refine cp_getI (T := TX6) (N := 6) (ci := 6) (j := 0) hx hb htT hinX6 hown hK hP rfl (by decide) rfl (htT _ tw_375) ev20 dX6_inner_64 ?_
          refine lv_if_le (tgt := 74) hx hb dX6_inner_67 (by decide) (fun hc21 => ?_) (fun hc21 => ?_)
          · rw [if_pos hc21] at hF
            refine lv_aload_n hx hb dX6_inner_74 rfl (lv_at hl 0 rfl) ?_
            obtain ⟨r22, er22, hF⟩ := cp_bind hF
            refine cp_getR (T := TX6) (N := 6) (ci := 6) (j := 3) hx hb htT hinX6 hown hK hP rfl (by decide) rfl (htT _ tw_378) er22 dX6_inner_75 ?_
            refine lv_iload_n hx hb dX6_inner_78 rfl (lv_at hl 1 rfl) ?_
            obtain ⟨y23, ey23, hF⟩ := cp_bind hF
            refine cp_call (st1 := [.int y23.1, .ref (L.2.1 r22)]) (va_runS (As := [.int x1]) (rest := [.ref (L.2.1 r22)]) ⟨hx, hb, hml, hown, htT⟩ (ct_X6_at l G L hJ q x1 D19 y23 ey23) ⟨callB_of 1 htT gdX6_at rfl rfl rfl (htT _ tw_8) (htT _ tw_417) hdX6_at ⟨Nat.le_of_ble_eq_true rfl, Nat.le_of_ble_eq_true rfl⟩, (htT _ tw_418)⟩ ⟨cp_blind, cp_pre hP hK hN hZ hS⟩ rfl rfl hl.1 rfl (lv_room (Nat.le_of_ble_eq_true rfl)) dX6_inner_79 ⟨Nat.zero_le _, Nat.zero_le _⟩) hS (fun H locs hP hS => ?_)
            refine lv_iload_n hx hb dX6_inner_82 rfl (lv_at hl 2 rfl) ?_
            refine lv_if_eq (tgt := 91) hx hb dX6_inner_83 (by decide) (fun hc24 => ?_) (fun hc24 => ?_)
            · rw [if_pos hc24] at hF
              refine lv_bipush (v := (18 : Int32)) hx hb dX6_inner_91 (by decide) ?_
              refine lv_iadd hx hb dX6_inner_93 ?_
              refine lv_iload_n hx hb dX6_inner_94 rfl (lv_at hl 3 rfl) ?_
              refine lv_iadd hx hb dX6_inner_95 ?_
              obtain ⟨v25, ev25, hF⟩ := cp_bind hF
              refine cp_iald hx hb hK hP ev25 dX6_inner_96 ?_
              refine lv_i2b hx hb dX6_inner_97 rfl ?_
              obtain ⟨u26, eu26, hF⟩ := cp_bind hF
              exact cp_zret hx hb hr hlocks (cp_gby_n eu26) hF hP hS dX6_inner_98
            · rw [if_neg hc24] at hF
              refine lv_bipush (v := (34 : Int32)) hx hb dX6_inner_86 (by decide) ?_
              refine lv_goto (tgt := 93) hx hb dX6_inner_88 (by decide) ?_
              refine lv_iadd hx hb dX6_inner_93 ?_
              refine lv_iload_n hx hb dX6_inner_94 rfl (lv_at hl 3 rfl) ?_
              refine lv_iadd hx hb dX6_inner_95 ?_
              obtain ⟨v27, ev27, hF⟩ := cp_bind hF
              refine cp_iald hx hb hK hP ev27 dX6_inner_96 ?_
              refine lv_i2b hx hb dX6_inner_97 rfl ?_
              obtain ⟨u28, eu28, hF⟩ := cp_bind hF
              exact cp_zret hx hb hr hlocks (cp_gby_n eu28) hF hP hS dX6_inner_98
          · rw [if_neg hc21] at hF
            refine lv_iconst (v := (0 : Int32)) hx hb dX6_inner_70 (by decide) ?_
            refine lv_goto (tgt := 98) hx hb dX6_inner_71 (by decide) ?_
            exact cp_zret hx hb hr hlocks (by decide) hF hP hS dX6_inner_98
      · rw [if_neg hc7] at hF
        refine lv_aload_n hx hb dX6_inner_36 rfl (lv_at hl 0 rfl) ?_
        obtain ⟨r29, er29, hF⟩ := cp_bind hF
        refine cp_getR (T := TX6) (N := 6) (ci := 6) (j := 3) hx hb htT hinX6 hown hK hP rfl (by decide) rfl (htT _ tw_378) er29 dX6_inner_37 ?_
        refine lv_iload_n hx hb dX6_inner_40 rfl (lv_at hl 1 rfl) ?_
        obtain ⟨y30, ey30, hF⟩ := cp_bind hF
        refine cp_call (st1 := [.int y30.1, .ref (L.2.1 r29), .int x3, .ref (L.2.1 k0)]) (va_runS (As := [.int x1]) (rest := [.ref (L.2.1 r29), .int x3, .ref (L.2.1 k0)]) ⟨hx, hb, hml, hown, htT⟩ (ct_X6_at l G L hJ q x1 D4 y30 ey30) ⟨callB_of 1 htT gdX6_at rfl rfl rfl (htT _ tw_8) (htT _ tw_417) hdX6_at ⟨Nat.le_of_ble_eq_true rfl, Nat.le_of_ble_eq_true rfl⟩, (htT _ tw_418)⟩ ⟨cp_blind, cp_pre hP hK hN hZ hS⟩ rfl rfl hl.1 rfl (lv_room (Nat.le_of_ble_eq_true rfl)) dX6_inner_41 ⟨Nat.zero_le _, Nat.zero_le _⟩) hS (fun H locs hP hS => ?_)
        refine lv_iconst (v := (5 : Int32)) hx hb dX6_inner_44 (by decide) ?_
        refine lv_iadd hx hb dX6_inner_45 ?_
        obtain ⟨v31, ev31, hF⟩ := cp_bind hF
        refine cp_iald hx hb hK hP ev31 dX6_inner_46 ?_
        refine lv_goto (tgt := 52) hx hb dX6_inner_47 (by decide) ?_
        refine lv_icmp_lt (tgt := 59) hx hb dX6_inner_52 (by decide) (fun hc32 => ?_) (fun hc32 => ?_)
        · rw [if_pos hc32] at hF
          refine lv_iconst (v := (0 : Int32)) hx hb dX6_inner_59 (by decide) ?_
          obtain ⟨D33, eD33, hF⟩ := cp_bind hF
          refine cp_put (T := TX6) (N := 6) (ci := 6) (j := 0) hx hb htT hinX6 tyX6 tyX6_ok nmX6 hown hK hJ hP hS rfl (by decide) rfl (htT _ tw_375) rfl rfl rfl eD33 dX6_inner_60 (fun H locs hP hS => ?_)
          refine lv_aload_n hx hb dX6_inner_63 rfl (lv_at hl 0 rfl) ?_
          obtain ⟨v34, ev34, hF⟩ := cp_bind hF
          refine cp_getI (T := TX6) (N := 6) (ci := 6) (j := 0) hx hb htT hinX6 hown hK hP rfl (by decide) rfl (htT _ tw_375) ev34 dX6_inner_64 ?_
          refine lv_if_le (tgt := 74) hx hb dX6_inner_67 (by decide) (fun hc35 => ?_) (fun hc35 => ?_)
          · rw [if_pos hc35] at hF
            refine lv_aload_n hx hb dX6_inner_74 rfl (lv_at hl 0 rfl) ?_
            obtain ⟨r36, er36, hF⟩ := cp_bind hF
            refine cp_getR (T := TX6) (N := 6) (ci := 6) (j := 3) hx hb htT hinX6 hown hK hP rfl (by decide) rfl (htT _ tw_378) er36 dX6_inner_75 ?_
            refine lv_iload_n hx hb dX6_inner_78 rfl (lv_at hl 1 rfl) ?_
            obtain ⟨y37, ey37, hF⟩ := cp_bind hF
            refine cp_call (st1 := [.int y37.1, .ref (L.2.1 r36)]) (va_runS (As := [.int x1]) (rest := [.ref (L.2.1 r36)]) ⟨hx, hb, hml, hown, htT⟩ (ct_X6_at l G L hJ q x1 D33 y37 ey37) ⟨callB_of 1 htT gdX6_at rfl rfl rfl (htT _ tw_8) (htT _ tw_417) hdX6_at ⟨Nat.le_of_ble_eq_true rfl, Nat.le_of_ble_eq_true rfl⟩, (htT _ tw_418)⟩ ⟨cp_blind, cp_pre hP hK hN hZ hS⟩ rfl rfl hl.1 rfl (lv_room (Nat.le_of_ble_eq_true rfl)) dX6_inner_79 ⟨Nat.zero_le _, Nat.zero_le _⟩) hS (fun H locs hP hS => ?_)
            refine lv_iload_n hx hb dX6_inner_82 rfl (lv_at hl 2 rfl) ?_
            refine lv_if_eq (tgt := 91) hx hb dX6_inner_83 (by decide) (fun hc38 => ?_) (fun hc38 => ?_)
            · rw [if_pos hc38] at hF
              refine lv_bipush (v := (18 : Int32)) hx hb dX6_inner_91 (by decide) ?_
              refine lv_iadd hx hb dX6_inner_93 ?_
              refine lv_iload_n hx hb dX6_inner_94 rfl (lv_at hl 3 rfl) ?_
              refine lv_iadd hx hb dX6_inner_95 ?_
              obtain ⟨v39, ev39, hF⟩ := cp_bind hF
              refine cp_iald hx hb hK hP ev39 dX6_inner_96 ?_
              refine lv_i2b hx hb dX6_inner_97 rfl ?_
              obtain ⟨u40, eu40, hF⟩ := cp_bind hF
              exact cp_zret hx hb hr hlocks (cp_gby_n eu40) hF hP hS dX6_inner_98
            · rw [if_neg hc38] at hF
              refine lv_bipush (v := (34 : Int32)) hx hb dX6_inner_86 (by decide) ?_
              refine lv_goto (tgt := 93) hx hb dX6_inner_88 (by decide) ?_
              refine lv_iadd hx hb dX6_inner_93 ?_
              refine lv_iload_n hx hb dX6_inner_94 rfl (lv_at hl 3 rfl) ?_
              refine lv_iadd hx hb dX6_inner_95 ?_
              obtain ⟨v41, ev41, hF⟩ := cp_bind hF
              refine cp_iald hx hb hK hP ev41 dX6_inner_96 ?_
              refine lv_i2b hx hb dX6_inner_97 rfl ?_
              obtain ⟨u42, eu42, hF⟩ := cp_bind hF
              exact cp_zret hx hb hr hlocks (cp_gby_n eu42) hF hP hS dX6_inner_98
          · rw [if_neg hc35] at hF
            refine lv_iconst (v := (0 : Int32)) hx hb dX6_inner_70 (by decide) ?_
            refine lv_goto (tgt := 98) hx hb dX6_inner_71 (by decide) ?_
            exact cp_zret hx hb hr hlocks (by decide) hF hP hS dX6_inner_98
        · rw [if_neg hc32] at hF
          refine lv_iconst (v := (1 : Int32)) hx hb dX6_inner_55 (by decide) ?_
          refine lv_goto (tgt := 60) hx hb dX6_inner_56 (by decide) ?_
          obtain ⟨D43, eD43, hF⟩ := cp_bind hF
          refine cp_put (T := TX6) (N := 6) (ci := 6) (j := 0) hx hb htT hinX6 tyX6 tyX6_ok nmX6 hown hK hJ hP hS rfl (by decide) rfl (htT _ tw_375) rfl rfl rfl eD43 dX6_inner_60 (fun H locs hP hS => ?_)
          refine lv_aload_n hx hb dX6_inner_63 rfl (lv_at hl 0 rfl) ?_
          obtain ⟨v44, ev44, hF⟩ := cp_bind hF
          refine cp_getI (T := TX6) (N := 6) (ci := 6) (j := 0) hx hb htT hinX6 hown hK hP rfl (by decide) rfl (htT _ tw_375) ev44 dX6_inner_64 ?_
          refine lv_if_le (tgt := 74) hx hb dX6_inner_67 (by decide) (fun hc45 => ?_) (fun hc45 => ?_)
          · rw [if_pos hc45] at hF
            refine lv_aload_n hx hb dX6_inner_74 rfl (lv_at hl 0 rfl) ?_
            obtain ⟨r46, er46, hF⟩ := cp_bind hF
            refine cp_getR (T := TX6) (N := 6) (ci := 6) (j := 3) hx hb htT hinX6 hown hK hP rfl (by decide) rfl (htT _ tw_378) er46 dX6_inner_75 ?_
            refine lv_iload_n hx hb dX6_inner_78 rfl (lv_at hl 1 rfl) ?_
            obtain ⟨y47, ey47, hF⟩ := cp_bind hF
            refine cp_call (st1 := [.int y47.1, .ref (L.2.1 r46)]) (va_runS (As := [.int x1]) (rest := [.ref (L.2.1 r46)]) ⟨hx, hb, hml, hown, htT⟩ (ct_X6_at l G L hJ q x1 D43 y47 ey47) ⟨callB_of 1 htT gdX6_at rfl rfl rfl (htT _ tw_8) (htT _ tw_417) hdX6_at ⟨Nat.le_of_ble_eq_true rfl, Nat.le_of_ble_eq_true rfl⟩, (htT _ tw_418)⟩ ⟨cp_blind, cp_pre hP hK hN hZ hS⟩ rfl rfl hl.1 rfl (lv_room (Nat.le_of_ble_eq_true rfl)) dX6_inner_79 ⟨Nat.zero_le _, Nat.zero_le _⟩) hS (fun H locs hP hS => ?_)
            refine lv_iload_n hx hb dX6_inner_82 rfl (lv_at hl 2 rfl) ?_
            refine lv_if_eq (tgt := 91) hx hb dX6_inner_83 (by decide) (fun hc48 => ?_) (fun hc48 => ?_)
            · rw [if_pos hc48] at hF
              refine lv_bipush (v := (18 : Int32)) hx hb dX6_inner_91 (by decide) ?_
              refine lv_iadd hx hb dX6_inner_93 ?_
              refine lv_iload_n hx hb dX6_inner_94 rfl (lv_at hl 3 rfl) ?_
              refine lv_iadd hx hb dX6_inner_95 ?_
              obtain ⟨v49, ev49, hF⟩ := cp_bind hF
              refine cp_iald hx hb hK hP ev49 dX6_inner_96 ?_
              refine lv_i2b hx hb dX6_inner_97 rfl ?_
              obtain ⟨u50, eu50, hF⟩ := cp_bind hF
              exact cp_zret hx hb hr hlocks (cp_gby_n eu50) hF hP hS dX6_inner_98
            · rw [if_neg hc48] at hF
              refine lv_bipush (v := (34 : Int32)) hx hb dX6_inner_86 (by decide) ?_
              refine lv_goto (tgt := 93) hx hb dX6_inner_88 (by decide) ?_
              refine lv_iadd hx hb dX6_inner_93 ?_
              refine lv_iload_n hx hb dX6_inner_94 rfl (lv_at hl 3 rfl) ?_
              refine lv_iadd hx hb dX6_inner_95 ?_
              obtain ⟨v51, ev51, hF⟩ := cp_bind hF
              refine cp_iald hx hb hK hP ev51 dX6_inner_96 ?_
              refine lv_i2b hx hb dX6_inner_97 rfl ?_
              obtain ⟨u52, eu52, hF⟩ := cp_bind hF
              exact cp_zret hx hb hr hlocks (cp_gby_n eu52) hF hP hS dX6_inner_98
          · rw [if_neg hc45] at hF
            refine lv_iconst (v := (0 : Int32)) hx hb dX6_inner_70 (by decide) ?_
            refine lv_goto (tgt := 98) hx hb dX6_inner_71 (by decide) ?_
            exact cp_zret hx hb hr hlocks (by decide) hF hP hS dX6_inner_98
    · rw [if_neg hc6] at hF
      refine lv_iconst (v := (0 : Int32)) hx hb dX6_inner_28 (by decide) ?_
      exact cp_zret hx hb hr hlocks (by decide) hF hP hS dX6_inner_29
  · rw [if_neg hc3] at hF
    refine lv_iload_n hx hb dX6_inner_9 rfl (lv_at hl 3 rfl) ?_
    refine lv_if_ge (tgt := 17) hx hb dX6_inner_10 (by decide) (fun hc53 => ?_) (fun hc53 => ?_)
    · rw [if_pos hc53] at hF
      refine lv_iconst (v := (0 : Int32)) hx hb dX6_inner_17 (by decide) ?_
      obtain ⟨D54, eD54, hF⟩ := cp_bind hF
      refine cp_put (T := TX6) (N := 6) (ci := 6) (j := 0) hx hb htT hinX6 tyX6 tyX6_ok nmX6 hown hK hJ hP hS rfl (by decide) rfl (htT _ tw_375) rfl rfl rfl eD54 dX6_inner_18 (fun H locs hP hS => ?_)
      refine lv_aload_n hx hb dX6_inner_21 rfl (lv_at hl 0 rfl) ?_
      obtain ⟨v55, ev55, hF⟩ := cp_bind hF
      refine cp_getI (T := TX6) (N := 6) (ci := 6) (j := 0) hx hb htT hinX6 hown hK hP rfl (by decide) rfl (htT _ tw_375) ev55 dX6_inner_22 ?_
      refine lv_if_le (tgt := 30) hx hb dX6_inner_25 (by decide) (fun hc56 => ?_) (fun hc56 => ?_)
      · rw [if_pos hc56] at hF
        refine lv_aload_n hx hb dX6_inner_30 rfl (lv_at hl 0 rfl) ?_
        refine lv_iload_n hx hb dX6_inner_31 rfl (lv_at hl 3 rfl) ?_
        refine lv_iload_n hx hb dX6_inner_32 rfl (lv_at hl 2 rfl) ?_
        refine lv_if_eq (tgt := 50) hx hb dX6_inner_33 (by decide) (fun hc57 => ?_) (fun hc57 => ?_)
        · rw [if_pos hc57] at hF
          refine lv_bipush (v := (16 : Int32)) hx hb dX6_inner_50 (by decide) ?_
          refine lv_icmp_lt (tgt := 59) hx hb dX6_inner_52 (by decide) (fun hc58 => ?_) (fun hc58 => ?_)
          · rw [if_pos hc58] at hF
            refine lv_iconst (v := (0 : Int32)) hx hb dX6_inner_59 (by decide) ?_
            obtain ⟨D59, eD59, hF⟩ := cp_bind hF
            refine cp_put (T := TX6) (N := 6) (ci := 6) (j := 0) hx hb htT hinX6 tyX6 tyX6_ok nmX6 hown hK hJ hP hS rfl (by decide) rfl (htT _ tw_375) rfl rfl rfl eD59 dX6_inner_60 (fun H locs hP hS => ?_)
            refine lv_aload_n hx hb dX6_inner_63 rfl (lv_at hl 0 rfl) ?_
            obtain ⟨v60, ev60, hF⟩ := cp_bind hF
            refine cp_getI (T := TX6) (N := 6) (ci := 6) (j := 0) hx hb htT hinX6 hown hK hP rfl (by decide) rfl (htT _ tw_375) ev60 dX6_inner_64 ?_
            refine lv_if_le (tgt := 74) hx hb dX6_inner_67 (by decide) (fun hc61 => ?_) (fun hc61 => ?_)
            · rw [if_pos hc61] at hF
              refine lv_aload_n hx hb dX6_inner_74 rfl (lv_at hl 0 rfl) ?_
              obtain ⟨r62, er62, hF⟩ := cp_bind hF
              refine cp_getR (T := TX6) (N := 6) (ci := 6) (j := 3) hx hb htT hinX6 hown hK hP rfl (by decide) rfl (htT _ tw_378) er62 dX6_inner_75 ?_
              refine lv_iload_n hx hb dX6_inner_78 rfl (lv_at hl 1 rfl) ?_
              obtain ⟨y63, ey63, hF⟩ := cp_bind hF
              refine cp_call (st1 := [.int y63.1, .ref (L.2.1 r62)]) (va_runS (As := [.int x1]) (rest := [.ref (L.2.1 r62)]) ⟨hx, hb, hml, hown, htT⟩ (ct_X6_at l G L hJ q x1 D59 y63 ey63) ⟨callB_of 1 htT gdX6_at rfl rfl rfl (htT _ tw_8) (htT _ tw_417) hdX6_at ⟨Nat.le_of_ble_eq_true rfl, Nat.le_of_ble_eq_true rfl⟩, (htT _ tw_418)⟩ ⟨cp_blind, cp_pre hP hK hN hZ hS⟩ rfl rfl hl.1 rfl (lv_room (Nat.le_of_ble_eq_true rfl)) dX6_inner_79 ⟨Nat.zero_le _, Nat.zero_le _⟩) hS (fun H locs hP hS => ?_)
              refine lv_iload_n hx hb dX6_inner_82 rfl (lv_at hl 2 rfl) ?_
              refine lv_if_eq (tgt := 91) hx hb dX6_inner_83 (by decide) (fun hc64 => ?_) (fun hc64 => ?_)
              · rw [if_pos hc64] at hF
                refine lv_bipush (v := (18 : Int32)) hx hb dX6_inner_91 (by decide) ?_
                refine lv_iadd hx hb dX6_inner_93 ?_
                refine lv_iload_n hx hb dX6_inner_94 rfl (lv_at hl 3 rfl) ?_
                refine lv_iadd hx hb dX6_inner_95 ?_
                obtain ⟨v65, ev65, hF⟩ := cp_bind hF
                refine cp_iald hx hb hK hP ev65 dX6_inner_96 ?_
                refine lv_i2b hx hb dX6_inner_97 rfl ?_
                obtain ⟨u66, eu66, hF⟩ := cp_bind hF
                exact cp_zret hx hb hr hlocks (cp_gby_n eu66) hF hP hS dX6_inner_98
              · rw [if_neg hc64] at hF
                refine lv_bipush (v := (34 : Int32)) hx hb dX6_inner_86 (by decide) ?_
                refine lv_goto (tgt := 93) hx hb dX6_inner_88 (by decide) ?_
                refine lv_iadd hx hb dX6_inner_93 ?_
                refine lv_iload_n hx hb dX6_inner_94 rfl (lv_at hl 3 rfl) ?_
                refine lv_iadd hx hb dX6_inner_95 ?_
                obtain ⟨v67, ev67, hF⟩ := cp_bind hF
                refine cp_iald hx hb hK hP ev67 dX6_inner_96 ?_
                refine lv_i2b hx hb dX6_inner_97 rfl ?_
                obtain ⟨u68, eu68, hF⟩ := cp_bind hF
                exact cp_zret hx hb hr hlocks (cp_gby_n eu68) hF hP hS dX6_inner_98
            · rw [if_neg hc61] at hF
              refine lv_iconst (v := (0 : Int32)) hx hb dX6_inner_70 (by decide) ?_
              refine lv_goto (tgt := 98) hx hb dX6_inner_71 (by decide) ?_
              exact cp_zret hx hb hr hlocks (by decide) hF hP hS dX6_inner_98
          · rw [if_neg hc58] at hF
            refine lv_iconst (v := (1 : Int32)) hx hb dX6_inner_55 (by decide) ?_
            refine lv_goto (tgt := 60) hx hb dX6_inner_56 (by decide) ?_
            obtain ⟨D69, eD69, hF⟩ := cp_bind hF
            refine cp_put (T := TX6) (N := 6) (ci := 6) (j := 0) hx hb htT hinX6 tyX6 tyX6_ok nmX6 hown hK hJ hP hS rfl (by decide) rfl (htT _ tw_375) rfl rfl rfl eD69 dX6_inner_60 (fun H locs hP hS => ?_)
            refine lv_aload_n hx hb dX6_inner_63 rfl (lv_at hl 0 rfl) ?_
            obtain ⟨v70, ev70, hF⟩ := cp_bind hF
            refine cp_getI (T := TX6) (N := 6) (ci := 6) (j := 0) hx hb htT hinX6 hown hK hP rfl (by decide) rfl (htT _ tw_375) ev70 dX6_inner_64 ?_
            refine lv_if_le (tgt := 74) hx hb dX6_inner_67 (by decide) (fun hc71 => ?_) (fun hc71 => ?_)
            · rw [if_pos hc71] at hF
              refine lv_aload_n hx hb dX6_inner_74 rfl (lv_at hl 0 rfl) ?_
              obtain ⟨r72, er72, hF⟩ := cp_bind hF
              refine cp_getR (T := TX6) (N := 6) (ci := 6) (j := 3) hx hb htT hinX6 hown hK hP rfl (by decide) rfl (htT _ tw_378) er72 dX6_inner_75 ?_
              refine lv_iload_n hx hb dX6_inner_78 rfl (lv_at hl 1 rfl) ?_
              obtain ⟨y73, ey73, hF⟩ := cp_bind hF
              refine cp_call (st1 := [.int y73.1, .ref (L.2.1 r72)]) (va_runS (As := [.int x1]) (rest := [.ref (L.2.1 r72)]) ⟨hx, hb, hml, hown, htT⟩ (ct_X6_at l G L hJ q x1 D69 y73 ey73) ⟨callB_of 1 htT gdX6_at rfl rfl rfl (htT _ tw_8) (htT _ tw_417) hdX6_at ⟨Nat.le_of_ble_eq_true rfl, Nat.le_of_ble_eq_true rfl⟩, (htT _ tw_418)⟩ ⟨cp_blind, cp_pre hP hK hN hZ hS⟩ rfl rfl hl.1 rfl (lv_room (Nat.le_of_ble_eq_true rfl)) dX6_inner_79 ⟨Nat.zero_le _, Nat.zero_le _⟩) hS (fun H locs hP hS => ?_)
              refine lv_iload_n hx hb dX6_inner_82 rfl (lv_at hl 2 rfl) ?_
              refine lv_if_eq (tgt := 91) hx hb dX6_inner_83 (by decide) (fun hc74 => ?_) (fun hc74 => ?_)
              · rw [if_pos hc74] at hF
                refine lv_bipush (v := (18 : Int32)) hx hb dX6_inner_91 (by decide) ?_
                refine lv_iadd hx hb dX6_inner_93 ?_
                refine lv_iload_n hx hb dX6_inner_94 rfl (lv_at hl 3 rfl) ?_
                refine lv_iadd hx hb dX6_inner_95 ?_
                obtain ⟨v75, ev75, hF⟩ := cp_bind hF
                refine cp_iald hx hb hK hP ev75 dX6_inner_96 ?_
                refine lv_i2b hx hb dX6_inner_97 rfl ?_
                obtain ⟨u76, eu76, hF⟩ := cp_bind hF
                exact cp_zret hx hb hr hlocks (cp_gby_n eu76) hF hP hS dX6_inner_98
              · rw [if_neg hc74] at hF
                refine lv_bipush (v := (34 : Int32)) hx hb dX6_inner_86 (by decide) ?_
                refine lv_goto (tgt := 93) hx hb dX6_inner_88 (by decide) ?_
                refine lv_iadd hx hb dX6_inner_93 ?_
                refine lv_iload_n hx hb dX6_inner_94 rfl (lv_at hl 3 rfl) ?_
                refine lv_iadd hx hb dX6_inner_95 ?_
                obtain ⟨v77, ev77, hF⟩ := cp_bind hF
                refine cp_iald hx hb hK hP ev77 dX6_inner_96 ?_
                refine lv_i2b hx hb dX6_inner_97 rfl ?_
                obtain ⟨u78, eu78, hF⟩ := cp_bind hF
                exact cp_zret hx hb hr hlocks (cp_gby_n eu78) hF hP hS dX6_inner_98
            · rw [if_neg hc71] at hF
              refine lv_iconst (v := (0 : Int32)) hx hb dX6_inner_70 (by decide) ?_
              refine lv_goto (tgt := 98) hx hb dX6_inner_71 (by decide) ?_
              exact cp_zret hx hb hr hlocks (by decide) hF hP hS dX6_inner_98
        · rw [if_neg hc57] at hF
          refine lv_aload_n hx hb dX6_inner_36 rfl (lv_at hl 0 rfl) ?_
          obtain ⟨r79, er79, hF⟩ := cp_bind hF
          refine cp_getR (T := TX6) (N := 6) (ci := 6) (j := 3) hx hb htT hinX6 hown hK hP rfl (by decide) rfl (htT _ tw_378) er79 dX6_inner_37 ?_
          refine lv_iload_n hx hb dX6_inner_40 rfl (lv_at hl 1 rfl) ?_
          obtain ⟨y80, ey80, hF⟩ := cp_bind hF
          refine cp_call (st1 := [.int y80.1, .ref (L.2.1 r79), .int x3, .ref (L.2.1 k0)]) (va_runS (As := [.int x1]) (rest := [.ref (L.2.1 r79), .int x3, .ref (L.2.1 k0)]) ⟨hx, hb, hml, hown, htT⟩ (ct_X6_at l G L hJ q x1 D54 y80 ey80) ⟨callB_of 1 htT gdX6_at rfl rfl rfl (htT _ tw_8) (htT _ tw_417) hdX6_at ⟨Nat.le_of_ble_eq_true rfl, Nat.le_of_ble_eq_true rfl⟩, (htT _ tw_418)⟩ ⟨cp_blind, cp_pre hP hK hN hZ hS⟩ rfl rfl hl.1 rfl (lv_room (Nat.le_of_ble_eq_true rfl)) dX6_inner_41 ⟨Nat.zero_le _, Nat.zero_le _⟩) hS (fun H locs hP hS => ?_)
          refine lv_iconst (v := (5 : Int32)) hx hb dX6_inner_44 (by decide) ?_
          refine lv_iadd hx hb dX6_inner_45 ?_
          obtain ⟨v81, ev81, hF⟩ := cp_bind hF
          refine cp_iald hx hb hK hP ev81 dX6_inner_46 ?_
          refine lv_goto (tgt := 52) hx hb dX6_inner_47 (by decide) ?_
          refine lv_icmp_lt (tgt := 59) hx hb dX6_inner_52 (by decide) (fun hc82 => ?_) (fun hc82 => ?_)
          · rw [if_pos hc82] at hF
            refine lv_iconst (v := (0 : Int32)) hx hb dX6_inner_59 (by decide) ?_
            obtain ⟨D83, eD83, hF⟩ := cp_bind hF
            refine cp_put (T := TX6) (N := 6) (ci := 6) (j := 0) hx hb htT hinX6 tyX6 tyX6_ok nmX6 hown hK hJ hP hS rfl (by decide) rfl (htT _ tw_375) rfl rfl rfl eD83 dX6_inner_60 (fun H locs hP hS => ?_)
            refine lv_aload_n hx hb dX6_inner_63 rfl (lv_at hl 0 rfl) ?_
            obtain ⟨v84, ev84, hF⟩ := cp_bind hF
            refine cp_getI (T := TX6) (N := 6) (ci := 6) (j := 0) hx hb htT hinX6 hown hK hP rfl (by decide) rfl (htT _ tw_375) ev84 dX6_inner_64 ?_
            refine lv_if_le (tgt := 74) hx hb dX6_inner_67 (by decide) (fun hc85 => ?_) (fun hc85 => ?_)
            · rw [if_pos hc85] at hF
              refine lv_aload_n hx hb dX6_inner_74 rfl (lv_at hl 0 rfl) ?_
              obtain ⟨r86, er86, hF⟩ := cp_bind hF
              refine cp_getR (T := TX6) (N := 6) (ci := 6) (j := 3) hx hb htT hinX6 hown hK hP rfl (by decide) rfl (htT _ tw_378) er86 dX6_inner_75 ?_
              refine lv_iload_n hx hb dX6_inner_78 rfl (lv_at hl 1 rfl) ?_
              obtain ⟨y87, ey87, hF⟩ := cp_bind hF
              refine cp_call (st1 := [.int y87.1, .ref (L.2.1 r86)]) (va_runS (As := [.int x1]) (rest := [.ref (L.2.1 r86)]) ⟨hx, hb, hml, hown, htT⟩ (ct_X6_at l G L hJ q x1 D83 y87 ey87) ⟨callB_of 1 htT gdX6_at rfl rfl rfl (htT _ tw_8) (htT _ tw_417) hdX6_at ⟨Nat.le_of_ble_eq_true rfl, Nat.le_of_ble_eq_true rfl⟩, (htT _ tw_418)⟩ ⟨cp_blind, cp_pre hP hK hN hZ hS⟩ rfl rfl hl.1 rfl (lv_room (Nat.le_of_ble_eq_true rfl)) dX6_inner_79 ⟨Nat.zero_le _, Nat.zero_le _⟩) hS (fun H locs hP hS => ?_)
              refine lv_iload_n hx hb dX6_inner_82 rfl (lv_at hl 2 rfl) ?_
              refine lv_if_eq (tgt := 91) hx hb dX6_inner_83 (by decide) (fun hc88 => ?_) (fun hc88 => ?_)
              · rw [if_pos hc88] at hF
                refine lv_bipush (v := (18 : Int32)) hx hb dX6_inner_91 (by decide) ?_
                refine lv_iadd hx hb dX6_inner_93 ?_
                refine lv_iload_n hx hb dX6_inner_94 rfl (lv_at hl 3 rfl) ?_
                refine lv_iadd hx hb dX6_inner_95 ?_
                obtain ⟨v89, ev89, hF⟩ := cp_bind hF
                refine cp_iald hx hb hK hP ev89 dX6_inner_96 ?_
                refine lv_i2b hx hb dX6_inner_97 rfl ?_
                obtain ⟨u90, eu90, hF⟩ := cp_bind hF
                exact cp_zret hx hb hr hlocks (cp_gby_n eu90) hF hP hS dX6_inner_98
              · rw [if_neg hc88] at hF
                refine lv_bipush (v := (34 : Int32)) hx hb dX6_inner_86 (by decide) ?_
                refine lv_goto (tgt := 93) hx hb dX6_inner_88 (by decide) ?_
                refine lv_iadd hx hb dX6_inner_93 ?_
                refine lv_iload_n hx hb dX6_inner_94 rfl (lv_at hl 3 rfl) ?_
                refine lv_iadd hx hb dX6_inner_95 ?_
                obtain ⟨v91, ev91, hF⟩ := cp_bind hF
                refine cp_iald hx hb hK hP ev91 dX6_inner_96 ?_
                refine lv_i2b hx hb dX6_inner_97 rfl ?_
                obtain ⟨u92, eu92, hF⟩ := cp_bind hF
                exact cp_zret hx hb hr hlocks (cp_gby_n eu92) hF hP hS dX6_inner_98
            · rw [if_neg hc85] at hF
              refine lv_iconst (v := (0 : Int32)) hx hb dX6_inner_70 (by decide) ?_
              refine lv_goto (tgt := 98) hx hb dX6_inner_71 (by decide) ?_
              exact cp_zret hx hb hr hlocks (by decide) hF hP hS dX6_inner_98
          · rw [if_neg hc82] at hF
            refine lv_iconst (v := (1 : Int32)) hx hb dX6_inner_55 (by decide) ?_
            refine lv_goto (tgt := 60) hx hb dX6_inner_56 (by decide) ?_
            obtain ⟨D93, eD93, hF⟩ := cp_bind hF
            refine cp_put (T := TX6) (N := 6) (ci := 6) (j := 0) hx hb htT hinX6 tyX6 tyX6_ok nmX6 hown hK hJ hP hS rfl (by decide) rfl (htT _ tw_375) rfl rfl rfl eD93 dX6_inner_60 (fun H locs hP hS => ?_)
            refine lv_aload_n hx hb dX6_inner_63 rfl (lv_at hl 0 rfl) ?_
            obtain ⟨v94, ev94, hF⟩ := cp_bind hF
            refine cp_getI (T := TX6) (N := 6) (ci := 6) (j := 0) hx hb htT hinX6 hown hK hP rfl (by decide) rfl (htT _ tw_375) ev94 dX6_inner_64 ?_
            refine lv_if_le (tgt := 74) hx hb dX6_inner_67 (by decide) (fun hc95 => ?_) (fun hc95 => ?_)
            · rw [if_pos hc95] at hF
              refine lv_aload_n hx hb dX6_inner_74 rfl (lv_at hl 0 rfl) ?_
              obtain ⟨r96, er96, hF⟩ := cp_bind hF
              refine cp_getR (T := TX6) (N := 6) (ci := 6) (j := 3) hx hb htT hinX6 hown hK hP rfl (by decide) rfl (htT _ tw_378) er96 dX6_inner_75 ?_
              refine lv_iload_n hx hb dX6_inner_78 rfl (lv_at hl 1 rfl) ?_
              obtain ⟨y97, ey97, hF⟩ := cp_bind hF
              refine cp_call (st1 := [.int y97.1, .ref (L.2.1 r96)]) (va_runS (As := [.int x1]) (rest := [.ref (L.2.1 r96)]) ⟨hx, hb, hml, hown, htT⟩ (ct_X6_at l G L hJ q x1 D93 y97 ey97) ⟨callB_of 1 htT gdX6_at rfl rfl rfl (htT _ tw_8) (htT _ tw_417) hdX6_at ⟨Nat.le_of_ble_eq_true rfl, Nat.le_of_ble_eq_true rfl⟩, (htT _ tw_418)⟩ ⟨cp_blind, cp_pre hP hK hN hZ hS⟩ rfl rfl hl.1 rfl (lv_room (Nat.le_of_ble_eq_true rfl)) dX6_inner_79 ⟨Nat.zero_le _, Nat.zero_le _⟩) hS (fun H locs hP hS => ?_)
              refine lv_iload_n hx hb dX6_inner_82 rfl (lv_at hl 2 rfl) ?_
              refine lv_if_eq (tgt := 91) hx hb dX6_inner_83 (by decide) (fun hc98 => ?_) (fun hc98 => ?_)
              · rw [if_pos hc98] at hF
                refine lv_bipush (v := (18 : Int32)) hx hb dX6_inner_91 (by decide) ?_
                refine lv_iadd hx hb dX6_inner_93 ?_
                refine lv_iload_n hx hb dX6_inner_94 rfl (lv_at hl 3 rfl) ?_
                refine lv_iadd hx hb dX6_inner_95 ?_
                obtain ⟨v99, ev99, hF⟩ := cp_bind hF
                refine cp_iald hx hb hK hP ev99 dX6_inner_96 ?_
                refine lv_i2b hx hb dX6_inner_97 rfl ?_
                obtain ⟨u100, eu100, hF⟩ := cp_bind hF
                exact cp_zret hx hb hr hlocks (cp_gby_n eu100) hF hP hS dX6_inner_98
              · rw [if_neg hc98] at hF
                refine lv_bipush (v := (34 : Int32)) hx hb dX6_inner_86 (by decide) ?_
                refine lv_goto (tgt := 93) hx hb dX6_inner_88 (by decide) ?_
                refine lv_iadd hx hb dX6_inner_93 ?_
                refine lv_iload_n hx hb dX6_inner_94 rfl (lv_at hl 3 rfl) ?_
                refine lv_iadd hx hb dX6_inner_95 ?_
                obtain ⟨v101, ev101, hF⟩ := cp_bind hF
                refine cp_iald hx hb hK hP ev101 dX6_inner_96 ?_
                refine lv_i2b hx hb dX6_inner_97 rfl ?_
                obtain ⟨u102, eu102, hF⟩ := cp_bind hF
                exact cp_zret hx hb hr hlocks (cp_gby_n eu102) hF hP hS dX6_inner_98
            · rw [if_neg hc95] at hF
              refine lv_iconst (v := (0 : Int32)) hx hb dX6_inner_70 (by decide) ?_
              refine lv_goto (tgt := 98) hx hb dX6_inner_71 (by decide) ?_
              exact cp_zret hx hb hr hlocks (by decide) hF hP hS dX6_inner_98
      · rw [if_neg hc56] at hF
        refine lv_iconst (v := (0 : Int32)) hx hb dX6_inner_28 (by decide) ?_
        exact cp_zret hx hb hr hlocks (by decide) hF hP hS dX6_inner_29
    · rw [if_neg hc53] at hF
      refine lv_iconst (v := (1 : Int32)) hx hb dX6_inner_13 (by decide) ?_
      refine lv_goto (tgt := 18) hx hb dX6_inner_14 (by decide) ?_
      obtain ⟨D103, eD103, hF⟩ := cp_bind hF
      refine cp_put (T := TX6) (N := 6) (ci := 6) (j := 0) hx hb htT hinX6 tyX6 tyX6_ok nmX6 hown hK hJ hP hS rfl (by decide) rfl (htT _ tw_375) rfl rfl rfl eD103 dX6_inner_18 (fun H locs hP hS => ?_)
      refine lv_aload_n hx hb dX6_inner_21 rfl (lv_at hl 0 rfl) ?_
      obtain ⟨v104, ev104, hF⟩ := cp_bind hF
      refine cp_getI (T := TX6) (N := 6) (ci := 6) (j := 0) hx hb htT hinX6 hown hK hP rfl (by decide) rfl (htT _ tw_375) ev104 dX6_inner_22 ?_
      refine lv_if_le (tgt := 30) hx hb dX6_inner_25 (by decide) (fun hc105 => ?_) (fun hc105 => ?_)
      · rw [if_pos hc105] at hF
        refine lv_aload_n hx hb dX6_inner_30 rfl (lv_at hl 0 rfl) ?_
        refine lv_iload_n hx hb dX6_inner_31 rfl (lv_at hl 3 rfl) ?_
        refine lv_iload_n hx hb dX6_inner_32 rfl (lv_at hl 2 rfl) ?_
        refine lv_if_eq (tgt := 50) hx hb dX6_inner_33 (by decide) (fun hc106 => ?_) (fun hc106 => ?_)
        · rw [if_pos hc106] at hF
          refine lv_bipush (v := (16 : Int32)) hx hb dX6_inner_50 (by decide) ?_
          refine lv_icmp_lt (tgt := 59) hx hb dX6_inner_52 (by decide) (fun hc107 => ?_) (fun hc107 => ?_)
          · rw [if_pos hc107] at hF
            refine lv_iconst (v := (0 : Int32)) hx hb dX6_inner_59 (by decide) ?_
            obtain ⟨D108, eD108, hF⟩ := cp_bind hF
            refine cp_put (T := TX6) (N := 6) (ci := 6) (j := 0) hx hb htT hinX6 tyX6 tyX6_ok nmX6 hown hK hJ hP hS rfl (by decide) rfl (htT _ tw_375) rfl rfl rfl eD108 dX6_inner_60 (fun H locs hP hS => ?_)
            refine lv_aload_n hx hb dX6_inner_63 rfl (lv_at hl 0 rfl) ?_
            obtain ⟨v109, ev109, hF⟩ := cp_bind hF
            refine cp_getI (T := TX6) (N := 6) (ci := 6) (j := 0) hx hb htT hinX6 hown hK hP rfl (by decide) rfl (htT _ tw_375) ev109 dX6_inner_64 ?_
            refine lv_if_le (tgt := 74) hx hb dX6_inner_67 (by decide) (fun hc110 => ?_) (fun hc110 => ?_)
            · rw [if_pos hc110] at hF
              refine lv_aload_n hx hb dX6_inner_74 rfl (lv_at hl 0 rfl) ?_
              obtain ⟨r111, er111, hF⟩ := cp_bind hF
              refine cp_getR (T := TX6) (N := 6) (ci := 6) (j := 3) hx hb htT hinX6 hown hK hP rfl (by decide) rfl (htT _ tw_378) er111 dX6_inner_75 ?_
              refine lv_iload_n hx hb dX6_inner_78 rfl (lv_at hl 1 rfl) ?_
              obtain ⟨y112, ey112, hF⟩ := cp_bind hF
              refine cp_call (st1 := [.int y112.1, .ref (L.2.1 r111)]) (va_runS (As := [.int x1]) (rest := [.ref (L.2.1 r111)]) ⟨hx, hb, hml, hown, htT⟩ (ct_X6_at l G L hJ q x1 D108 y112 ey112) ⟨callB_of 1 htT gdX6_at rfl rfl rfl (htT _ tw_8) (htT _ tw_417) hdX6_at ⟨Nat.le_of_ble_eq_true rfl, Nat.le_of_ble_eq_true rfl⟩, (htT _ tw_418)⟩ ⟨cp_blind, cp_pre hP hK hN hZ hS⟩ rfl rfl hl.1 rfl (lv_room (Nat.le_of_ble_eq_true rfl)) dX6_inner_79 ⟨Nat.zero_le _, Nat.zero_le _⟩) hS (fun H locs hP hS => ?_)
              refine lv_iload_n hx hb dX6_inner_82 rfl (lv_at hl 2 rfl) ?_
              refine lv_if_eq (tgt := 91) hx hb dX6_inner_83 (by decide) (fun hc113 => ?_) (fun hc113 => ?_)
              · rw [if_pos hc113] at hF
                refine lv_bipush (v := (18 : Int32)) hx hb dX6_inner_91 (by decide) ?_
                refine lv_iadd hx hb dX6_inner_93 ?_
                refine lv_iload_n hx hb dX6_inner_94 rfl (lv_at hl 3 rfl) ?_
                refine lv_iadd hx hb dX6_inner_95 ?_
                obtain ⟨v114, ev114, hF⟩ := cp_bind hF
                refine cp_iald hx hb hK hP ev114 dX6_inner_96 ?_
                refine lv_i2b hx hb dX6_inner_97 rfl ?_
                obtain ⟨u115, eu115, hF⟩ := cp_bind hF
                exact cp_zret hx hb hr hlocks (cp_gby_n eu115) hF hP hS dX6_inner_98
              · rw [if_neg hc113] at hF
                refine lv_bipush (v := (34 : Int32)) hx hb dX6_inner_86 (by decide) ?_
                refine lv_goto (tgt := 93) hx hb dX6_inner_88 (by decide) ?_
                refine lv_iadd hx hb dX6_inner_93 ?_
                refine lv_iload_n hx hb dX6_inner_94 rfl (lv_at hl 3 rfl) ?_
                refine lv_iadd hx hb dX6_inner_95 ?_
                obtain ⟨v116, ev116, hF⟩ := cp_bind hF
                refine cp_iald hx hb hK hP ev116 dX6_inner_96 ?_
                refine lv_i2b hx hb dX6_inner_97 rfl ?_
                obtain ⟨u117, eu117, hF⟩ := cp_bind hF
                exact cp_zret hx hb hr hlocks (cp_gby_n eu117) hF hP hS dX6_inner_98
            · rw [if_neg hc110] at hF
              refine lv_iconst (v := (0 : Int32)) hx hb dX6_inner_70 (by decide) ?_
              refine lv_goto (tgt := 98) hx hb dX6_inner_71 (by decide) ?_
              exact cp_zret hx hb hr hlocks (by decide) hF hP hS dX6_inner_98
          · rw [if_neg hc107] at hF
            refine lv_iconst (v := (1 : Int32)) hx hb dX6_inner_55 (by decide) ?_
            refine lv_goto (tgt := 60) hx hb dX6_inner_56 (by decide) ?_
            obtain ⟨D118, eD118, hF⟩ := cp_bind hF
            refine cp_put (T := TX6) (N := 6) (ci := 6) (j := 0) hx hb htT hinX6 tyX6 tyX6_ok nmX6 hown hK hJ hP hS rfl (by decide) rfl (htT _ tw_375) rfl rfl rfl eD118 dX6_inner_60 (fun H locs hP hS => ?_)
            refine lv_aload_n hx hb dX6_inner_63 rfl (lv_at hl 0 rfl) ?_
            obtain ⟨v119, ev119, hF⟩ := cp_bind hF
            refine cp_getI (T := TX6) (N := 6) (ci := 6) (j := 0) hx hb htT hinX6 hown hK hP rfl (by decide) rfl (htT _ tw_375) ev119 dX6_inner_64 ?_
            refine lv_if_le (tgt := 74) hx hb dX6_inner_67 (by decide) (fun hc120 => ?_) (fun hc120 => ?_)
            · rw [if_pos hc120] at hF
              refine lv_aload_n hx hb dX6_inner_74 rfl (lv_at hl 0 rfl) ?_
              obtain ⟨r121, er121, hF⟩ := cp_bind hF
              refine cp_getR (T := TX6) (N := 6) (ci := 6) (j := 3) hx hb htT hinX6 hown hK hP rfl (by decide) rfl (htT _ tw_378) er121 dX6_inner_75 ?_
              refine lv_iload_n hx hb dX6_inner_78 rfl (lv_at hl 1 rfl) ?_
              obtain ⟨y122, ey122, hF⟩ := cp_bind hF
              refine cp_call (st1 := [.int y122.1, .ref (L.2.1 r121)]) (va_runS (As := [.int x1]) (rest := [.ref (L.2.1 r121)]) ⟨hx, hb, hml, hown, htT⟩ (ct_X6_at l G L hJ q x1 D118 y122 ey122) ⟨callB_of 1 htT gdX6_at rfl rfl rfl (htT _ tw_8) (htT _ tw_417) hdX6_at ⟨Nat.le_of_ble_eq_true rfl, Nat.le_of_ble_eq_true rfl⟩, (htT _ tw_418)⟩ ⟨cp_blind, cp_pre hP hK hN hZ hS⟩ rfl rfl hl.1 rfl (lv_room (Nat.le_of_ble_eq_true rfl)) dX6_inner_79 ⟨Nat.zero_le _, Nat.zero_le _⟩) hS (fun H locs hP hS => ?_)
              refine lv_iload_n hx hb dX6_inner_82 rfl (lv_at hl 2 rfl) ?_
              refine lv_if_eq (tgt := 91) hx hb dX6_inner_83 (by decide) (fun hc123 => ?_) (fun hc123 => ?_)
              · rw [if_pos hc123] at hF
                refine lv_bipush (v := (18 : Int32)) hx hb dX6_inner_91 (by decide) ?_
                refine lv_iadd hx hb dX6_inner_93 ?_
                refine lv_iload_n hx hb dX6_inner_94 rfl (lv_at hl 3 rfl) ?_
                refine lv_iadd hx hb dX6_inner_95 ?_
                obtain ⟨v124, ev124, hF⟩ := cp_bind hF
                refine cp_iald hx hb hK hP ev124 dX6_inner_96 ?_
                refine lv_i2b hx hb dX6_inner_97 rfl ?_
                obtain ⟨u125, eu125, hF⟩ := cp_bind hF
                exact cp_zret hx hb hr hlocks (cp_gby_n eu125) hF hP hS dX6_inner_98
              · rw [if_neg hc123] at hF
                refine lv_bipush (v := (34 : Int32)) hx hb dX6_inner_86 (by decide) ?_
                refine lv_goto (tgt := 93) hx hb dX6_inner_88 (by decide) ?_
                refine lv_iadd hx hb dX6_inner_93 ?_
                refine lv_iload_n hx hb dX6_inner_94 rfl (lv_at hl 3 rfl) ?_
                refine lv_iadd hx hb dX6_inner_95 ?_
                obtain ⟨v126, ev126, hF⟩ := cp_bind hF
                refine cp_iald hx hb hK hP ev126 dX6_inner_96 ?_
                refine lv_i2b hx hb dX6_inner_97 rfl ?_
                obtain ⟨u127, eu127, hF⟩ := cp_bind hF
                exact cp_zret hx hb hr hlocks (cp_gby_n eu127) hF hP hS dX6_inner_98
            · rw [if_neg hc120] at hF
              refine lv_iconst (v := (0 : Int32)) hx hb dX6_inner_70 (by decide) ?_
              refine lv_goto (tgt := 98) hx hb dX6_inner_71 (by decide) ?_
              exact cp_zret hx hb hr hlocks (by decide) hF hP hS dX6_inner_98
        · rw [if_neg hc106] at hF
          refine lv_aload_n hx hb dX6_inner_36 rfl (lv_at hl 0 rfl) ?_
          obtain ⟨r128, er128, hF⟩ := cp_bind hF
          refine cp_getR (T := TX6) (N := 6) (ci := 6) (j := 3) hx hb htT hinX6 hown hK hP rfl (by decide) rfl (htT _ tw_378) er128 dX6_inner_37 ?_
          refine lv_iload_n hx hb dX6_inner_40 rfl (lv_at hl 1 rfl) ?_
          obtain ⟨y129, ey129, hF⟩ := cp_bind hF
          refine cp_call (st1 := [.int y129.1, .ref (L.2.1 r128), .int x3, .ref (L.2.1 k0)]) (va_runS (As := [.int x1]) (rest := [.ref (L.2.1 r128), .int x3, .ref (L.2.1 k0)]) ⟨hx, hb, hml, hown, htT⟩ (ct_X6_at l G L hJ q x1 D103 y129 ey129) ⟨callB_of 1 htT gdX6_at rfl rfl rfl (htT _ tw_8) (htT _ tw_417) hdX6_at ⟨Nat.le_of_ble_eq_true rfl, Nat.le_of_ble_eq_true rfl⟩, (htT _ tw_418)⟩ ⟨cp_blind, cp_pre hP hK hN hZ hS⟩ rfl rfl hl.1 rfl (lv_room (Nat.le_of_ble_eq_true rfl)) dX6_inner_41 ⟨Nat.zero_le _, Nat.zero_le _⟩) hS (fun H locs hP hS => ?_)
          refine lv_iconst (v := (5 : Int32)) hx hb dX6_inner_44 (by decide) ?_
          refine lv_iadd hx hb dX6_inner_45 ?_
          obtain ⟨v130, ev130, hF⟩ := cp_bind hF
          refine cp_iald hx hb hK hP ev130 dX6_inner_46 ?_
          refine lv_goto (tgt := 52) hx hb dX6_inner_47 (by decide) ?_
          refine lv_icmp_lt (tgt := 59) hx hb dX6_inner_52 (by decide) (fun hc131 => ?_) (fun hc131 => ?_)
          · rw [if_pos hc131] at hF
            refine lv_iconst (v := (0 : Int32)) hx hb dX6_inner_59 (by decide) ?_
            obtain ⟨D132, eD132, hF⟩ := cp_bind hF
            refine cp_put (T := TX6) (N := 6) (ci := 6) (j := 0) hx hb htT hinX6 tyX6 tyX6_ok nmX6 hown hK hJ hP hS rfl (by decide) rfl (htT _ tw_375) rfl rfl rfl eD132 dX6_inner_60 (fun H locs hP hS => ?_)
            refine lv_aload_n hx hb dX6_inner_63 rfl (lv_at hl 0 rfl) ?_
            obtain ⟨v133, ev133, hF⟩ := cp_bind hF
            refine cp_getI (T := TX6) (N := 6) (ci := 6) (j := 0) hx hb htT hinX6 hown hK hP rfl (by decide) rfl (htT _ tw_375) ev133 dX6_inner_64 ?_
            refine lv_if_le (tgt := 74) hx hb dX6_inner_67 (by decide) (fun hc134 => ?_) (fun hc134 => ?_)
            · rw [if_pos hc134] at hF
              refine lv_aload_n hx hb dX6_inner_74 rfl (lv_at hl 0 rfl) ?_
              obtain ⟨r135, er135, hF⟩ := cp_bind hF
              refine cp_getR (T := TX6) (N := 6) (ci := 6) (j := 3) hx hb htT hinX6 hown hK hP rfl (by decide) rfl (htT _ tw_378) er135 dX6_inner_75 ?_
              refine lv_iload_n hx hb dX6_inner_78 rfl (lv_at hl 1 rfl) ?_
              obtain ⟨y136, ey136, hF⟩ := cp_bind hF
              refine cp_call (st1 := [.int y136.1, .ref (L.2.1 r135)]) (va_runS (As := [.int x1]) (rest := [.ref (L.2.1 r135)]) ⟨hx, hb, hml, hown, htT⟩ (ct_X6_at l G L hJ q x1 D132 y136 ey136) ⟨callB_of 1 htT gdX6_at rfl rfl rfl (htT _ tw_8) (htT _ tw_417) hdX6_at ⟨Nat.le_of_ble_eq_true rfl, Nat.le_of_ble_eq_true rfl⟩, (htT _ tw_418)⟩ ⟨cp_blind, cp_pre hP hK hN hZ hS⟩ rfl rfl hl.1 rfl (lv_room (Nat.le_of_ble_eq_true rfl)) dX6_inner_79 ⟨Nat.zero_le _, Nat.zero_le _⟩) hS (fun H locs hP hS => ?_)
              refine lv_iload_n hx hb dX6_inner_82 rfl (lv_at hl 2 rfl) ?_
              refine lv_if_eq (tgt := 91) hx hb dX6_inner_83 (by decide) (fun hc137 => ?_) (fun hc137 => ?_)
              · rw [if_pos hc137] at hF
                refine lv_bipush (v := (18 : Int32)) hx hb dX6_inner_91 (by decide) ?_
                refine lv_iadd hx hb dX6_inner_93 ?_
                refine lv_iload_n hx hb dX6_inner_94 rfl (lv_at hl 3 rfl) ?_
                refine lv_iadd hx hb dX6_inner_95 ?_
                obtain ⟨v138, ev138, hF⟩ := cp_bind hF
                refine cp_iald hx hb hK hP ev138 dX6_inner_96 ?_
                refine lv_i2b hx hb dX6_inner_97 rfl ?_
                obtain ⟨u139, eu139, hF⟩ := cp_bind hF
                exact cp_zret hx hb hr hlocks (cp_gby_n eu139) hF hP hS dX6_inner_98
              · rw [if_neg hc137] at hF
                refine lv_bipush (v := (34 : Int32)) hx hb dX6_inner_86 (by decide) ?_
                refine lv_goto (tgt := 93) hx hb dX6_inner_88 (by decide) ?_
                refine lv_iadd hx hb dX6_inner_93 ?_
                refine lv_iload_n hx hb dX6_inner_94 rfl (lv_at hl 3 rfl) ?_
                refine lv_iadd hx hb dX6_inner_95 ?_
                obtain ⟨v140, ev140, hF⟩ := cp_bind hF
                refine cp_iald hx hb hK hP ev140 dX6_inner_96 ?_
                refine lv_i2b hx hb dX6_inner_97 rfl ?_
                obtain ⟨u141, eu141, hF⟩ := cp_bind hF
                exact cp_zret hx hb hr hlocks (cp_gby_n eu141) hF hP hS dX6_inner_98
            · rw [if_neg hc134] at hF
              refine lv_iconst (v := (0 : Int32)) hx hb dX6_inner_70 (by decide) ?_
              refine lv_goto (tgt := 98) hx hb dX6_inner_71 (by decide) ?_
              exact cp_zret hx hb hr hlocks (by decide) hF hP hS dX6_inner_98
          · rw [if_neg hc131] at hF
            refine lv_iconst (v := (1 : Int32)) hx hb dX6_inner_55 (by decide) ?_
            refine lv_goto (tgt := 60) hx hb dX6_inner_56 (by decide) ?_
            obtain ⟨D142, eD142, hF⟩ := cp_bind hF
            refine cp_put (T := TX6) (N := 6) (ci := 6) (j := 0) hx hb htT hinX6 tyX6 tyX6_ok nmX6 hown hK hJ hP hS rfl (by decide) rfl (htT _ tw_375) rfl rfl rfl eD142 dX6_inner_60 (fun H locs hP hS => ?_)
            refine lv_aload_n hx hb dX6_inner_63 rfl (lv_at hl 0 rfl) ?_
            obtain ⟨v143, ev143, hF⟩ := cp_bind hF
            refine cp_getI (T := TX6) (N := 6) (ci := 6) (j := 0) hx hb htT hinX6 hown hK hP rfl (by decide) rfl (htT _ tw_375) ev143 dX6_inner_64 ?_
            refine lv_if_le (tgt := 74) hx hb dX6_inner_67 (by decide) (fun hc144 => ?_) (fun hc144 => ?_)
            · rw [if_pos hc144] at hF
              refine lv_aload_n hx hb dX6_inner_74 rfl (lv_at hl 0 rfl) ?_
              obtain ⟨r145, er145, hF⟩ := cp_bind hF
              refine cp_getR (T := TX6) (N := 6) (ci := 6) (j := 3) hx hb htT hinX6 hown hK hP rfl (by decide) rfl (htT _ tw_378) er145 dX6_inner_75 ?_
              refine lv_iload_n hx hb dX6_inner_78 rfl (lv_at hl 1 rfl) ?_
              obtain ⟨y146, ey146, hF⟩ := cp_bind hF
              refine cp_call (st1 := [.int y146.1, .ref (L.2.1 r145)]) (va_runS (As := [.int x1]) (rest := [.ref (L.2.1 r145)]) ⟨hx, hb, hml, hown, htT⟩ (ct_X6_at l G L hJ q x1 D142 y146 ey146) ⟨callB_of 1 htT gdX6_at rfl rfl rfl (htT _ tw_8) (htT _ tw_417) hdX6_at ⟨Nat.le_of_ble_eq_true rfl, Nat.le_of_ble_eq_true rfl⟩, (htT _ tw_418)⟩ ⟨cp_blind, cp_pre hP hK hN hZ hS⟩ rfl rfl hl.1 rfl (lv_room (Nat.le_of_ble_eq_true rfl)) dX6_inner_79 ⟨Nat.zero_le _, Nat.zero_le _⟩) hS (fun H locs hP hS => ?_)
              refine lv_iload_n hx hb dX6_inner_82 rfl (lv_at hl 2 rfl) ?_
              refine lv_if_eq (tgt := 91) hx hb dX6_inner_83 (by decide) (fun hc147 => ?_) (fun hc147 => ?_)
              · rw [if_pos hc147] at hF
                refine lv_bipush (v := (18 : Int32)) hx hb dX6_inner_91 (by decide) ?_
                refine lv_iadd hx hb dX6_inner_93 ?_
                refine lv_iload_n hx hb dX6_inner_94 rfl (lv_at hl 3 rfl) ?_
                refine lv_iadd hx hb dX6_inner_95 ?_
                obtain ⟨v148, ev148, hF⟩ := cp_bind hF
                refine cp_iald hx hb hK hP ev148 dX6_inner_96 ?_
                refine lv_i2b hx hb dX6_inner_97 rfl ?_
                obtain ⟨u149, eu149, hF⟩ := cp_bind hF
                exact cp_zret hx hb hr hlocks (cp_gby_n eu149) hF hP hS dX6_inner_98
              · rw [if_neg hc147] at hF
                refine lv_bipush (v := (34 : Int32)) hx hb dX6_inner_86 (by decide) ?_
                refine lv_goto (tgt := 93) hx hb dX6_inner_88 (by decide) ?_
                refine lv_iadd hx hb dX6_inner_93 ?_
                refine lv_iload_n hx hb dX6_inner_94 rfl (lv_at hl 3 rfl) ?_
                refine lv_iadd hx hb dX6_inner_95 ?_
                obtain ⟨v150, ev150, hF⟩ := cp_bind hF
                refine cp_iald hx hb hK hP ev150 dX6_inner_96 ?_
                refine lv_i2b hx hb dX6_inner_97 rfl ?_
                obtain ⟨u151, eu151, hF⟩ := cp_bind hF
                exact cp_zret hx hb hr hlocks (cp_gby_n eu151) hF hP hS dX6_inner_98
            · rw [if_neg hc144] at hF
              refine lv_iconst (v := (0 : Int32)) hx hb dX6_inner_70 (by decide) ?_
              refine lv_goto (tgt := 98) hx hb dX6_inner_71 (by decide) ?_
              exact cp_zret hx hb hr hlocks (by decide) hF hP hS dX6_inner_98
      · rw [if_neg hc105] at hF
        refine lv_iconst (v := (0 : Int32)) hx hb dX6_inner_28 (by decide) ?_
        exact cp_zret hx hb hr hlocks (by decide) hF hP hS dX6_inner_29
