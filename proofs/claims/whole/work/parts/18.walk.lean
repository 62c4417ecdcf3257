theorem dX6_codeAt_0 : decode cX6_codeAt 0 = .ok (.aload_n 0, 1) := by decide +kernel
theorem dX6_codeAt_1 : decode cX6_codeAt 1 = .ok (.getfield 7, 3) := by decide +kernel
theorem dX6_codeAt_4 : decode cX6_codeAt 4 = .ok (.iload_n 1, 1) := by decide +kernel
theorem dX6_codeAt_5 : decode cX6_codeAt 5 = .ok (.invokestatic 30, 3) := by decide +kernel
theorem dX6_codeAt_8 : decode cX6_codeAt 8 = .ok (.bipush 34, 2) := by decide +kernel
theorem dX6_codeAt_10 : decode cX6_codeAt 10 = .ok (.iadd, 1) := by decide +kernel
theorem dX6_codeAt_11 : decode cX6_codeAt 11 = .ok (.iload_n 2, 1) := by decide +kernel
theorem dX6_codeAt_12 : decode cX6_codeAt 12 = .ok (.aload_n 0, 1) := by decide +kernel
theorem dX6_codeAt_13 : decode cX6_codeAt 13 = .ok (.getfield 7, 3) := by decide +kernel
theorem dX6_codeAt_16 : decode cX6_codeAt 16 = .ok (.iload_n 1, 1) := by decide +kernel
theorem dX6_codeAt_17 : decode cX6_codeAt 17 = .ok (.invokestatic 30, 3) := by decide +kernel
theorem dX6_codeAt_20 : decode cX6_codeAt 20 = .ok (.iconst 5, 1) := by decide +kernel
theorem dX6_codeAt_21 : decode cX6_codeAt 21 = .ok (.iadd, 1) := by decide +kernel
theorem dX6_codeAt_22 : decode cX6_codeAt 22 = .ok (.iaload, 1) := by decide +kernel
theorem dX6_codeAt_23 : decode cX6_codeAt 23 = .ok (.irem, 1) := by decide +kernel
theorem dX6_codeAt_24 : decode cX6_codeAt 24 = .ok (.iadd, 1) := by decide +kernel
theorem dX6_codeAt_25 : decode cX6_codeAt 25 = .ok (.iaload, 1) := by decide +kernel
theorem dX6_codeAt_26 : decode cX6_codeAt 26 = .ok (.ireturn, 1) := by decide +kernel
def fn_X6_codeAt (L : cp_Lay) (q : Nat) (k0 : Nat) (x1 : Int32) (x2 : Int32) (D : cp_Dt) : Option (Int32 × cp_Dt) :=
  (cp_gR L k0 6 3).bind fun r1 =>
  (fn_X6_at L q x1 D).bind fun y2 =>
  (cp_gR L k0 6 3).bind fun r3 =>
  (fn_X6_at L q x1 y2.2).bind fun y4 =>
  (cp_aI L y4.2 0 r3 (y4.1 + (5 : Int32))).bind fun v5 =>
  (cp_nz v5).bind fun u6 =>
  (cp_aI L y4.2 0 r1 ((y2.1 + (34 : Int32)) + (x2 - x2 / v5 * v5))).bind fun v7 =>
  some (v7, y4.2)
set_option maxHeartbeats 4000000 in
set_option maxRecDepth 100000 in
theorem ct_X6_codeAt (l : Launch) (G : va_G) (L : cp_Lay) (hJ : cp_J L) (q : Nat) (k0 : Nat) (x1 : Int32) (x2 : Int32) (D : cp_Dt) (res : Int32 × cp_Dt) (hF : fn_X6_codeAt L q k0 x1 x2 D = some res) : cp_Met l G yX6_codeAt wsX6_codeAt ({ frames := 1, cells := 0, slots := 0, locals := 20 }) L ([.ref (L.2.1 k0), .int x1, .int x2] : List Value) D res.2 (some (.int res.1)) := by
  refine Met.ofW (cc := cX6_codeAt) (maxL := 3) (ret := (some .int)) (by decide) rfl ?_
  intro p e s m args below meth c s₁ B hml hv
  obtain ⟨rfl, hP, hK, hN, hZ⟩ := hv
  have hx := B.exec
  have hb := B.bytes
  have hr := B.returns
  have hts := atoms_spec (ws := wsX6_codeAt) B.pre
  have hown : s.vm.findClass "CreaturePondModel" = some m.cls := findClass_of_methodNamed B.named
  have hlocks := B.notSynchronized
  have hS : va_S (cp_A L) s.heap s.heap [] := va_S.rf
  have htT : ∀ w ∈ cp_T, w.before ([.ref (L.2.1 k0), .int x1, .int x2] : List Value).toArray s = true := fun w h => hts w (List.mem_cons_of_mem _ h)
  have hl := lv_entry (([.ref (L.2.1 k0), .int x1, .int x2] : List Value)) (n := 3) (Nat.le_of_ble_eq_true rfl)
  rw [lg_entry_eq]
  generalize (lg_sl (([.ref (L.2.1 k0), .int x1, .int x2] : List Value)) ++ List.replicate (3 - (lg_sl (([.ref (L.2.1 k0), .int x1, .int x2] : List Value))).length) Slot.unset).toArray = ls at hl ⊢
  have hl : lv_has ls 3 [(0, .ref (L.2.1 k0)), (1, .int x1), (2, .int x2)] := hl
  unfold fn_X6_codeAt at hF
  refine lv_aload_n hx hb dX6_codeAt_0 rfl (lv_at hl 0 rfl) ?_
  obtain ⟨r1, er1, hF⟩ := cp_bind hF
  refine cp_getR (T := TX6) (N := 6) (ci := 6) (j := 3) hx hb htT hinX6 hown hK hP rfl (by decide) rfl (htT _ tw_378) er1 dX6_codeAt_1 ?_
  refine lv_iload_n hx hb dX6_codeAt_4 rfl (lv_at hl 1 rfl) ?_
  obtain ⟨y2, ey2, hF⟩ := cp_bind hF
  refine cp_call (st1 := [.int y2.1, .ref (L.2.1 r1)]) (va_runS (As := [.int x1]) (rest := [.ref (L.2.1 r1)]) ⟨hx, hb, hml, hown, htT⟩ (ct_X6_at l G L hJ q x1 D y2 ey2) ⟨callB_of 1 htT gdX6_at rfl rfl rfl (htT _ tw_8) (htT _ tw_417) hdX6_at ⟨Nat.le_of_ble_eq_true rfl, Nat.le_of_ble_eq_true rfl⟩, (htT _ tw_418)⟩ ⟨cp_blind, cp_pre hP hK hN hZ hS⟩ rfl rfl hl.1 rfl (lv_room (Nat.le_of_ble_eq_true rfl)) dX6_codeAt_5 ⟨Nat.zero_le _, Nat.zero_le _⟩) hS (fun H locs hP hS => ?_)
  refine lv_bipush (v := (34 : Int32)) hx hb dX6_codeAt_8 (by decide) ?_
  refine lv_iadd hx hb dX6_codeAt_10 ?_
  refine lv_iload_n hx hb dX6_codeAt_11 rfl (lv_at hl 2 rfl) ?_
  refine lv_aload_n hx hb dX6_codeAt_12 rfl (lv_at hl 0 rfl) ?_
  obtain ⟨r3, er3, hF⟩ := cp_bind hF
  refine cp_getR (T := TX6) (N := 6) (ci := 6) (j := 3) hx hb htT hinX6 hown hK hP rfl (by decide) rfl (htT _ tw_378) er3 dX6_codeAt_13 ?_
  refine lv_iload_n hx hb dX6_codeAt_16 rfl (lv_at hl 1 rfl) ?_
  obtain ⟨y4, ey4, hF⟩ := cp_bind hF
  refine cp_call (st1 := [.int y4.1, .ref (L.2.1 r3), .int x2, .int (y2.1 + (34 : Int32)), .ref (L.2.1 r1)]) (va_runS (As := [.int x1]) (rest := [.ref (L.2.1 r3), .int x2, .int (y2.1 + (34 : Int32)), .ref (L.2.1 r1)]) ⟨hx, hb, hml, hown, htT⟩ (ct_X6_at l G L hJ q x1 y2.2 y4 ey4) ⟨callB_of 1 htT gdX6_at rfl rfl rfl (htT _ tw_8) (htT _ tw_417) hdX6_at ⟨Nat.le_of_ble_eq_true rfl, Nat.le_of_ble_eq_true rfl⟩, (htT _ tw_418)⟩ ⟨cp_blind, cp_pre hP hK hN hZ hS⟩ rfl rfl hl.1 rfl (lv_room (Nat.le_of_ble_eq_true rfl)) dX6_codeAt_17 ⟨Nat.zero_le _, Nat.zero_le _⟩) hS (fun H locs hP hS => ?_)
  refine lv_iconst (v := (5 : Int32)) hx hb dX6_codeAt_20 (by decide) ?_
  refine lv_iadd hx hb dX6_codeAt_21 ?_
  obtain ⟨v5, ev5, hF⟩ := cp_bind hF
  refine cp_iald hx hb hK hP ev5 dX6_codeAt_22 ?_
  obtain ⟨u6, eu6, hF⟩ := cp_bind hF
  refine lv_irem hx hb dX6_codeAt_23 (cp_nz_ne eu6) ?_
  refine lv_iadd hx hb dX6_codeAt_24 ?_
  obtain ⟨v7, ev7, hF⟩ := cp_bind hF
  refine cp_iald hx hb hK hP ev7 dX6_codeAt_25 ?_
  exact cp_iret hx hb hr hlocks hF hP hS dX6_codeAt_26
theorem dX6_operands_0 : decode cX6_operands 0 = .ok (.iload_n 0, 1) := by decide +kernel
theorem dX6_operands_1 : decode cX6_operands 1 = .ok (.ifCond .eq 21, 3) := by decide +kernel
theorem dX6_operands_4 : decode cX6_operands 4 = .ok (.iload_n 0, 1) := by decide +kernel
theorem dX6_operands_5 : decode cX6_operands 5 = .ok (.bipush 17, 2) := by decide +kernel
theorem dX6_operands_7 : decode cX6_operands 7 = .ok (.if_icmp .eq 15, 3) := by decide +kernel
theorem dX6_operands_10 : decode cX6_operands 10 = .ok (.iload_n 0, 1) := by decide +kernel
theorem dX6_operands_11 : decode cX6_operands 11 = .ok (.bipush 18, 2) := by decide +kernel
theorem dX6_operands_13 : decode cX6_operands 13 = .ok (.if_icmp .eq 9, 3) := by decide +kernel
theorem dX6_operands_16 : decode cX6_operands 16 = .ok (.iload_n 0, 1) := by decide +kernel
theorem dX6_operands_17 : decode cX6_operands 17 = .ok (.bipush 21, 2) := by decide +kernel
theorem dX6_operands_19 : decode cX6_operands 19 = .ok (.if_icmp .ne 5, 3) := by decide +kernel
theorem dX6_operands_22 : decode cX6_operands 22 = .ok (.iconst 0, 1) := by decide +kernel
theorem dX6_operands_23 : decode cX6_operands 23 = .ok (.ireturn, 1) := by decide +kernel
theorem dX6_operands_24 : decode cX6_operands 24 = .ok (.iload_n 0, 1) := by decide +kernel
theorem dX6_operands_25 : decode cX6_operands 25 = .ok (.bipush 7, 2) := by decide +kernel
theorem dX6_operands_27 : decode cX6_operands 27 = .ok (.if_icmp .eq 33, 3) := by decide +kernel
theorem dX6_operands_30 : decode cX6_operands 30 = .ok (.iload_n 0, 1) := by decide +kernel
theorem dX6_operands_31 : decode cX6_operands 31 = .ok (.bipush 8, 2) := by decide +kernel
theorem dX6_operands_33 : decode cX6_operands 33 = .ok (.if_icmp .eq 27, 3) := by decide +kernel
theorem dX6_operands_36 : decode cX6_operands 36 = .ok (.iload_n 0, 1) := by decide +kernel
theorem dX6_operands_37 : decode cX6_operands 37 = .ok (.bipush 11, 2) := by decide +kernel
theorem dX6_operands_39 : decode cX6_operands 39 = .ok (.if_icmp .eq 21, 3) := by decide +kernel
theorem dX6_operands_42 : decode cX6_operands 42 = .ok (.iload_n 0, 1) := by decide +kernel
theorem dX6_operands_43 : decode cX6_operands 43 = .ok (.bipush 16, 2) := by decide +kernel
theorem dX6_operands_45 : decode cX6_operands 45 = .ok (.if_icmp .eq 15, 3) := by decide +kernel
theorem dX6_operands_48 : decode cX6_operands 48 = .ok (.iload_n 0, 1) := by decide +kernel
theorem dX6_operands_49 : decode cX6_operands 49 = .ok (.bipush 19, 2) := by decide +kernel
theorem dX6_operands_51 : decode cX6_operands 51 = .ok (.if_icmp .eq 9, 3) := by decide +kernel
theorem dX6_operands_54 : decode cX6_operands 54 = .ok (.iload_n 0, 1) := by decide +kernel
theorem dX6_operands_55 : decode cX6_operands 55 = .ok (.bipush 20, 2) := by decide +kernel
theorem dX6_operands_57 : decode cX6_operands 57 = .ok (.if_icmp .ne 7, 3) := by decide +kernel
theorem dX6_operands_60 : decode cX6_operands 60 = .ok (.iconst 1, 1) := by decide +kernel
theorem dX6_operands_61 : decode cX6_operands 61 = .ok (.goto 4, 3) := by decide +kernel
theorem dX6_operands_64 : decode cX6_operands 64 = .ok (.iconst 2, 1) := by decide +kernel
theorem dX6_operands_65 : decode cX6_operands 65 = .ok (.ireturn, 1) := by decide +kernel
def fn_X6_operands (L : cp_Lay) (q : Nat) (x1 : Int32) (D : cp_Dt) : Option (Int32 × cp_Dt) :=
  if x1 = 0 then (some ((0 : Int32), D))
  else (if x1 = (17 : Int32) then (some ((0 : Int32), D))
  else (if x1 = (18 : Int32) then (some ((0 : Int32), D))
  else (if x1 = (21 : Int32) then (some ((0 : Int32), D))
  else (if x1 = (7 : Int32) then (some ((1 : Int32), D))
  else (if x1 = (8 : Int32) then (some ((1 : Int32), D))
  else (if x1 = (11 : Int32) then (some ((1 : Int32), D))
  else (if x1 = (16 : Int32) then (some ((1 : Int32), D))
  else (if x1 = (19 : Int32) then (some ((1 : Int32), D))
  else (if x1 = (20 : Int32) then (some ((1 : Int32), D))
  else (some ((2 : Int32), D)))))))))))
set_option maxHeartbeats 4000000 in
set_option maxRecDepth 100000 in
theorem ct_X6_operands (l : Launch) (G : va_G) (L : cp_Lay) (hJ : cp_J L) (q : Nat) (x1 : Int32) (D : cp_Dt) (res : Int32 × cp_Dt) (hF : fn_X6_operands L q x1 D = some res) : cp_Met l G yX6_operands wsX6_operands ({ frames := 0, cells := 0, slots := 0, locals := 0 }) L ([.int x1] : List Value) D res.2 (some (.int res.1)) := by
  refine Met.ofW (cc := cX6_operands) (maxL := 1) (ret := (some .int)) (by decide) rfl ?_
  intro p e s m args below meth c s₁ B hml hv
  obtain ⟨rfl, hP, hK, hN, hZ⟩ := hv
  have hx := B.exec
  have hb := B.bytes
  have hr := B.returns
  have hts := atoms_spec (ws := wsX6_operands) B.pre
  have hown : s.vm.findClass "CreaturePondModel" = some m.cls := findClass_of_methodNamed B.named
  have hlocks := B.notSynchronized
  have hS : va_S (cp_A L) s.heap s.heap [] := va_S.rf
  have htT : ∀ w ∈ cp_T, w.before ([.int x1] : List Value).toArray s = true := fun w h => hts w (List.mem_cons_of_mem _ h)
  have hl := lv_entry (([.int x1] : List Value)) (n := 1) (Nat.le_of_ble_eq_true rfl)
  rw [lg_entry_eq]
  generalize (lg_sl (([.int x1] : List Value)) ++ List.replicate (1 - (lg_sl (([.int x1] : List Value))).length) Slot.unset).toArray = ls at hl ⊢
  have hl : lv_has ls 1 [(0, .int x1)] := hl
  unfold fn_X6_operands at hF
  refine lv_iload_n hx hb dX6_operands_0 rfl (lv_at hl 0 rfl) ?_
  refine lv_if_eq (tgt := 22) hx hb dX6_operands_1 (by decide) (fun hc1 => ?_) (fun hc1 => ?_)
  · rw [if_pos hc1] at hF
    refine lv_iconst (v := (0 : Int32)) hx hb dX6_operands_22 (by decide) ?_
    exact cp_iret hx hb hr hlocks hF hP hS dX6_operands_23
  · rw [if_neg hc1] at hF
    refine lv_iload_n hx hb dX6_operands_4 rfl (lv_at hl 0 rfl) ?_
    refine lv_bipush (v := (17 : Int32)) hx hb dX6_operands_5 (by decide) ?_
    refine lv_icmp_eq (tgt := 22) hx hb dX6_operands_7 (by decide) (fun hc2 => ?_) (fun hc2 => ?_)
    · rw [if_pos hc2] at hF
      refine lv_iconst (v := (0 : Int32)) hx hb dX6_operands_22 (by decide) ?_
      exact cp_iret hx hb hr hlocks hF hP hS dX6_operands_23
    · rw [if_neg hc2] at hF
      refine lv_iload_n hx hb dX6_operands_10 rfl (lv_at hl 0 rfl) ?_
      refine lv_bipush (v := (18 : Int32)) hx hb dX6_operands_11 (by decide) ?_
      refine lv_icmp_eq (tgt := 22) hx hb dX6_operands_13 (by decide) (fun hc3 => ?_) (fun hc3 => ?_)
      · rw [if_pos hc3] at hF
        refine lv_iconst (v := (0 : Int32)) hx hb dX6_operands_22 (by decide) ?_
        exact cp_iret hx hb hr hlocks hF hP hS dX6_operands_23
      · rw [if_neg hc3] at hF
        refine lv_iload_n hx hb dX6_operands_16 rfl (lv_at hl 0 rfl) ?_
        refine lv_bipush (v := (21 : Int32)) hx hb dX6_operands_17 (by decide) ?_
        refine lv_icmp_ne (tgt := 24) hx hb dX6_operands_19 (by decide) (fun hc4 => ?_) (fun hc4 => ?_)
        · rw [if_neg hc4] at hF
          refine lv_iload_n hx hb dX6_operands_24 rfl (lv_at hl 0 rfl) ?_
          refine lv_bipush (v := (7 : Int32)) hx hb dX6_operands_25 (by decide) ?_
          refine lv_icmp_eq (tgt := 60) hx hb dX6_operands_27 (by decide) (fun hc5 => ?_) (fun hc5 => ?_)
          · rw [if_pos hc5] at hF
            refine lv_iconst (v := (1 : Int32)) hx hb dX6_operands_60 (by decide) ?_
            refine lv_goto (tgt := 65) hx hb dX6_operands_61 (by decide) ?_
            exact cp_iret hx hb hr hlocks hF hP hS dX6_operands_65
          · rw [if_neg hc5] at hF
            refine lv_iload_n hx hb dX6_operands_30 rfl (lv_at hl 0 rfl) ?_
            refine lv_bipush (v := (8 : Int32)) hx hb dX6_operands_31 (by decide) ?_
            refine lv_icmp_eq (tgt := 60) hx hb dX6_operands_33 (by decide) (fun hc6 => ?_) (fun hc6 => ?_)
            · rw [if_pos hc6] at hF
              refine lv_iconst (v := (1 : Int32)) hx hb dX6_operands_60 (by decide) ?_
              refine lv_goto (tgt := 65) hx hb dX6_operands_61 (by decide) ?_
              exact cp_iret hx hb hr hlocks hF hP hS dX6_operands_65
            · rw [if_neg hc6] at hF
              refine lv_iload_n hx hb dX6_operands_36 rfl (lv_at hl 0 rfl) ?_
              refine lv_bipush (v := (11 : Int32)) hx hb dX6_operands_37 (by decide) ?_
              refine lv_icmp_eq (tgt := 60) hx hb dX6_operands_39 (by decide) (fun hc7 => ?_) (fun hc7 => ?_)
              · rw [if_pos hc7] at hF
                refine lv_iconst (v := (1 : Int32)) hx hb dX6_operands_60 (by decide) ?_
                refine lv_goto (tgt := 65) hx hb dX6_operands_61 (by decide) ?_
                exact cp_iret hx hb hr hlocks hF hP hS dX6_operands_65
              · rw [if_neg hc7] at hF
                refine lv_iload_n hx hb dX6_operands_42 rfl (lv_at hl 0 rfl) ?_
                refine lv_bipush (v := (16 : Int32)) hx hb dX6_operands_43 (by decide) ?_
                refine lv_icmp_eq (tgt := 60) hx hb dX6_operands_45 (by decide) (fun hc8 => ?_) (fun hc8 => ?_)
                · rw [if_pos hc8] at hF
                  refine lv_iconst (v := (1 : Int32)) hx hb dX6_operands_60 (by decide) ?_
                  refine lv_goto (tgt := 65) hx hb dX6_operands_61 (by decide) ?_
                  exact cp_iret hx hb hr hlocks hF hP hS dX6_operands_65
                · rw [if_neg hc8] at hF
                  refine lv_iload_n hx hb dX6_operands_48 rfl (lv_at hl 0 rfl) ?_
                  refine lv_bipush (v := (19 : Int32)) hx hb dX6_operands_49 (by decide) ?_
                  refine lv_icmp_eq (tgt := 60) hx hb dX6_operands_51 (by decide) (fun hc9 => ?_) (fun hc9 => ?_)
                  · rw [if_pos hc9] at hF
                    refine lv_iconst (v := (1 : Int32)) hx hb dX6_operands_60 (by decide) ?_
                    refine lv_goto (tgt := 65) hx hb dX6_operands_61 (by decide) ?_
                    exact cp_iret hx hb hr hlocks hF hP hS dX6_operands_65
                  · rw [if_neg hc9] at hF
                    refine lv_iload_n hx hb dX6_operands_54 rfl (lv_at hl 0 rfl) ?_
                    refine lv_bipush (v := (20 : Int32)) hx hb dX6_operands_55 (by decide) ?_
                    refine lv_icmp_ne (tgt := 64) hx hb dX6_operands_57 (by decide) (fun hc10 => ?_) (fun hc10 => ?_)
                    · rw [if_neg hc10] at hF
                      refine lv_iconst (v := (2 : Int32)) hx hb dX6_operands_64 (by decide) ?_
                      exact cp_iret hx hb hr hlocks hF hP hS dX6_operands_65
                    · rw [if_pos hc10] at hF
                      refine lv_iconst (v := (1 : Int32)) hx hb dX6_operands_60 (by decide) ?_
                      refine lv_goto (tgt := 65) hx hb dX6_operands_61 (by decide) ?_
                      exact cp_iret hx hb hr hlocks hF hP hS dX6_operands_65
        · rw [if_pos hc4] at hF
          refine lv_iconst (v := (0 : Int32)) hx hb dX6_operands_22 (by decide) ?_
          exact cp_iret hx hb hr hlocks hF hP hS dX6_operands_23
theorem dX6_feels_0 : decode cX6_feels 0 = .ok (.iload_n 1, 1) := by decide +kernel
theorem dX6_feels_1 : decode cX6_feels 1 = .ok (.invokestatic 30, 3) := by decide +kernel
theorem dX6_feels_4 : decode cX6_feels 4 = .ok (.istore_n 3, 1) := by decide +kernel
theorem dX6_feels_5 : decode cX6_feels 5 = .ok (.iload_n 2, 1) := by decide +kernel
theorem dX6_feels_6 : decode cX6_feels 6 = .ok (.ifCond .ne 19, 3) := by decide +kernel
theorem dX6_feels_9 : decode cX6_feels 9 = .ok (.bipush 127, 2) := by decide +kernel
theorem dX6_feels_11 : decode cX6_feels 11 = .ok (.aload_n 0, 1) := by decide +kernel
theorem dX6_feels_12 : decode cX6_feels 12 = .ok (.getfield 7, 3) := by decide +kernel
theorem dX6_feels_15 : decode cX6_feels 15 = .ok (.iload_n 3, 1) := by decide +kernel
theorem dX6_feels_16 : decode cX6_feels 16 = .ok (.iconst 2, 1) := by decide +kernel
theorem dX6_feels_17 : decode cX6_feels 17 = .ok (.iadd, 1) := by decide +kernel
theorem dX6_feels_18 : decode cX6_feels 18 = .ok (.iaload, 1) := by decide +kernel
theorem dX6_feels_19 : decode cX6_feels 19 = .ok (.invokestatic 45, 3) := by decide +kernel
theorem dX6_feels_22 : decode cX6_feels 22 = .ok (.goto 51, 3) := by decide +kernel
theorem dX6_feels_25 : decode cX6_feels 25 = .ok (.iload_n 2, 1) := by decide +kernel
theorem dX6_feels_26 : decode cX6_feels 26 = .ok (.iconst 1, 1) := by decide +kernel
theorem dX6_feels_27 : decode cX6_feels 27 = .ok (.if_icmp .ne 17, 3) := by decide +kernel
theorem dX6_feels_30 : decode cX6_feels 30 = .ok (.aload_n 0, 1) := by decide +kernel
theorem dX6_feels_31 : decode cX6_feels 31 = .ok (.getfield 7, 3) := by decide +kernel
theorem dX6_feels_34 : decode cX6_feels 34 = .ok (.iload_n 3, 1) := by decide +kernel
theorem dX6_feels_35 : decode cX6_feels 35 = .ok (.iconst 3, 1) := by decide +kernel
theorem dX6_feels_36 : decode cX6_feels 36 = .ok (.iadd, 1) := by decide +kernel
theorem dX6_feels_37 : decode cX6_feels 37 = .ok (.iaload, 1) := by decide +kernel
theorem dX6_feels_38 : decode cX6_feels 38 = .ok (.bipush 127, 2) := by decide +kernel
theorem dX6_feels_40 : decode cX6_feels 40 = .ok (.iand, 1) := by decide +kernel
theorem dX6_feels_41 : decode cX6_feels 41 = .ok (.goto 32, 3) := by decide +kernel
theorem dX6_feels_44 : decode cX6_feels 44 = .ok (.iload_n 2, 1) := by decide +kernel
theorem dX6_feels_45 : decode cX6_feels 45 = .ok (.iconst 2, 1) := by decide +kernel
theorem dX6_feels_46 : decode cX6_feels 46 = .ok (.if_icmp .ne 14, 3) := by decide +kernel
theorem dX6_feels_49 : decode cX6_feels 49 = .ok (.aload_n 0, 1) := by decide +kernel
theorem dX6_feels_50 : decode cX6_feels 50 = .ok (.getfield 7, 3) := by decide +kernel
theorem dX6_feels_53 : decode cX6_feels 53 = .ok (.iload_n 3, 1) := by decide +kernel
theorem dX6_feels_54 : decode cX6_feels 54 = .ok (.iconst 1, 1) := by decide +kernel
theorem dX6_feels_55 : decode cX6_feels 55 = .ok (.iadd, 1) := by decide +kernel
theorem dX6_feels_56 : decode cX6_feels 56 = .ok (.iaload, 1) := by decide +kernel
theorem dX6_feels_57 : decode cX6_feels 57 = .ok (.goto 16, 3) := by decide +kernel
theorem dX6_feels_60 : decode cX6_feels 60 = .ok (.aload_n 0, 1) := by decide +kernel
theorem dX6_feels_61 : decode cX6_feels 61 = .ok (.getfield 7, 3) := by decide +kernel
theorem dX6_feels_64 : decode cX6_feels 64 = .ok (.aload_n 0, 1) := by decide +kernel
theorem dX6_feels_65 : decode cX6_feels 65 = .ok (.getfield 7, 3) := by decide +kernel
theorem dX6_feels_68 : decode cX6_feels 68 = .ok (.iload_n 3, 1) := by decide +kernel
theorem dX6_feels_69 : decode cX6_feels 69 = .ok (.iaload, 1) := by decide +kernel
theorem dX6_feels_70 : decode cX6_feels 70 = .ok (.iaload, 1) := by decide +kernel
theorem dX6_feels_71 : decode cX6_feels 71 = .ok (.iconst 1, 1) := by decide +kernel
theorem dX6_feels_72 : decode cX6_feels 72 = .ok (.ishr, 1) := by decide +kernel
theorem dX6_feels_73 : decode cX6_feels 73 = .ok (.ireturn, 1) := by decide +kernel
def fn_X6_feels (L : cp_Lay) (q : Nat) (k0 : Nat) (x1 : Int32) (x2 : Int32) (D : cp_Dt) : Option (Int32 × cp_Dt) :=
  (fn_X6_at L q x1 D).bind fun y1 =>
  if x2 = 0 then ((cp_gR L k0 6 3).bind fun r13 =>
  (cp_aI L y1.2 0 r13 (y1.1 + (2 : Int32))).bind fun v14 =>
  (fn_X6_least L q (127 : Int32) v14 y1.2).bind fun y15 =>
  some (y15.1, y15.2))
  else (if x2 = (1 : Int32) then ((cp_gR L k0 6 3).bind fun r11 =>
  (cp_aI L y1.2 0 r11 (y1.1 + (3 : Int32))).bind fun v12 =>
  some ((v12 &&& (127 : Int32)), y1.2))
  else (if x2 = (2 : Int32) then ((cp_gR L k0 6 3).bind fun r9 =>
  (cp_aI L y1.2 0 r9 (y1.1 + (1 : Int32))).bind fun v10 =>
  some (v10, y1.2))
  else ((cp_gR L k0 6 3).bind fun r5 =>
  (cp_gR L k0 6 3).bind fun r6 =>
  (cp_aI L y1.2 0 r6 y1.1).bind fun v7 =>
  (cp_aI L y1.2 0 r5 v7).bind fun v8 =>
  some ((v8 >>> ((1 : Int32) &&& 31)), y1.2))))
set_option maxHeartbeats 4000000 in
set_option maxRecDepth 100000 in
theorem ct_X6_feels (l : Launch) (G : va_G) (L : cp_Lay) (hJ : cp_J L) (q : Nat) (k0 : Nat) (x1 : Int32) (x2 : Int32) (D : cp_Dt) (res : Int32 × cp_Dt) (hF : fn_X6_feels L q k0 x1 x2 D = some res) : cp_Met l G yX6_feels wsX6_feels ({ frames := 1, cells := 0, slots := 0, locals := 21 }) L ([.ref (L.2.1 k0), .int x1, .int x2] : List Value) D res.2 (some (.int res.1)) := by
  refine Met.ofW (cc := cX6_feels) (maxL := 4) (ret := (some .int)) (by decide) rfl ?_
  intro p e s m args below meth c s₁ B hml hv
  obtain ⟨rfl, hP, hK, hN, hZ⟩ := hv
  have hx := B.exec
  have hb := B.bytes
  have hr := B.returns
  have hts := atoms_spec (ws := wsX6_feels) B.pre
  have hown : s.vm.findClass "CreaturePondModel" = some m.cls := findClass_of_methodNamed B.named
  have hlocks := B.notSynchronized
  have hS : va_S (cp_A L) s.heap s.heap [] := va_S.rf
  have htT : ∀ w ∈ cp_T, w.before ([.ref (L.2.1 k0), .int x1, .int x2] : List Value).toArray s = true := fun w h => hts w (List.mem_cons_of_mem _ h)
  have hl := lv_entry (([.ref (L.2.1 k0), .int x1, .int x2] : List Value)) (n := 4) (Nat.le_of_ble_eq_true rfl)
  rw [lg_entry_eq]
  generalize (lg_sl (([.ref (L.2.1 k0), .int x1, .int x2] : List Value)) ++ List.replicate (4 - (lg_sl (([.ref (L.2.1 k0), .int x1, .int x2] : List Value))).length) Slot.unset).toArray = ls at hl ⊢
  have hl : lv_has ls 4 [(0, .ref (L.2.1 k0)), (1, .int x1), (2, .int x2)] := hl
  unfold fn_X6_feels at hF
  refine lv_iload_n hx hb dX6_feels_0 rfl (lv_at hl 1 rfl) ?_
  obtain ⟨y1, ey1, hF⟩ := cp_bind hF
  refine cp_call (st1 := [.int y1.1]) (va_runS (As := [.int x1]) (rest := []) ⟨hx, hb, hml, hown, htT⟩ (ct_X6_at l G L hJ q x1 D y1 ey1) ⟨callB_of 1 htT gdX6_at rfl rfl rfl (htT _ tw_8) (htT _ tw_417) hdX6_at ⟨Nat.le_of_ble_eq_true rfl, Nat.le_of_ble_eq_true rfl⟩, (htT _ tw_418)⟩ ⟨cp_blind, cp_pre hP hK hN hZ hS⟩ rfl rfl hl.1 rfl (lv_room (Nat.le_of_ble_eq_true rfl)) dX6_feels_1 ⟨Nat.zero_le _, Nat.zero_le _⟩) hS (fun H locs hP hS => ?_)
  refine lv_istore_n (lv' := [(3, .int y1.1), (0, .ref (L.2.1 k0)), (1, .int x1), (2, .int x2)]) hx hb dX6_feels_4 rfl hl (by decide) rfl (fun ls hl => ?_)
  refine lv_iload_n hx hb dX6_feels_5 rfl (lv_at hl 3 rfl) ?_
  refine lv_if_ne (tgt := 25) hx hb dX6_feels_6 (by decide) (fun hc2 => ?_) (fun hc2 => ?_)
  · rw [if_neg hc2] at hF
    refine lv_iload_n hx hb dX6_feels_25 rfl (lv_at hl 3 rfl) ?_
    refine lv_iconst (v := (1 : Int32)) hx hb dX6_feels_26 (by decide) ?_
    refine lv_icmp_ne (tgt := 44) hx hb dX6_feels_27 (by decide) (fun hc3 => ?_) (fun hc3 => ?_)
    · rw [if_neg hc3] at hF
      refine lv_iload_n hx hb dX6_feels_44 rfl (lv_at hl 3 rfl) ?_
      refine lv_iconst (v := (2 : Int32)) hx hb dX6_feels_45 (by decide) ?_
      refine lv_icmp_ne (tgt := 60) hx hb dX6_feels_46 (by decide) (fun hc4 => ?_) (fun hc4 => ?_)
      · rw [if_neg hc4] at hF
        refine lv_aload_n hx hb dX6_feels_60 rfl (lv_at hl 1 rfl) ?_
        obtain ⟨r5, er5, hF⟩ := cp_bind hF
        refine cp_getR (T := TX6) (N := 6) (ci := 6) (j := 3) hx hb htT hinX6 hown hK hP rfl (by decide) rfl (htT _ tw_378) er5 dX6_feels_61 ?_
        refine lv_aload_n hx hb dX6_feels_64 rfl (lv_at hl 1 rfl) ?_
        obtain ⟨r6, er6, hF⟩ := cp_bind hF
        refine cp_getR (T := TX6) (N := 6) (ci := 6) (j := 3) hx hb htT hinX6 hown hK hP rfl (by decide) rfl (htT _ tw_378) er6 dX6_feels_65 ?_
        refine lv_iload_n hx hb dX6_feels_68 rfl (lv_at hl 0 rfl) ?_
        obtain ⟨v7, ev7, hF⟩ := cp_bind hF
        refine cp_iald hx hb hK hP ev7 dX6_feels_69 ?_
        obtain ⟨v8, ev8, hF⟩ := cp_bind hF
        refine cp_iald hx hb hK hP ev8 dX6_feels_70 ?_
        refine lv_iconst (v := (1 : Int32)) hx hb dX6_feels_71 (by decide) ?_
        refine lv_ishr hx hb dX6_feels_72 ?_
        exact cp_iret hx hb hr hlocks hF hP hS dX6_feels_73
      · rw [if_pos hc4] at hF
        refine lv_aload_n hx hb dX6_feels_49 rfl (lv_at hl 1 rfl) ?_
        obtain ⟨r9, er9, hF⟩ := cp_bind hF
        refine cp_getR (T := TX6) (N := 6) (ci := 6) (j := 3) hx hb htT hinX6 hown hK hP rfl (by decide) rfl (htT _ tw_378) er9 dX6_feels_50 ?_
        refine lv_iload_n hx hb dX6_feels_53 rfl (lv_at hl 0 rfl) ?_
        refine lv_iconst (v := (1 : Int32)) hx hb dX6_feels_54 (by decide) ?_
        refine lv_iadd hx hb dX6_feels_55 ?_
        obtain ⟨v10, ev10, hF⟩ := cp_bind hF
        refine cp_iald hx hb hK hP ev10 dX6_feels_56 ?_
        refine lv_goto (tgt := 73) hx hb dX6_feels_57 (by decide) ?_
        exact cp_iret hx hb hr hlocks hF hP hS dX6_feels_73
    · rw [if_pos hc3] at hF
      refine lv_aload_n hx hb dX6_feels_30 rfl (lv_at hl 1 rfl) ?_
      obtain ⟨r11, er11, hF⟩ := cp_bind hF
      refine cp_getR (T := TX6) (N := 6) (ci := 6) (j := 3) hx hb htT hinX6 hown hK hP rfl (by decide) rfl (htT _ tw_378) er11 dX6_feels_31 ?_
      refine lv_iload_n hx hb dX6_feels_34 rfl (lv_at hl 0 rfl) ?_
      refine lv_iconst (v := (3 : Int32)) hx hb dX6_feels_35 (by decide) ?_
      refine lv_iadd hx hb dX6_feels_36 ?_
      obtain ⟨v12, ev12, hF⟩ := cp_bind hF
      refine cp_iald hx hb hK hP ev12 dX6_feels_37 ?_
      refine lv_bipush (v := (127 : Int32)) hx hb dX6_feels_38 (by decide) ?_
      refine lv_iand hx hb dX6_feels_40 ?_
      refine lv_goto (tgt := 73) hx hb dX6_feels_41 (by decide) ?_
      exact cp_iret hx hb hr hlocks hF hP hS dX6_feels_73
  · rw [if_pos hc2] at hF
    refine lv_bipush (v := (127 : Int32)) hx hb dX6_feels_9 (by decide) ?_
    refine lv_aload_n hx hb dX6_feels_11 rfl (lv_at hl 1 rfl) ?_
    obtain ⟨r13, er13, hF⟩ := cp_bind hF
    refine cp_getR (T := TX6) (N := 6) (ci := 6) (j := 3) hx hb htT hinX6 hown hK hP rfl (by decide) rfl (htT _ tw_378) er13 dX6_feels_12 ?_
    refine lv_iload_n hx hb dX6_feels_15 rfl (lv_at hl 0 rfl) ?_
    refine lv_iconst (v := (2 : Int32)) hx hb dX6_feels_16 (by decide) ?_
    refine lv_iadd hx hb dX6_feels_17 ?_
    obtain ⟨v14, ev14, hF⟩ := cp_bind hF
    refine cp_iald hx hb hK hP ev14 dX6_feels_18 ?_
    obtain ⟨y15, ey15, hF⟩ := cp_bind hF
    refine cp_call (st1 := [.int y15.1]) (va_runS (As := [.int (127 : Int32), .int v14]) (rest := []) ⟨hx, hb, hml, hown, htT⟩ (ct_X6_least l G L hJ q (127 : Int32) v14 y1.2 y15 ey15) ⟨callB_of 2 htT gdX6_least rfl rfl rfl (htT _ tw_8) (htT _ tw_449) hdX6_least ⟨Nat.le_of_ble_eq_true rfl, Nat.le_of_ble_eq_true rfl⟩, (htT _ tw_450)⟩ ⟨cp_blind, cp_pre hP hK hN hZ hS⟩ rfl rfl hl.1 rfl (lv_room (Nat.le_of_ble_eq_true rfl)) dX6_feels_19 ⟨Nat.zero_le _, Nat.zero_le _⟩) hS (fun H locs hP hS => ?_)
    refine lv_goto (tgt := 73) hx hb dX6_feels_22 (by decide) ?_
    exact cp_iret hx hb hr hlocks hF hP hS dX6_feels_73
theorem dX6_next_0 : decode cX6_next 0 = .ok (.aload_n 0, 1) := by decide +kernel
theorem dX6_next_1 : decode cX6_next 1 = .ok (.getfield 7, 3) := by decide +kernel
theorem dX6_next_4 : decode cX6_next 4 = .ok (.sipush 1226, 3) := by decide +kernel
theorem dX6_next_7 : decode cX6_next 7 = .ok (.iaload, 1) := by decide +kernel
theorem dX6_next_8 : decode cX6_next 8 = .ok (.istore_n 1, 1) := by decide +kernel
theorem dX6_next_9 : decode cX6_next 9 = .ok (.aload_n 0, 1) := by decide +kernel
theorem dX6_next_10 : decode cX6_next 10 = .ok (.getfield 7, 3) := by decide +kernel
theorem dX6_next_13 : decode cX6_next 13 = .ok (.sipush 1226, 3) := by decide +kernel
theorem dX6_next_16 : decode cX6_next 16 = .ok (.iload_n 1, 1) := by decide +kernel
theorem dX6_next_17 : decode cX6_next 17 = .ok (.ldc 44, 2) := by decide +kernel
theorem dX6_next_19 : decode cX6_next 19 = .ok (.imul, 1) := by decide +kernel
theorem dX6_next_20 : decode cX6_next 20 = .ok (.iconst 1, 1) := by decide +kernel
theorem dX6_next_21 : decode cX6_next 21 = .ok (.iadd, 1) := by decide +kernel
theorem dX6_next_22 : decode cX6_next 22 = .ok (.iastore, 1) := by decide +kernel
theorem dX6_next_23 : decode cX6_next 23 = .ok (.iload_n 1, 1) := by decide +kernel
theorem dX6_next_24 : decode cX6_next 24 = .ok (.bipush 16, 2) := by decide +kernel
theorem dX6_next_26 : decode cX6_next 26 = .ok (.iushr, 1) := by decide +kernel
theorem dX6_next_27 : decode cX6_next 27 = .ok (.ireturn, 1) := by decide +kernel
def fn_X6_next (L : cp_Lay) (q : Nat) (k0 : Nat) (D : cp_Dt) : Option (Int32 × cp_Dt) :=
  (cp_gR L k0 6 3).bind fun r1 =>
  (cp_aI L D 0 r1 (1226 : Int32)).bind fun v2 =>
  (cp_gR L k0 6 3).bind fun r3 =>
  (cp_aS L D 0 r3 (1226 : Int32) ((v2 * (134775813 : Int32)) + (1 : Int32))).bind fun D4 =>
  some ((v2.toUInt32 >>> ((16 : Int32).toUInt32 &&& Int32.toUInt32 31)).toInt32, D4)
set_option maxHeartbeats 4000000 in
set_option maxRecDepth 100000 in
theorem ct_X6_next (l : Launch) (G : va_G) (L : cp_Lay) (hJ : cp_J L) (q : Nat) (k0 : Nat) (D : cp_Dt) (res : Int32 × cp_Dt) (hF : fn_X6_next L q k0 D = some res) : cp_Met l G yX6_next wsX6_next ({ frames := 0, cells := 0, slots := 0, locals := 0 }) L ([.ref (L.2.1 k0)] : List Value) D res.2 (some (.int res.1)) := by
  refine Met.ofW (cc := cX6_next) (maxL := 2) (ret := (some .int)) (by decide) rfl ?_
  intro p e s m args below meth c s₁ B hml hv
  obtain ⟨rfl, hP, hK, hN, hZ⟩ := hv
  have hx := B.exec
  have hb := B.bytes
  have hr := B.returns
  have hts := atoms_spec (ws := wsX6_next) B.pre
  have hown : s.vm.findClass "CreaturePondModel" = some m.cls := findClass_of_methodNamed B.named
  have hlocks := B.notSynchronized
  have hS : va_S (cp_A L) s.heap s.heap [] := va_S.rf
  have htT : ∀ w ∈ cp_T, w.before ([.ref (L.2.1 k0)] : List Value).toArray s = true := fun w h => hts w (List.mem_cons_of_mem _ h)
  have hl := lv_entry (([.ref (L.2.1 k0)] : List Value)) (n := 2) (Nat.le_of_ble_eq_true rfl)
  rw [lg_entry_eq]
  generalize (lg_sl (([.ref (L.2.1 k0)] : List Value)) ++ List.replicate (2 - (lg_sl (([.ref (L.2.1 k0)] : List Value))).length) Slot.unset).toArray = ls at hl ⊢
  have hl : lv_has ls 2 [(0, .ref (L.2.1 k0))] := hl
  unfold fn_X6_next at hF
  refine lv_aload_n hx hb dX6_next_0 rfl (lv_at hl 0 rfl) ?_
  obtain ⟨r1, er1, hF⟩ := cp_bind hF
  refine cp_getR (T := TX6) (N := 6) (ci := 6) (j := 3) hx hb htT hinX6 hown hK hP rfl (by decide) rfl (htT _ tw_378) er1 dX6_next_1 ?_
  refine lv_sipush (v := (1226 : Int32)) hx hb dX6_next_4 (by decide) ?_
  obtain ⟨v2, ev2, hF⟩ := cp_bind hF
  refine cp_iald hx hb hK hP ev2 dX6_next_7 ?_
  refine lv_istore_n (lv' := [(1, .int v2), (0, .ref (L.2.1 k0))]) hx hb dX6_next_8 rfl hl (by decide) rfl (fun ls hl => ?_)
  refine lv_aload_n hx hb dX6_next_9 rfl (lv_at hl 1 rfl) ?_
  obtain ⟨r3, er3, hF⟩ := cp_bind hF
  refine cp_getR (T := TX6) (N := 6) (ci := 6) (j := 3) hx hb htT hinX6 hown hK hP rfl (by decide) rfl (htT _ tw_378) er3 dX6_next_10 ?_
  refine lv_sipush (v := (1226 : Int32)) hx hb dX6_next_13 (by decide) ?_
  refine lv_iload_n hx hb dX6_next_16 rfl (lv_at hl 0 rfl) ?_
  refine lv_ldc (v := (134775813 : Int32)) hx hb hown (htT _ tw_488) dX6_next_17 ?_
  refine lv_imul hx hb dX6_next_19 ?_
  refine lv_iconst (v := (1 : Int32)) hx hb dX6_next_20 (by decide) ?_
  refine lv_iadd hx hb dX6_next_21 ?_
  obtain ⟨D4, eD4, hF⟩ := cp_bind hF
  refine cp_iast hx hb hK hJ hP hS eD4 dX6_next_22 (fun H locs hP hS => ?_)
  refine lv_iload_n hx hb dX6_next_23 rfl (lv_at hl 0 rfl) ?_
  refine lv_bipush (v := (16 : Int32)) hx hb dX6_next_24 (by decide) ?_
  refine lv_iushr hx hb dX6_next_26 rfl ?_
  exact cp_iret hx hb hr hlocks hF hP hS dX6_next_27
theorem dX6_die_0 : decode cX6_die 0 = .ok (.iload_n 1, 1) := by decide +kernel
theorem dX6_die_1 : decode cX6_die 1 = .ok (.invokestatic 30, 3) := by decide +kernel
theorem dX6_die_4 : decode cX6_die 4 = .ok (.istore_n 2, 1) := by decide +kernel
theorem dX6_die_5 : decode cX6_die 5 = .ok (.aload_n 0, 1) := by decide +kernel
theorem dX6_die_6 : decode cX6_die 6 = .ok (.getfield 7, 3) := by decide +kernel
theorem dX6_die_9 : decode cX6_die 9 = .ok (.iload_n 2, 1) := by decide +kernel
theorem dX6_die_10 : decode cX6_die 10 = .ok (.iconst 2, 1) := by decide +kernel
theorem dX6_die_11 : decode cX6_die 11 = .ok (.iadd, 1) := by decide +kernel
theorem dX6_die_12 : decode cX6_die 12 = .ok (.iaload, 1) := by decide +kernel
theorem dX6_die_13 : decode cX6_die 13 = .ok (.ifCond .le 18, 3) := by decide +kernel
theorem dX6_die_16 : decode cX6_die 16 = .ok (.aload_n 0, 1) := by decide +kernel
theorem dX6_die_17 : decode cX6_die 17 = .ok (.getfield 7, 3) := by decide +kernel
theorem dX6_die_20 : decode cX6_die 20 = .ok (.iload_n 2, 1) := by decide +kernel
theorem dX6_die_21 : decode cX6_die 21 = .ok (.iconst 3, 1) := by decide +kernel
theorem dX6_die_22 : decode cX6_die 22 = .ok (.iadd, 1) := by decide +kernel
theorem dX6_die_23 : decode cX6_die 23 = .ok (.iaload, 1) := by decide +kernel
theorem dX6_die_24 : decode cX6_die 24 = .ok (.sipush 200, 3) := by decide +kernel
theorem dX6_die_27 : decode cX6_die 27 = .ok (.if_icmp .ge 4, 3) := by decide +kernel
theorem dX6_die_30 : decode cX6_die 30 = .ok (.return_, 1) := by decide +kernel
theorem dX6_die_31 : decode cX6_die 31 = .ok (.aload_n 0, 1) := by decide +kernel
theorem dX6_die_32 : decode cX6_die 32 = .ok (.getfield 7, 3) := by decide +kernel
theorem dX6_die_35 : decode cX6_die 35 = .ok (.iload_n 2, 1) := by decide +kernel
theorem dX6_die_36 : decode cX6_die 36 = .ok (.iaload, 1) := by decide +kernel
theorem dX6_die_37 : decode cX6_die 37 = .ok (.istore_n 3, 1) := by decide +kernel
theorem dX6_die_38 : decode cX6_die 38 = .ok (.sipush 250, 3) := by decide +kernel
theorem dX6_die_41 : decode cX6_die 41 = .ok (.aload_n 0, 1) := by decide +kernel
theorem dX6_die_42 : decode cX6_die 42 = .ok (.getfield 7, 3) := by decide +kernel
theorem dX6_die_45 : decode cX6_die 45 = .ok (.iload_n 3, 1) := by decide +kernel
theorem dX6_die_46 : decode cX6_die 46 = .ok (.iaload, 1) := by decide +kernel
theorem dX6_die_47 : decode cX6_die 47 = .ok (.isub, 1) := by decide +kernel
theorem dX6_die_48 : decode cX6_die 48 = .ok (.aload_n 0, 1) := by decide +kernel
theorem dX6_die_49 : decode cX6_die 49 = .ok (.getfield 7, 3) := by decide +kernel
theorem dX6_die_52 : decode cX6_die 52 = .ok (.iload_n 2, 1) := by decide +kernel
theorem dX6_die_53 : decode cX6_die 53 = .ok (.iconst 2, 1) := by decide +kernel
theorem dX6_die_54 : decode cX6_die 54 = .ok (.iadd, 1) := by decide +kernel
theorem dX6_die_55 : decode cX6_die 55 = .ok (.iaload, 1) := by decide +kernel
theorem dX6_die_56 : decode cX6_die 56 = .ok (.invokestatic 45, 3) := by decide +kernel
theorem dX6_die_59 : decode cX6_die 59 = .ok (.istore 4, 2) := by decide +kernel
theorem dX6_die_61 : decode cX6_die 61 = .ok (.aload_n 0, 1) := by decide +kernel
theorem dX6_die_62 : decode cX6_die 62 = .ok (.getfield 7, 3) := by decide +kernel
theorem dX6_die_65 : decode cX6_die 65 = .ok (.iload_n 3, 1) := by decide +kernel
theorem dX6_die_66 : decode cX6_die 66 = .ok (.dup2, 1) := by decide +kernel
theorem dX6_die_67 : decode cX6_die 67 = .ok (.iaload, 1) := by decide +kernel
theorem dX6_die_68 : decode cX6_die 68 = .ok (.iload 4, 2) := by decide +kernel
theorem dX6_die_70 : decode cX6_die 70 = .ok (.iadd, 1) := by decide +kernel
theorem dX6_die_71 : decode cX6_die 71 = .ok (.iastore, 1) := by decide +kernel
theorem dX6_die_72 : decode cX6_die 72 = .ok (.aload_n 0, 1) := by decide +kernel
theorem dX6_die_73 : decode cX6_die 73 = .ok (.getfield 7, 3) := by decide +kernel
theorem dX6_die_76 : decode cX6_die 76 = .ok (.sipush 1224, 3) := by decide +kernel
theorem dX6_die_79 : decode cX6_die 79 = .ok (.dup2, 1) := by decide +kernel
theorem dX6_die_80 : decode cX6_die 80 = .ok (.iaload, 1) := by decide +kernel
theorem dX6_die_81 : decode cX6_die 81 = .ok (.aload_n 0, 1) := by decide +kernel
theorem dX6_die_82 : decode cX6_die 82 = .ok (.getfield 7, 3) := by decide +kernel
theorem dX6_die_85 : decode cX6_die 85 = .ok (.iload_n 2, 1) := by decide +kernel
theorem dX6_die_86 : decode cX6_die 86 = .ok (.iconst 2, 1) := by decide +kernel
theorem dX6_die_87 : decode cX6_die 87 = .ok (.iadd, 1) := by decide +kernel
theorem dX6_die_88 : decode cX6_die 88 = .ok (.iaload, 1) := by decide +kernel
theorem dX6_die_89 : decode cX6_die 89 = .ok (.iload 4, 2) := by decide +kernel
theorem dX6_die_91 : decode cX6_die 91 = .ok (.isub, 1) := by decide +kernel
theorem dX6_die_92 : decode cX6_die 92 = .ok (.iadd, 1) := by decide +kernel
theorem dX6_die_93 : decode cX6_die 93 = .ok (.iastore, 1) := by decide +kernel
theorem dX6_die_94 : decode cX6_die 94 = .ok (.aload_n 0, 1) := by decide +kernel
theorem dX6_die_95 : decode cX6_die 95 = .ok (.getfield 7, 3) := by decide +kernel
theorem dX6_die_98 : decode cX6_die 98 = .ok (.iload_n 2, 1) := by decide +kernel
theorem dX6_die_99 : decode cX6_die 99 = .ok (.iconst (-1), 1) := by decide +kernel
theorem dX6_die_100 : decode cX6_die 100 = .ok (.iastore, 1) := by decide +kernel
theorem dX6_die_101 : decode cX6_die 101 = .ok (.aload_n 0, 1) := by decide +kernel
theorem dX6_die_102 : decode cX6_die 102 = .ok (.getfield 7, 3) := by decide +kernel
theorem dX6_die_105 : decode cX6_die 105 = .ok (.sipush 1229, 3) := by decide +kernel
theorem dX6_die_108 : decode cX6_die 108 = .ok (.dup2, 1) := by decide +kernel
theorem dX6_die_109 : decode cX6_die 109 = .ok (.iaload, 1) := by decide +kernel
theorem dX6_die_110 : decode cX6_die 110 = .ok (.iconst 1, 1) := by decide +kernel
theorem dX6_die_111 : decode cX6_die 111 = .ok (.iadd, 1) := by decide +kernel
theorem dX6_die_112 : decode cX6_die 112 = .ok (.iastore, 1) := by decide +kernel
theorem dX6_die_113 : decode cX6_die 113 = .ok (.return_, 1) := by decide +kernel
def fn_X6_die (L : cp_Lay) (q : Nat) (k0 : Nat) (x1 : Int32) (D : cp_Dt) : Option (cp_Dt) :=
  (fn_X6_at L q x1 D).bind fun y1 =>
  (cp_gR L k0 6 3).bind fun r2 =>
  (cp_aI L y1.2 0 r2 (y1.1 + (2 : Int32))).bind fun v3 =>
  if v3 ≤ 0 then ((cp_gR L k0 6 3).bind fun r5 =>
  (cp_aI L y1.2 0 r5 y1.1).bind fun v6 =>
  (cp_gR L k0 6 3).bind fun r7 =>
  (cp_aI L y1.2 0 r7 v6).bind fun v8 =>
  (cp_gR L k0 6 3).bind fun r9 =>
  (cp_aI L y1.2 0 r9 (y1.1 + (2 : Int32))).bind fun v10 =>
  (fn_X6_least L q ((250 : Int32) - v8) v10 y1.2).bind fun y11 =>
  (cp_gR L k0 6 3).bind fun r12 =>
  (cp_aI L y11.2 0 r12 v6).bind fun v13 =>
  (cp_aS L y11.2 0 r12 v6 (v13 + y11.1)).bind fun D14 =>
  (cp_gR L k0 6 3).bind fun r15 =>
  (cp_aI L D14 0 r15 (1224 : Int32)).bind fun v16 =>
  (cp_gR L k0 6 3).bind fun r17 =>
  (cp_aI L D14 0 r17 (y1.1 + (2 : Int32))).bind fun v18 =>
  (cp_aS L D14 0 r15 (1224 : Int32) (v16 + (v18 - y11.1))).bind fun D19 =>
  (cp_gR L k0 6 3).bind fun r20 =>
  (cp_aS L D19 0 r20 y1.1 (-1 : Int32)).bind fun D21 =>
  (cp_gR L k0 6 3).bind fun r22 =>
  (cp_aI L D21 0 r22 (1229 : Int32)).bind fun v23 =>
  (cp_aS L D21 0 r22 (1229 : Int32) (v23 + (1 : Int32))).bind fun D24 =>
  some D24)
  else ((cp_gR L k0 6 3).bind fun r25 =>
  (cp_aI L y1.2 0 r25 (y1.1 + (3 : Int32))).bind fun v26 =>
  if (200 : Int32) ≤ v26 then ((cp_gR L k0 6 3).bind fun r28 =>
  (cp_aI L y1.2 0 r28 y1.1).bind fun v29 =>
  (cp_gR L k0 6 3).bind fun r30 =>
  (cp_aI L y1.2 0 r30 v29).bind fun v31 =>
  (cp_gR L k0 6 3).bind fun r32 =>
  (cp_aI L y1.2 0 r32 (y1.1 + (2 : Int32))).bind fun v33 =>
  (fn_X6_least L q ((250 : Int32) - v31) v33 y1.2).bind fun y34 =>
  (cp_gR L k0 6 3).bind fun r35 =>
  (cp_aI L y34.2 0 r35 v29).bind fun v36 =>
  (cp_aS L y34.2 0 r35 v29 (v36 + y34.1)).bind fun D37 =>
  (cp_gR L k0 6 3).bind fun r38 =>
  (cp_aI L D37 0 r38 (1224 : Int32)).bind fun v39 =>
  (cp_gR L k0 6 3).bind fun r40 =>
  (cp_aI L D37 0 r40 (y1.1 + (2 : Int32))).bind fun v41 =>
  (cp_aS L D37 0 r38 (1224 : Int32) (v39 + (v41 - y34.1))).bind fun D42 =>
  (cp_gR L k0 6 3).bind fun r43 =>
  (cp_aS L D42 0 r43 y1.1 (-1 : Int32)).bind fun D44 =>
  (cp_gR L k0 6 3).bind fun r45 =>
  (cp_aI L D44 0 r45 (1229 : Int32)).bind fun v46 =>
  (cp_aS L D44 0 r45 (1229 : Int32) (v46 + (1 : Int32))).bind fun D47 =>
  some D47)
  else (some y1.2))
set_option maxHeartbeats 4000000 in
set_option maxRecDepth 100000 in
theorem ct_X6_die (l : Launch) (G : va_G) (L : cp_Lay) (hJ : cp_J L) (q : Nat) (k0 : Nat) (x1 : Int32) (D : cp_Dt) (res : cp_Dt) (hF : fn_X6_die L q k0 x1 D = some res) : cp_Met l G yX6_die wsX6_die ({ frames := 1, cells := 0, slots := 0, locals := 21 }) L ([.ref (L.2.1 k0), .int x1] : List Value) D res none := by
  refine Met.ofW (cc := cX6_die) (maxL := 5) (ret := none) (by decide) rfl ?_
  intro p e s m args below meth c s₁ B hml hv
  obtain ⟨rfl, hP, hK, hN, hZ⟩ := hv
  have hx := B.exec
  have hb := B.bytes
  have hr := B.returns
  have hts := atoms_spec (ws := wsX6_die) B.pre
  have hown : s.vm.findClass "CreaturePondModel" = some m.cls := findClass_of_methodNamed B.named
  have hlocks := B.notSynchronized
  have hS : va_S (cp_A L) s.heap s.heap [] := va_S.rf
  have htT : ∀ w ∈ cp_T, w.before ([.ref (L.2.1 k0), .int x1] : List Value).toArray s = true := fun w h => hts w (List.mem_cons_of_mem _ h)
  have hl := lv_entry (([.ref (L.2.1 k0), .int x1] : List Value)) (n := 5) (Nat.le_of_ble_eq_true rfl)
  rw [lg_entry_eq]
  generalize (lg_sl (([.ref (L.2.1 k0), .int x1] : List Value)) ++ List.replicate (5 - (lg_sl (([.ref (L.2.1 k0), .int x1] : List Value))).length) Slot.unset).toArray = ls at hl ⊢
  have hl : lv_has ls 5 [(0, .ref (L.2.1 k0)), (1, .int x1)] := hl
  unfold fn_X6_die at hF
  refine lv_iload_n hx hb dX6_die_0 rfl (lv_at hl 1 rfl) ?_
  obtain ⟨y1, ey1, hF⟩ := cp_bind hF
  refine cp_call (st1 := [.int y1.1]) (va_runS (As := [.int x1]) (rest := []) ⟨hx, hb, hml, hown, htT⟩ (ct_X6_at l G L hJ q x1 D y1 ey1) ⟨callB_of 1 htT gdX6_at rfl rfl rfl (htT _ tw_8) (htT _ tw_417) hdX6_at ⟨Nat.le_of_ble_eq_true rfl, Nat.le_of_ble_eq_true rfl⟩, (htT _ tw_418)⟩ ⟨cp_blind, cp_pre hP hK hN hZ hS⟩ rfl rfl hl.1 rfl (lv_room (Nat.le_of_ble_eq_true rfl)) dX6_die_1 ⟨Nat.zero_le _, Nat.zero_le _⟩) hS (fun H locs hP hS => ?_)
  refine lv_istore_n (lv' := [(2, .int y1.1), (0, .ref (L.2.1 k0)), (1, .int x1)]) hx hb dX6_die_4 rfl hl (by decide) rfl (fun ls hl => ?_)
  refine lv_aload_n hx hb dX6_die_5 rfl (lv_at hl 1 rfl) ?_
  obtain ⟨r2, er2, hF⟩ := cp_bind hF
  refine cp_getR (T := TX6) (N := 6) (ci := 6) (j := 3) hx hb htT hinX6 hown hK hP rfl (by decide) rfl (htT _ tw_378) er2 dX6_die_6 ?_
  refine lv_iload_n hx hb dX6_die_9 rfl (lv_at hl 0 rfl) ?_
  refine lv_iconst (v := (2 : Int32)) hx hb dX6_die_10 (by decide) ?_
  refine lv_iadd hx hb dX6_die_11 ?_
  obtain ⟨v3, ev3, hF⟩ := cp_bind hF
  refine cp_iald hx hb hK hP ev3 dX6_die_12 ?_
  refine lv_if_le (tgt := 31) hx hb dX6_die_13 (by decide) (fun hc4 => ?_) (fun hc4 => ?_)
  · rw [if_pos hc4] at hF
    refine lv_aload_n hx hb dX6_die_31 rfl (lv_at hl 1 rfl) ?_
    obtain ⟨r5, er5, hF⟩ := cp_bind hF
    refine cp_getR (T := TX6) (N := 6) (ci := 6) (j := 3) hx hb htT hinX6 hown hK hP rfl (by decide) rfl (htT _ tw_378) er5 dX6_die_32 ?_
    refine lv_iload_n hx hb dX6_die_35 rfl (lv_at hl 0 rfl) ?_
    obtain ⟨v6, ev6, hF⟩ := cp_bind hF
    refine cp_iald hx hb hK hP ev6 dX6_die_36 ?_
    refine lv_istore_n (lv' := [(3, .int v6), (2, .int y1.1), (0, .ref (L.2.1 k0)), (1, .int x1)]) hx hb dX6_die_37 rfl hl (by decide) rfl (fun ls hl => ?_)
    refine lv_sipush (v := (250 : Int32)) hx hb dX6_die_38 (by decide) ?_
    refine lv_aload_n hx hb dX6_die_41 rfl (lv_at hl 2 rfl) ?_
    obtain ⟨r7, er7, hF⟩ := cp_bind hF
    refine cp_getR (T := TX6) (N := 6) (ci := 6) (j := 3) hx hb htT hinX6 hown hK hP rfl (by decide) rfl (htT _ tw_378) er7 dX6_die_42 ?_
    refine lv_iload_n hx hb dX6_die_45 rfl (lv_at hl 0 rfl) ?_
    obtain ⟨v8, ev8, hF⟩ := cp_bind hF
    refine cp_iald hx hb hK hP ev8 dX6_die_46 ?_
    refine lv_isub hx hb dX6_die_47 ?_
    refine lv_aload_n hx hb dX6_die_48 rfl (lv_at hl 2 rfl) ?_
    obtain ⟨r9, er9, hF⟩ := cp_bind hF
    refine cp_getR (T := TX6) (N := 6) (ci := 6) (j := 3) hx hb htT hinX6 hown hK hP rfl (by decide) rfl (htT _ tw_378) er9 dX6_die_49 ?_
    refine lv_iload_n hx hb dX6_die_52 rfl (lv_at hl 1 rfl) ?_
    refine lv_iconst (v := (2 : Int32)) hx hb dX6_die_53 (by decide) ?_
    refine lv_iadd hx hb dX6_die_54 ?_
    obtain ⟨v10, ev10, hF⟩ := cp_bind hF
    refine cp_iald hx hb hK hP ev10 dX6_die_55 ?_
    obtain ⟨y11, ey11, hF⟩ := cp_bind hF
    refine cp_call (st1 := [.int y11.1]) (va_runS (As := [.int ((250 : Int32) - v8), .int v10]) (rest := []) ⟨hx, hb, hml, hown, htT⟩ (ct_X6_least l G L hJ q ((250 : Int32) - v8) v10 y1.2 y11 ey11) ⟨callB_of 2 htT gdX6_least rfl rfl rfl (htT _ tw_8) (htT _ tw_449) hdX6_least ⟨Nat.le_of_ble_eq_true rfl, Nat.le_of_ble_eq_true rfl⟩, (htT _ tw_450)⟩ ⟨cp_blind, cp_pre hP hK hN hZ hS⟩ rfl rfl hl.1 rfl (lv_room (Nat.le_of_ble_eq_true rfl)) dX6_die_56 ⟨Nat.zero_le _, Nat.zero_le _⟩) hS (fun H locs hP hS => ?_)
    refine lv_istore (lv' := [(4, .int y11.1), (3, .int v6), (2, .int y1.1), (0, .ref (L.2.1 k0)), (1, .int x1)]) hx hb dX6_die_59 hl (by decide) rfl (fun ls hl => ?_)
    refine lv_aload_n hx hb dX6_die_61 rfl (lv_at hl 3 rfl) ?_
    obtain ⟨r12, er12, hF⟩ := cp_bind hF
    refine cp_getR (T := TX6) (N := 6) (ci := 6) (j := 3) hx hb htT hinX6 hown hK hP rfl (by decide) rfl (htT _ tw_378) er12 dX6_die_62 ?_
    refine lv_iload_n hx hb dX6_die_65 rfl (lv_at hl 1 rfl) ?_
    refine lv_dup2_11 hx hb dX6_die_66 rfl rfl ?_
    obtain ⟨v13, ev13, hF⟩ := cp_bind hF
    refine cp_iald hx hb hK hP ev13 dX6_die_67 ?_
    refine lv_iload hx hb dX6_die_68 (lv_at hl 0 rfl) ?_
    refine lv_iadd hx hb dX6_die_70 ?_
    obtain ⟨D14, eD14, hF⟩ := cp_bind hF
    refine cp_iast hx hb hK hJ hP hS eD14 dX6_die_71 (fun H locs hP hS => ?_)
    refine lv_aload_n hx hb dX6_die_72 rfl (lv_at hl 3 rfl) ?_
    obtain ⟨r15, er15, hF⟩ := cp_bind hF
    refine cp_getR (T := TX6) (N := 6) (ci := 6) (j := 3) hx hb htT hinX6 hown hK hP rfl (by decide) rfl (htT _ tw_378) er15 dX6_die_73 ?_
    refine lv_sipush (v := (1224 : Int32)) hx hb dX6_die_76 (by decide) ?_
    refine lv_dup2_11 hx hb dX6_die_79 rfl rfl ?_
    obtain ⟨v16, ev16, hF⟩ := cp_bind hF
    refine cp_iald hx hb hK hP ev16 dX6_die_80 ?_
    refine lv_aload_n hx hb dX6_die_81 rfl (lv_at hl 3 rfl) ?_
    obtain ⟨r17, er17, hF⟩ := cp_bind hF
    refine cp_getR (T := TX6) (N := 6) (ci := 6) (j := 3) hx hb htT hinX6 hown hK hP rfl (by decide) rfl (htT _ tw_378) er17 dX6_die_82 ?_
    refine lv_iload_n hx hb dX6_die_85 rfl (lv_at hl 2 rfl) ?_
    refine lv_iconst (v := (2 : Int32)) hx hb dX6_die_86 (by decide) ?_
    refine lv_iadd hx hb dX6_die_87 ?_
    obtain ⟨v18, ev18, hF⟩ := cp_bind hF
    refine cp_iald hx hb hK hP ev18 dX6_die_88 ?_
    refine lv_iload hx hb dX6_die_89 (lv_at hl 0 rfl) ?_
    refine lv_isub hx hb dX6_die_91 ?_
    refine lv_iadd hx hb dX6_die_92 ?_
    obtain ⟨D19, eD19, hF⟩ := cp_bind hF
    refine cp_iast hx hb hK hJ hP hS eD19 dX6_die_93 (fun H locs hP hS => ?_)
    refine lv_aload_n hx hb dX6_die_94 rfl (lv_at hl 3 rfl) ?_
    obtain ⟨r20, er20, hF⟩ := cp_bind hF
    refine cp_getR (T := TX6) (N := 6) (ci := 6) (j := 3) hx hb htT hinX6 hown hK hP rfl (by decide) rfl (htT _ tw_378) er20 dX6_die_95 ?_
    refine lv_iload_n hx hb dX6_die_98 rfl (lv_at hl 2 rfl) ?_
    refine lv_iconst (v := (-1 : Int32)) hx hb dX6_die_99 (by decide) ?_
    obtain ⟨D21, eD21, hF⟩ := cp_bind hF
    refine cp_iast hx hb hK hJ hP hS eD21 dX6_die_100 (fun H locs hP hS => ?_)
    refine lv_aload_n hx hb dX6_die_101 rfl (lv_at hl 3 rfl) ?_
    obtain ⟨r22, er22, hF⟩ := cp_bind hF
    refine cp_getR (T := TX6) (N := 6) (ci := 6) (j := 3) hx hb htT hinX6 hown hK hP rfl (by decide) rfl (htT _ tw_378) er22 dX6_die_102 ?_
    refine lv_sipush (v := (1229 : Int32)) hx hb dX6_die_105 (by decide) ?_
    refine lv_dup2_11 hx hb dX6_die_108 rfl rfl ?_
    obtain ⟨v23, ev23, hF⟩ := cp_bind hF
    refine cp_iald hx hb hK hP ev23 dX6_die_109 ?_
    refine lv_iconst (v := (1 : Int32)) hx hb dX6_die_110 (by decide) ?_
    refine lv_iadd hx hb dX6_die_111 ?_
    obtain ⟨D24, eD24, hF⟩ := cp_bind hF
    refine cp_iast hx hb hK hJ hP hS eD24 dX6_die_112 (fun H locs hP hS => ?_)
    exact cp_vret hx hb hr hlocks hF hP hS dX6_die_113
  · rw [if_neg hc4] at hF
    refine lv_aload_n hx hb dX6_die_16 rfl (lv_at hl 1 rfl) ?_
    obtain ⟨r25, er25, hF⟩ := cp_bind hF
    refine cp_getR (T := TX6) (N := 6) (ci := 6) (j := 3) hx hb htT hinX6 hown hK hP rfl (by decide) rfl (htT _ tw_378) er25 dX6_die_17 ?_
    refine lv_iload_n hx hb dX6_die_20 rfl (lv_at hl 0 rfl) ?_
    refine lv_iconst (v := (3 : Int32)) hx hb dX6_die_21 (by decide) ?_
    refine lv_iadd hx hb dX6_die_22 ?_
    obtain ⟨v26, ev26, hF⟩ := cp_bind hF
    refine cp_iald hx hb hK hP ev26 dX6_die_23 ?_
    refine lv_sipush (v := (200 : Int32)) hx hb dX6_die_24 (by decide) ?_
    refine lv_icmp_ge (tgt := 31) hx hb dX6_die_27 (by decide) (fun hc27 => ?_) (fun hc27 => ?_)
    · rw [if_pos hc27] at hF
      refine lv_aload_n hx hb dX6_die_31 rfl (lv_at hl 1 rfl) ?_
      obtain ⟨r28, er28, hF⟩ := cp_bind hF
      refine cp_getR (T := TX6) (N := 6) (ci := 6) (j := 3) hx hb htT hinX6 hown hK hP rfl (by decide) rfl (htT _ tw_378) er28 dX6_die_32 ?_
      refine lv_iload_n hx hb dX6_die_35 rfl (lv_at hl 0 rfl) ?_
      obtain ⟨v29, ev29, hF⟩ := cp_bind hF
      refine cp_iald hx hb hK hP ev29 dX6_die_36 ?_
      refine lv_istore_n (lv' := [(3, .int v29), (2, .int y1.1), (0, .ref (L.2.1 k0)), (1, .int x1)]) hx hb dX6_die_37 rfl hl (by decide) rfl (fun ls hl => ?_)
      refine lv_sipush (v := (250 : Int32)) hx hb dX6_die_38 (by decide) ?_
      refine lv_aload_n hx hb dX6_die_41 rfl (lv_at hl 2 rfl) ?_
      obtain ⟨r30, er30, hF⟩ := cp_bind hF
      refine cp_getR (T := TX6) (N := 6) (ci := 6) (j := 3) hx hb htT hinX6 hown hK hP rfl (by decide) rfl (htT _ tw_378) er30 dX6_die_42 ?_
      refine lv_iload_n hx hb dX6_die_45 rfl (lv_at hl 0 rfl) ?_
      obtain ⟨v31, ev31, hF⟩ := cp_bind hF
      refine cp_iald hx hb hK hP ev31 dX6_die_46 ?_
      refine lv_isub hx hb dX6_die_47 ?_
      refine lv_aload_n hx hb dX6_die_48 rfl (lv_at hl 2 rfl) ?_
      obtain ⟨r32, er32, hF⟩ := cp_bind hF
      refine cp_getR (T := TX6) (N := 6) (ci := 6) (j := 3) hx hb htT hinX6 hown hK hP rfl (by decide) rfl (htT _ tw_378) er32 dX6_die_49 ?_
      refine lv_iload_n hx hb dX6_die_52 rfl (lv_at hl 1 rfl) ?_
      refine lv_iconst (v := (2 : Int32)) hx hb dX6_die_53 (by decide) ?_
      refine lv_iadd hx hb dX6_die_54 ?_
      obtain ⟨v33, ev33, hF⟩ := cp_bind hF
      refine cp_iald hx hb hK hP ev33 dX6_die_55 ?_
      obtain ⟨y34, ey34, hF⟩ := cp_bind hF
      refine cp_call (st1 := [.int y34.1]) (va_runS (As := [.int ((250 : Int32) - v31), .int v33]) (rest := []) ⟨hx, hb, hml, hown, htT⟩ (ct_X6_least l G L hJ q ((250 : Int32) - v31) v33 y1.2 y34 ey34) ⟨callB_of 2 htT gdX6_least rfl rfl rfl (htT _ tw_8) (htT _ tw_449) hdX6_least ⟨Nat.le_of_ble_eq_true rfl, Nat.le_of_ble_eq_true rfl⟩, (htT _ tw_450)⟩ ⟨cp_blind, cp_pre hP hK hN hZ hS⟩ rfl rfl hl.1 rfl (lv_room (Nat.le_of_ble_eq_true rfl)) dX6_die_56 ⟨Nat.zero_le _, Nat.zero_le _⟩) hS (fun H locs hP hS => ?_)
      refine lv_istore (lv' := [(4, .int y34.1), (3, .int v29), (2, .int y1.1), (0, .ref (L.2.1 k0)), (1, .int x1)]) hx hb dX6_die_59 hl (by decide) rfl (fun ls hl => ?_)
      refine lv_aload_n hx hb dX6_die_61 rfl (lv_at hl 3 rfl) ?_
      obtain ⟨r35, er35, hF⟩ := cp_bind hF
      refine cp_getR (T := TX6) (N := 6) (ci := 6) (j := 3) hx hb htT hinX6 hown hK hP rfl (by decide) rfl (htT _ tw_378) er35 dX6_die_62 ?_
      refine lv_iload_n hx hb dX6_die_65 rfl (lv_at hl 1 rfl) ?_
      refine lv_dup2_11 hx hb dX6_die_66 rfl rfl ?_
      obtain ⟨v36, ev36, hF⟩ := cp_bind hF
      refine cp_iald hx hb hK hP ev36 dX6_die_67 ?_
      refine lv_iload hx hb dX6_die_68 (lv_at hl 0 rfl) ?_
      refine lv_iadd hx hb dX6_die_70 ?_
      obtain ⟨D37, eD37, hF⟩ := cp_bind hF
      refine cp_iast hx hb hK hJ hP hS eD37 dX6_die_71 (fun H locs hP hS => ?_)
      refine lv_aload_n hx hb dX6_die_72 rfl (lv_at hl 3 rfl) ?_
      obtain ⟨r38, er38, hF⟩ := cp_bind hF
      refine cp_getR (T := TX6) (N := 6) (ci := 6) (j := 3) hx hb htT hinX6 hown hK hP rfl (by decide) rfl (htT _ tw_378) er38 dX6_die_73 ?_
      refine lv_sipush (v := (1224 : Int32)) hx hb dX6_die_76 (by decide) ?_
      refine lv_dup2_11 hx hb dX6_die_79 rfl rfl ?_
      obtain ⟨v39, ev39, hF⟩ := cp_bind hF
      refine cp_iald hx hb hK hP ev39 dX6_die_80 ?_
      refine lv_aload_n hx hb dX6_die_81 rfl (lv_at hl 3 rfl) ?_
      obtain ⟨r40, er40, hF⟩ := cp_bind hF
      refine cp_getR (T := TX6) (N := 6) (ci := 6) (j := 3) hx hb htT hinX6 hown hK hP rfl (by decide) rfl (htT _ tw_378) er40 dX6_die_82 ?_
      refine lv_iload_n hx hb dX6_die_85 rfl (lv_at hl 2 rfl) ?_
      refine lv_iconst (v := (2 : Int32)) hx hb dX6_die_86 (by decide) ?_
      refine lv_iadd hx hb dX6_die_87 ?_
      obtain ⟨v41, ev41, hF⟩ := cp_bind hF
      refine cp_iald hx hb hK hP ev41 dX6_die_88 ?_
      refine lv_iload hx hb dX6_die_89 (lv_at hl 0 rfl) ?_
      refine lv_isub hx hb dX6_die_91 ?_
      refine lv_iadd hx hb dX6_die_92 ?_
      obtain ⟨D42, eD42, hF⟩ := cp_bind hF
      refine cp_iast hx hb hK hJ hP hS eD42 dX6_die_93 (fun H locs hP hS => ?_)
      refine lv_aload_n hx hb dX6_die_94 rfl (lv_at hl 3 rfl) ?_
      obtain ⟨r43, er43, hF⟩ := cp_bind hF
      refine cp_getR (T := TX6) (N := 6) (ci := 6) (j := 3) hx hb htT hinX6 hown hK hP rfl (by decide) rfl (htT _ tw_378) er43 dX6_die_95 ?_
      refine lv_iload_n hx hb dX6_die_98 rfl (lv_at hl 2 rfl) ?_
      refine lv_iconst (v := (-1 : Int32)) hx hb dX6_die_99 (by decide) ?_
      obtain ⟨D44, eD44, hF⟩ := cp_bind hF
      refine cp_iast hx hb hK hJ hP hS eD44 dX6_die_100 (fun H locs hP hS => ?_)
      refine lv_aload_n hx hb dX6_die_101 rfl (lv_at hl 3 rfl) ?_
      obtain ⟨r45, er45, hF⟩ := cp_bind hF
      refine cp_getR (T := TX6) (N := 6) (ci := 6) (j := 3) hx hb htT hinX6 hown hK hP rfl (by decide) rfl (htT _ tw_378) er45 dX6_die_102 ?_
      refine lv_sipush (v := (1229 : Int32)) hx hb dX6_die_105 (by decide) ?_
      refine lv_dup2_11 hx hb dX6_die_108 rfl rfl ?_
      obtain ⟨v46, ev46, hF⟩ := cp_bind hF
      refine cp_iald hx hb hK hP ev46 dX6_die_109 ?_
      refine lv_iconst (v := (1 : Int32)) hx hb dX6_die_110 (by decide) ?_
      refine lv_iadd hx hb dX6_die_111 ?_
      obtain ⟨D47, eD47, hF⟩ := cp_bind hF
      refine cp_iast hx hb hK hJ hP hS eD47 dX6_die_112 (fun H locs hP hS => ?_)
      exact cp_vret hx hb hr hlocks hF hP hS dX6_die_113
    · rw [if_neg hc27] at hF
      exact cp_vret hx hb hr hlocks hF hP hS dX6_die_30
theorem dX6_animals_0 : decode cX6_animals 0 = .ok (.iconst 0, 1) := by decide +kernel
theorem dX6_animals_1 : decode cX6_animals 1 = .ok (.istore_n 1, 1) := by decide +kernel
theorem dX6_animals_2 : decode cX6_animals 2 = .ok (.iconst 0, 1) := by decide +kernel
theorem dX6_animals_3 : decode cX6_animals 3 = .ok (.istore_n 2, 1) := by decide +kernel
theorem dX6_animals_4 : decode cX6_animals 4 = .ok (.iload_n 2, 1) := by decide +kernel
theorem dX6_animals_5 : decode cX6_animals 5 = .ok (.bipush 16, 2) := by decide +kernel
theorem dX6_animals_7 : decode cX6_animals 7 = .ok (.if_icmp .ge 25, 3) := by decide +kernel
theorem dX6_animals_10 : decode cX6_animals 10 = .ok (.iload_n 1, 1) := by decide +kernel
theorem dX6_animals_11 : decode cX6_animals 11 = .ok (.aload_n 0, 1) := by decide +kernel
theorem dX6_animals_12 : decode cX6_animals 12 = .ok (.iload_n 2, 1) := by decide +kernel
theorem dX6_animals_13 : decode cX6_animals 13 = .ok (.invokevirtual 34, 3) := by decide +kernel
theorem dX6_animals_16 : decode cX6_animals 16 = .ok (.ifCond .eq 7, 3) := by decide +kernel
theorem dX6_animals_19 : decode cX6_animals 19 = .ok (.iconst 1, 1) := by decide +kernel
theorem dX6_animals_20 : decode cX6_animals 20 = .ok (.goto 4, 3) := by decide +kernel
theorem dX6_animals_23 : decode cX6_animals 23 = .ok (.iconst 0, 1) := by decide +kernel
theorem dX6_animals_24 : decode cX6_animals 24 = .ok (.iadd, 1) := by decide +kernel
theorem dX6_animals_25 : decode cX6_animals 25 = .ok (.istore_n 1, 1) := by decide +kernel
theorem dX6_animals_26 : decode cX6_animals 26 = .ok (.iinc 2 1, 3) := by decide +kernel
theorem dX6_animals_29 : decode cX6_animals 29 = .ok (.goto (-25), 3) := by decide +kernel
theorem dX6_animals_32 : decode cX6_animals 32 = .ok (.iload_n 1, 1) := by decide +kernel
theorem dX6_animals_33 : decode cX6_animals 33 = .ok (.ireturn, 1) := by decide +kernel
def fn_X6_animals_L4 (L : cp_Lay) (q : Nat) : Nat → Nat → Int32 → Int32 → cp_Dt → Option (Int32 × cp_Dt)
  | 0, _, _, _, _ => none
  | n + 1, a0, i1, i2, D =>
    if (16 : Int32) ≤ i2 then (some (i1, D))
    else ((cp_fl L a0 6).bind fun f2 =>
    (fn_X6_lives L q a0 i2 D).bind fun y3 =>
    if y3.1 = 0 then (fn_X6_animals_L4 L q n a0 (i1 + (0 : Int32)) (i2 + 1) y3.2)
    else (fn_X6_animals_L4 L q n a0 (i1 + (1 : Int32)) (i2 + 1) y3.2))
def fn_X6_animals (L : cp_Lay) (q : Nat) (k0 : Nat) (D : cp_Dt) : Option (Int32 × cp_Dt) :=
  fn_X6_animals_L4 L q q k0 (0 : Int32) (0 : Int32) D
set_option maxHeartbeats 4000000 in
set_option maxRecDepth 100000 in
theorem ct_X6_animals (l : Launch) (G : va_G) (L : cp_Lay) (hJ : cp_J L) (q : Nat) (k0 : Nat) (D : cp_Dt) (res : Int32 × cp_Dt) (hF : fn_X6_animals L q k0 D = some res) : cp_Met l G yX6_animals wsX6_animals ({ frames := 2, cells := 0, slots := 0, locals := 41 }) L ([.ref (L.2.1 k0)] : List Value) D res.2 (some (.int res.1)) := by
  refine Met.ofW (cc := cX6_animals) (maxL := 3) (ret := (some .int)) (by decide) rfl ?_
  intro p e s m args below meth c s₁ B hml hv
  obtain ⟨rfl, hP, hK, hN, hZ⟩ := hv
  have hx := B.exec
  have hb := B.bytes
  have hr := B.returns
  have hts := atoms_spec (ws := wsX6_animals) B.pre
  have hown : s.vm.findClass "CreaturePondModel" = some m.cls := findClass_of_methodNamed B.named
  have hlocks := B.notSynchronized
  have hS : va_S (cp_A L) s.heap s.heap [] := va_S.rf
  have htT : ∀ w ∈ cp_T, w.before ([.ref (L.2.1 k0)] : List Value).toArray s = true := fun w h => hts w (List.mem_cons_of_mem _ h)
  have hl := lv_entry (([.ref (L.2.1 k0)] : List Value)) (n := 3) (Nat.le_of_ble_eq_true rfl)
  rw [lg_entry_eq]
  generalize (lg_sl (([.ref (L.2.1 k0)] : List Value)) ++ List.replicate (3 - (lg_sl (([.ref (L.2.1 k0)] : List Value))).length) Slot.unset).toArray = ls at hl ⊢
  have hl : lv_has ls 3 [(0, .ref (L.2.1 k0))] := hl
  have hL4 : ∀ (n : Nat) (a0 : Nat) (i1 : Int32) (i2 : Int32) (D : cp_Dt) (H : Heap) (locs : List Loc) (ls : Array Slot), fn_X6_animals_L4 L q n a0 i1 i2 D = some res → va_P G vwCl (cp_ws L D) H → va_S (cp_A L) s.heap H locs → lv_has ls 3 [(0, .ref (L.2.1 a0)), (1, .int i1), (2, .int i2)] → W p l e (headSpec wsX6_animals ({ frames := 2, cells := 0, slots := 0, locals := 41 })).room s m ([.ref (L.2.1 k0)] : List Value).toArray below meth c H locs 0 0 (MQ below (cp_Q G L res.2 (some (.int res.1))) ([.ref (L.2.1 k0)] : List Value).toArray s 0 0 (cp_A L)) (F0 m 4 ls []) := by
    intro n
    induction n with
    | zero =>
      intro a0 i1 i2 D H locs ls hF
      cases hF
    | succ n ih =>
      intro a0 i1 i2 D H locs ls hF hP hS hl
      unfold fn_X6_animals_L4 at hF
      refine lv_iload_n hx hb dX6_animals_4 rfl (lv_at hl 2 rfl) ?_
      refine lv_bipush (v := (16 : Int32)) hx hb dX6_animals_5 (by decide) ?_
      refine lv_icmp_ge (tgt := 32) hx hb dX6_animals_7 (by decide) (fun hc1 => ?_) (fun hc1 => ?_)
      · rw [if_pos hc1] at hF
        refine lv_iload_n hx hb dX6_animals_32 rfl (lv_at hl 1 rfl) ?_
        exact cp_iret hx hb hr hlocks hF hP hS dX6_animals_33
      · rw [if_neg hc1] at hF
        refine lv_iload_n hx hb dX6_animals_10 rfl (lv_at hl 1 rfl) ?_
        refine lv_aload_n hx hb dX6_animals_11 rfl (lv_at hl 0 rfl) ?_
        refine lv_iload_n hx hb dX6_animals_12 rfl (lv_at hl 2 rfl) ?_
        obtain ⟨f2, ef2, hF⟩ := cp_bind hF
        obtain ⟨y3, ey3, hF⟩ := cp_bind hF
        refine cp_call (st1 := [.int y3.1, .int i1]) (va_runV (As := [.int i2]) (rest := [.int i1]) ⟨hx, hb, hml, hown, htT⟩ (ct_X6_lives l G L hJ q a0 i2 D y3 ey3) ⟨callB_of 1 htT gdX6_lives rfl rfl rfl (htT _ tw_8) (htT _ tw_423) hdX6_lives ⟨Nat.le_of_ble_eq_true rfl, Nat.le_of_ble_eq_true rfl⟩, (htT _ tw_424), (htT _ tw_576)⟩ ⟨cp_blind, cp_recv hK hP rfl ef2, cp_pre hP hK hN hZ hS⟩ rfl rfl hl.1 rfl (lv_room (Nat.le_of_ble_eq_true rfl)) dX6_animals_13 ⟨Nat.zero_le _, Nat.zero_le _⟩) hS (fun H locs hP hS => ?_)
        refine lv_if_eq (tgt := 23) hx hb dX6_animals_16 (by decide) (fun hc4 => ?_) (fun hc4 => ?_)
        · rw [if_pos hc4] at hF
          refine lv_iconst (v := (0 : Int32)) hx hb dX6_animals_23 (by decide) ?_
          refine lv_iadd hx hb dX6_animals_24 ?_
          refine lv_istore_n (lv' := [(1, .int (i1 + (0 : Int32))), (0, .ref (L.2.1 a0)), (2, .int i2)]) hx hb dX6_animals_25 rfl hl (by decide) rfl (fun ls hl => ?_)
          refine lv_iinc (k := 2) (v := (i2 + 1)) (lv' := [(2, .int (i2 + 1)), (1, .int (i1 + (0 : Int32))), (0, .ref (L.2.1 a0))]) hx hb dX6_animals_26 hl rfl (congrArg (fun z => i2 + z) (by decide)) (by decide) rfl (fun ls hl => ?_)
          refine lv_goto (tgt := 4) hx hb dX6_animals_29 (by decide) ?_
          exact ih a0 (i1 + (0 : Int32)) (i2 + 1) y3.2 _ _ _ hF hP hS (lv_sub hl [2, 1, 0] rfl)
        · rw [if_neg hc4] at hF
          refine lv_iconst (v := (1 : Int32)) hx hb dX6_animals_19 (by decide) ?_
          refine lv_goto (tgt := 24) hx hb dX6_animals_20 (by decide) ?_
          refine lv_iadd hx hb dX6_animals_24 ?_
          refine lv_istore_n (lv' := [(1, .int (i1 + (1 : Int32))), (0, .ref (L.2.1 a0)), (2, .int i2)]) hx hb dX6_animals_25 rfl hl (by decide) rfl (fun ls hl => ?_)
          refine lv_iinc (k := 2) (v := (i2 + 1)) (lv' := [(2, .int (i2 + 1)), (1, .int (i1 + (1 : Int32))), (0, .ref (L.2.1 a0))]) hx hb dX6_animals_26 hl rfl (congrArg (fun z => i2 + z) (by decide)) (by decide) rfl (fun ls hl => ?_)
          refine lv_goto (tgt := 4) hx hb dX6_animals_29 (by decide) ?_
          exact ih a0 (i1 + (1 : Int32)) (i2 + 1) y3.2 _ _ _ hF hP hS (lv_sub hl [2, 1, 0] rfl)
  unfold fn_X6_animals at hF
  refine lv_iconst (v := (0 : Int32)) hx hb dX6_animals_0 (by decide) ?_
  refine lv_istore_n (lv' := [(1, .int (0 : Int32)), (0, .ref (L.2.1 k0))]) hx hb dX6_animals_1 rfl hl (by decide) rfl (fun ls hl => ?_)
  refine lv_iconst (v := (0 : Int32)) hx hb dX6_animals_2 (by decide) ?_
  refine lv_istore_n (lv' := [(2, .int (0 : Int32)), (1, .int (0 : Int32)), (0, .ref (L.2.1 k0))]) hx hb dX6_animals_3 rfl hl (by decide) rfl (fun ls hl => ?_)
  exact hL4 q k0 (0 : Int32) (0 : Int32) D _ _ _ hF hP hS (lv_sub hl [2, 1, 0] rfl)
