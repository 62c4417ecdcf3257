theorem dX0_inner_0 : decode cX0_inner 0 = .ok (.aload_n 0, 1) := by decide +kernel
theorem dX0_inner_1 : decode cX0_inner 1 = .ok (.getfield 32, 3) := by decide +kernel
theorem dX0_inner_4 : decode cX0_inner 4 = .ok (.iload_n 1, 1) := by decide +kernel
theorem dX0_inner_5 : decode cX0_inner 5 = .ok (.invokevirtual 96, 3) := by decide +kernel
theorem dX0_inner_8 : decode cX0_inner 8 = .ok (.ifCond .ne 13, 3) := by decide +kernel
theorem dX0_inner_11 : decode cX0_inner 11 = .ok (.new 157, 3) := by decide +kernel
theorem dX0_inner_14 : decode cX0_inner 14 = .ok (.dup, 1) := by decide +kernel
theorem dX0_inner_15 : decode cX0_inner 15 = .ok (.ldc 159, 2) := by decide +kernel
theorem dX0_inner_17 : decode cX0_inner 17 = .ok (.invokespecial 161, 3) := by decide +kernel
theorem dX0_inner_20 : decode cX0_inner 20 = .ok (.athrow, 1) := by decide +kernel
theorem dX0_inner_21 : decode cX0_inner 21 = .ok (.aload_n 0, 1) := by decide +kernel
theorem dX0_inner_22 : decode cX0_inner 22 = .ok (.getfield 32, 3) := by decide +kernel
theorem dX0_inner_25 : decode cX0_inner 25 = .ok (.getfield 102, 3) := by decide +kernel
theorem dX0_inner_28 : decode cX0_inner 28 = .ok (.iload_n 1, 1) := by decide +kernel
theorem dX0_inner_29 : decode cX0_inner 29 = .ok (.aaload, 1) := by decide +kernel
theorem dX0_inner_30 : decode cX0_inner 30 = .ok (.astore 4, 2) := by decide +kernel
theorem dX0_inner_32 : decode cX0_inner 32 = .ok (.iload_n 2, 1) := by decide +kernel
theorem dX0_inner_33 : decode cX0_inner 33 = .ok (.ifCond .eq 11, 3) := by decide +kernel
theorem dX0_inner_36 : decode cX0_inner 36 = .ok (.aload 4, 2) := by decide +kernel
theorem dX0_inner_38 : decode cX0_inner 38 = .ok (.getfield 106, 3) := by decide +kernel
theorem dX0_inner_41 : decode cX0_inner 41 = .ok (.goto 5, 3) := by decide +kernel
theorem dX0_inner_44 : decode cX0_inner 44 = .ok (.bipush 16, 2) := by decide +kernel
theorem dX0_inner_46 : decode cX0_inner 46 = .ok (.istore 5, 2) := by decide +kernel
theorem dX0_inner_48 : decode cX0_inner 48 = .ok (.iload_n 3, 1) := by decide +kernel
theorem dX0_inner_49 : decode cX0_inner 49 = .ok (.ifCond .lt 9, 3) := by decide +kernel
theorem dX0_inner_52 : decode cX0_inner 52 = .ok (.iload_n 3, 1) := by decide +kernel
theorem dX0_inner_53 : decode cX0_inner 53 = .ok (.iload 5, 2) := by decide +kernel
theorem dX0_inner_55 : decode cX0_inner 55 = .ok (.if_icmp .lt 13, 3) := by decide +kernel
theorem dX0_inner_58 : decode cX0_inner 58 = .ok (.new 157, 3) := by decide +kernel
theorem dX0_inner_61 : decode cX0_inner 61 = .ok (.dup, 1) := by decide +kernel
theorem dX0_inner_62 : decode cX0_inner 62 = .ok (.ldc 162, 2) := by decide +kernel
theorem dX0_inner_64 : decode cX0_inner 64 = .ok (.invokespecial 161, 3) := by decide +kernel
theorem dX0_inner_67 : decode cX0_inner 67 = .ok (.athrow, 1) := by decide +kernel
theorem dX0_inner_68 : decode cX0_inner 68 = .ok (.iload_n 2, 1) := by decide +kernel
theorem dX0_inner_69 : decode cX0_inner 69 = .ok (.ifCond .eq 13, 3) := by decide +kernel
theorem dX0_inner_72 : decode cX0_inner 72 = .ok (.aload 4, 2) := by decide +kernel
theorem dX0_inner_74 : decode cX0_inner 74 = .ok (.getfield 164, 3) := by decide +kernel
theorem dX0_inner_77 : decode cX0_inner 77 = .ok (.iload_n 3, 1) := by decide +kernel
theorem dX0_inner_78 : decode cX0_inner 78 = .ok (.baload, 1) := by decide +kernel
theorem dX0_inner_79 : decode cX0_inner 79 = .ok (.goto 10, 3) := by decide +kernel
theorem dX0_inner_82 : decode cX0_inner 82 = .ok (.aload 4, 2) := by decide +kernel
theorem dX0_inner_84 : decode cX0_inner 84 = .ok (.getfield 167, 3) := by decide +kernel
theorem dX0_inner_87 : decode cX0_inner 87 = .ok (.iload_n 3, 1) := by decide +kernel
theorem dX0_inner_88 : decode cX0_inner 88 = .ok (.baload, 1) := by decide +kernel
theorem dX0_inner_89 : decode cX0_inner 89 = .ok (.ireturn, 1) := by decide +kernel
def fn_X0_inner (L : cp_Lay) (q : Nat) (k0 : Nat) (x1 : Int32) (x2 : Int32) (x3 : Int32) (D : cp_Dt) : Option (Int32 × cp_Dt) :=
  (cp_gR L k0 0 1).bind fun r1 =>
  (cp_fl L r1 4).bind fun f2 =>
  (fn_X4_has L q r1 x1 D).bind fun y3 =>
  if y3.1 = 0 then (none)
  else ((cp_gR L k0 0 1).bind fun r5 =>
  (cp_gR L r5 4 4).bind fun r6 =>
  (cp_aR L r6 x1).bind fun r7 =>
  if x2 = 0 then (if x3 < 0 then (none)
  else (if x3 < (16 : Int32) then (if x2 = 0 then ((cp_gR L r7 1 1).bind fun r12 =>
  (cp_aI L y3.2 1 r12 x3).bind fun v13 =>
  (cp_gby v13).bind fun u14 => some (v13, y3.2))
  else ((cp_gR L r7 1 2).bind fun r15 =>
  (cp_aI L y3.2 1 r15 x3).bind fun v16 =>
  (cp_gby v16).bind fun u17 => some (v16, y3.2)))
  else (none)))
  else ((cp_gI L y3.2 r7 1 9).bind fun v18 =>
  if x3 < 0 then (none)
  else (if x3 < v18 then (if x2 = 0 then ((cp_gR L r7 1 1).bind fun r22 =>
  (cp_aI L y3.2 1 r22 x3).bind fun v23 =>
  (cp_gby v23).bind fun u24 => some (v23, y3.2))
  else ((cp_gR L r7 1 2).bind fun r25 =>
  (cp_aI L y3.2 1 r25 x3).bind fun v26 =>
  (cp_gby v26).bind fun u27 => some (v26, y3.2)))
  else (none))))
set_option maxHeartbeats 4000000 in
set_option maxRecDepth 100000 in
theorem ct_X0_inner (l : Launch) (G : va_G) (L : cp_Lay) (hJ : cp_J L) (q : Nat) (k0 : Nat) (x1 : Int32) (x2 : Int32) (x3 : Int32) (D : cp_Dt) (res : Int32 × cp_Dt) (hF : fn_X0_inner L q k0 x1 x2 x3 D = some res) : cp_Met l G yX0_inner wsX0_inner ({ frames := 1, cells := 0, slots := 0, locals := 21 }) L ([.ref (L.2.1 k0), .int x1, .int x2, .int x3] : List Value) D res.2 (some (.int res.1)) := by
  refine Met.ofW (cc := cX0_inner) (maxL := 6) (ret := (some .byte)) (by decide) rfl ?_
  intro p e s m args below meth c s₁ B hml hv
  obtain ⟨rfl, hP, hK, hN, hZ⟩ := hv
  have hx := B.exec
  have hb := B.bytes
  have hr := B.returns
  have hts := atoms_spec (ws := wsX0_inner) B.pre
  have hown : s.vm.findClass "CreaturePond" = some m.cls := findClass_of_methodNamed B.named
  have hlocks := B.notSynchronized
  have hS : va_S (cp_A L) s.heap s.heap [] := va_S.rf
  have htT : ∀ w ∈ cp_T, w.before ([.ref (L.2.1 k0), .int x1, .int x2, .int x3] : List Value).toArray s = true := fun w h => hts w (List.mem_cons_of_mem _ h)
  have hl := lv_entry (([.ref (L.2.1 k0), .int x1, .int x2, .int x3] : List Value)) (n := 6) (Nat.le_of_ble_eq_true rfl)
  rw [lg_entry_eq]
  generalize (lg_sl (([.ref (L.2.1 k0), .int x1, .int x2, .int x3] : List Value)) ++ List.replicate (6 - (lg_sl (([.ref (L.2.1 k0), .int x1, .int x2, .int x3] : List Value))).length) Slot.unset).toArray = ls at hl ⊢
  have hl : lv_has ls 6 [(0, .ref (L.2.1 k0)), (1, .int x1), (2, .int x2), (3, .int x3)] := hl
  unfold fn_X0_inner at hF
  refine lv_aload_n hx hb dX0_inner_0 rfl (lv_at hl 0 rfl) ?_
  obtain ⟨r1, er1, hF⟩ := cp_bind hF
  refine cp_getR (T := TX0) (N := 6) (ci := 0) (j := 1) hx hb htT hinX0 hown hK hP rfl (by decide) rfl (htT _ tw_136) er1 dX0_inner_1 ?_
  refine lv_iload_n hx hb dX0_inner_4 rfl (lv_at hl 1 rfl) ?_
  obtain ⟨f2, ef2, hF⟩ := cp_bind hF
  obtain ⟨y3, ey3, hF⟩ := cp_bind hF
  refine cp_call (st1 := [.int y3.1]) (va_runVN (As := [.int x1]) (rest := []) ⟨hx, hb, hml, hown, htT⟩ (ct_X4_has l G L hJ q r1 x1 D y3 ey3) ⟨va_cnB 1 htT gdX4_has rfl rfl rfl (hN _ (List.mem_of_getElem? (i := 57) rfl)) (htT _ tw_4) hdX4_has ⟨Nat.le_of_ble_eq_true rfl, Nat.le_of_ble_eq_true rfl⟩, (htT _ tw_168), (htT _ tw_531)⟩ ⟨cp_blind, cp_recv hK hP rfl ef2, cp_pre hP hK hN hZ hS⟩ rfl rfl hl.1 rfl (lv_room (Nat.le_of_ble_eq_true rfl)) dX0_inner_5 ⟨Nat.zero_le _, Nat.zero_le _⟩) hS (fun H locs hP hS => ?_)
  refine lv_if_ne (tgt := 21) hx hb dX0_inner_8 (by decide) (fun hc4 => ?_) (fun hc4 => ?_)
  · rw [if_neg hc4] at hF
    refine lv_aload_n hx hb dX0_inner_21 rfl (lv_at hl 0 rfl) ?_
    obtain ⟨r5, er5, hF⟩ := cp_bind hF
    refine cp_getR (T := TX0) (N := 6) (ci := 0) (j := 1) hx hb htT hinX0 hown hK hP rfl (by decide) rfl (htT _ tw_136) er5 dX0_inner_22 ?_
    obtain ⟨r6, er6, hF⟩ := cp_bind hF
    refine cp_getRN (T := TX4) (N := 12) (ci := 4) (j := 4) hx hb htT hinX4 hown hK hP rfl (by decide) rfl (hN _ (List.mem_of_getElem? (i := 45) rfl)) er6 dX0_inner_25 ?_
    refine lv_iload_n hx hb dX0_inner_28 rfl (lv_at hl 1 rfl) ?_
    obtain ⟨r7, er7, hF⟩ := cp_bind hF
    refine cp_aald hx hb hK hP er7 dX0_inner_29 ?_
    refine lv_astore (lv' := [(4, .ref (L.2.1 r7)), (0, .ref (L.2.1 k0)), (1, .int x1), (2, .int x2), (3, .int x3)]) hx hb dX0_inner_30 hl (by decide) rfl (fun ls hl => ?_)
    refine lv_iload_n hx hb dX0_inner_32 rfl (lv_at hl 3 rfl) ?_
    refine lv_if_eq (tgt := 44) hx hb dX0_inner_33 (by decide) (fun hc8 => ?_) (fun hc8 => ?_)
    · rw [if_pos hc8] at hF
      refine lv_bipush (v := (16 : Int32)) hx hb dX0_inner_44 (by decide) ?_
      refine lv_istore (lv' := [(5, .int (16 : Int32)), (4, .ref (L.2.1 r7)), (0, .ref (L.2.1 k0)), (1, .int x1), (2, .int x2), (3, .int x3)]) hx hb dX0_inner_46 hl (by decide) rfl (fun ls hl => ?_)
      refine lv_iload_n hx hb dX0_inner_48 rfl (lv_at hl 5 rfl) ?_
      refine lv_if_lt (tgt := 58) hx hb dX0_inner_49 (by decide) (fun hc9 => ?_) (fun hc9 => ?_)
      · rw [if_pos hc9] at hF
        cases hF
      · rw [if_neg hc9] at hF
        refine lv_iload_n hx hb dX0_inner_52 rfl (lv_at hl 5 rfl) ?_
        refine lv_iload hx hb dX0_inner_53 (lv_at hl 0 rfl) ?_
        refine lv_icmp_lt (tgt := 68) hx hb dX0_inner_55 (by decide) (fun hc10 => ?_) (fun hc10 => ?_)
        · rw [if_pos hc10] at hF
          refine lv_iload_n hx hb dX0_inner_68 rfl (lv_at hl 4 rfl) ?_
          refine lv_if_eq (tgt := 82) hx hb dX0_inner_69 (by decide) (fun hc11 => ?_) (fun hc11 => ?_)
          · rw [if_pos hc11] at hF
            refine lv_aload hx hb dX0_inner_82 (lv_at hl 1 rfl) ?_
            obtain ⟨r12, er12, hF⟩ := cp_bind hF
            refine cp_getRN (T := TX1) (N := 14) (ci := 1) (j := 1) hx hb htT hinX1 hown hK hP rfl (by decide) rfl (hN _ (List.mem_of_getElem? (i := 8) rfl)) er12 dX0_inner_84 ?_
            refine lv_iload_n hx hb dX0_inner_87 rfl (lv_at hl 5 rfl) ?_
            obtain ⟨v13, ev13, hF⟩ := cp_bind hF
            refine cp_bald hx hb hK hP ev13 dX0_inner_88 ?_
            obtain ⟨u14, eu14, hF⟩ := cp_bind hF
            exact cp_zret hx hb hr hlocks (cp_gby_n eu14) hF hP hS dX0_inner_89
          · rw [if_neg hc11] at hF
            refine lv_aload hx hb dX0_inner_72 (lv_at hl 1 rfl) ?_
            obtain ⟨r15, er15, hF⟩ := cp_bind hF
            refine cp_getRN (T := TX1) (N := 14) (ci := 1) (j := 2) hx hb htT hinX1 hown hK hP rfl (by decide) rfl (hN _ (List.mem_of_getElem? (i := 10) rfl)) er15 dX0_inner_74 ?_
            refine lv_iload_n hx hb dX0_inner_77 rfl (lv_at hl 5 rfl) ?_
            obtain ⟨v16, ev16, hF⟩ := cp_bind hF
            refine cp_bald hx hb hK hP ev16 dX0_inner_78 ?_
            refine lv_goto (tgt := 89) hx hb dX0_inner_79 (by decide) ?_
            obtain ⟨u17, eu17, hF⟩ := cp_bind hF
            exact cp_zret hx hb hr hlocks (cp_gby_n eu17) hF hP hS dX0_inner_89
        · rw [if_neg hc10] at hF
          cases hF
    · rw [if_neg hc8] at hF
      refine lv_aload hx hb dX0_inner_36 (lv_at hl 0 rfl) ?_
      obtain ⟨v18, ev18, hF⟩ := cp_bind hF
      refine cp_getIN (T := TX1) (N := 14) (ci := 1) (j := 9) hx hb htT hinX1 hown hK hP rfl (by decide) rfl (hN _ (List.mem_of_getElem? (i := 29) rfl)) ev18 dX0_inner_38 ?_
      refine lv_goto (tgt := 46) hx hb dX0_inner_41 (by decide) ?_
      refine lv_istore (lv' := [(5, .int v18), (4, .ref (L.2.1 r7)), (0, .ref (L.2.1 k0)), (1, .int x1), (2, .int x2), (3, .int x3)]) hx hb dX0_inner_46 hl (by decide) rfl (fun ls hl => ?_)
      refine lv_iload_n hx hb dX0_inner_48 rfl (lv_at hl 5 rfl) ?_
      refine lv_if_lt (tgt := 58) hx hb dX0_inner_49 (by decide) (fun hc19 => ?_) (fun hc19 => ?_)
      · rw [if_pos hc19] at hF
        cases hF
      · rw [if_neg hc19] at hF
        refine lv_iload_n hx hb dX0_inner_52 rfl (lv_at hl 5 rfl) ?_
        refine lv_iload hx hb dX0_inner_53 (lv_at hl 0 rfl) ?_
        refine lv_icmp_lt (tgt := 68) hx hb dX0_inner_55 (by decide) (fun hc20 => ?_) (fun hc20 => ?_)
        · rw [if_pos hc20] at hF
          refine lv_iload_n hx hb dX0_inner_68 rfl (lv_at hl 4 rfl) ?_
          refine lv_if_eq (tgt := 82) hx hb dX0_inner_69 (by decide) (fun hc21 => ?_) (fun hc21 => ?_)
          · rw [if_pos hc21] at hF
            refine lv_aload hx hb dX0_inner_82 (lv_at hl 1 rfl) ?_
            obtain ⟨r22, er22, hF⟩ := cp_bind hF
            refine cp_getRN (T := TX1) (N := 14) (ci := 1) (j := 1) hx hb htT hinX1 hown hK hP rfl (by decide) rfl (hN _ (List.mem_of_getElem? (i := 8) rfl)) er22 dX0_inner_84 ?_
            refine lv_iload_n hx hb dX0_inner_87 rfl (lv_at hl 5 rfl) ?_
            obtain ⟨v23, ev23, hF⟩ := cp_bind hF
            refine cp_bald hx hb hK hP ev23 dX0_inner_88 ?_
            obtain ⟨u24, eu24, hF⟩ := cp_bind hF
            exact cp_zret hx hb hr hlocks (cp_gby_n eu24) hF hP hS dX0_inner_89
          · rw [if_neg hc21] at hF
            refine lv_aload hx hb dX0_inner_72 (lv_at hl 1 rfl) ?_
            obtain ⟨r25, er25, hF⟩ := cp_bind hF
            refine cp_getRN (T := TX1) (N := 14) (ci := 1) (j := 2) hx hb htT hinX1 hown hK hP rfl (by decide) rfl (hN _ (List.mem_of_getElem? (i := 10) rfl)) er25 dX0_inner_74 ?_
            refine lv_iload_n hx hb dX0_inner_77 rfl (lv_at hl 5 rfl) ?_
            obtain ⟨v26, ev26, hF⟩ := cp_bind hF
            refine cp_bald hx hb hK hP ev26 dX0_inner_78 ?_
            refine lv_goto (tgt := 89) hx hb dX0_inner_79 (by decide) ?_
            obtain ⟨u27, eu27, hF⟩ := cp_bind hF
            exact cp_zret hx hb hr hlocks (cp_gby_n eu27) hF hP hS dX0_inner_89
        · rw [if_neg hc20] at hF
          cases hF
  · rw [if_pos hc4] at hF
    cases hF
theorem dX6_thrown_0 : decode cX6_thrown 0 = .ok (.aload_n 0, 1) := by decide +kernel
theorem dX6_thrown_1 : decode cX6_thrown 1 = .ok (.getfield 23, 3) := by decide +kernel
theorem dX6_thrown_4 : decode cX6_thrown 4 = .ok (.ireturn, 1) := by decide +kernel
def fn_X6_thrown (L : cp_Lay) (q : Nat) (k0 : Nat) (D : cp_Dt) : Option (Int32 × cp_Dt) :=
  (cp_gI L D k0 6 0).bind fun v1 =>
  some (v1, D)
set_option maxHeartbeats 4000000 in
set_option maxRecDepth 100000 in
theorem ct_X6_thrown (l : Launch) (G : va_G) (L : cp_Lay) (hJ : cp_J L) (q : Nat) (k0 : Nat) (D : cp_Dt) (res : Int32 × cp_Dt) (hF : fn_X6_thrown L q k0 D = some res) : cp_Met l G yX6_thrown wsX6_thrown ({ frames := 0, cells := 0, slots := 0, locals := 0 }) L ([.ref (L.2.1 k0)] : List Value) D res.2 (some (.int res.1)) := by
  refine Met.ofW (cc := cX6_thrown) (maxL := 1) (ret := (some .int)) (by decide) rfl ?_
  intro p e s m args below meth c s₁ B hml hv
  obtain ⟨rfl, hP, hK, hN, hZ⟩ := hv
  have hx := B.exec
  have hb := B.bytes
  have hr := B.returns
  have hts := atoms_spec (ws := wsX6_thrown) B.pre
  have hown : s.vm.findClass "CreaturePondModel" = some m.cls := findClass_of_methodNamed B.named
  have hlocks := B.notSynchronized
  have hS : va_S (cp_A L) s.heap s.heap [] := va_S.rf
  have htT : ∀ w ∈ cp_T, w.before ([.ref (L.2.1 k0)] : List Value).toArray s = true := fun w h => hts w (List.mem_cons_of_mem _ h)
  have hl := lv_entry (([.ref (L.2.1 k0)] : List Value)) (n := 1) (Nat.le_of_ble_eq_true rfl)
  rw [lg_entry_eq]
  generalize (lg_sl (([.ref (L.2.1 k0)] : List Value)) ++ List.replicate (1 - (lg_sl (([.ref (L.2.1 k0)] : List Value))).length) Slot.unset).toArray = ls at hl ⊢
  have hl : lv_has ls 1 [(0, .ref (L.2.1 k0))] := hl
  unfold fn_X6_thrown at hF
  refine lv_aload_n hx hb dX6_thrown_0 rfl (lv_at hl 0 rfl) ?_
  obtain ⟨v1, ev1, hF⟩ := cp_bind hF
  refine cp_getI (T := TX6) (N := 6) (ci := 6) (j := 0) hx hb htT hinX6 hown hK hP rfl (by decide) rfl (htT _ tw_375) ev1 dX6_thrown_1 ?_
  exact cp_iret hx hb hr hlocks hF hP hS dX6_thrown_4
theorem dX6_set_0 : decode cX6_set 0 = .ok (.aload_n 0, 1) := by decide +kernel
theorem dX6_set_1 : decode cX6_set 1 = .ok (.iconst 0, 1) := by decide +kernel
theorem dX6_set_2 : decode cX6_set 2 = .ok (.putfield 23, 3) := by decide +kernel
theorem dX6_set_5 : decode cX6_set 5 = .ok (.iload_n 1, 1) := by decide +kernel
theorem dX6_set_6 : decode cX6_set 6 = .ok (.ifCond .lt 9, 3) := by decide +kernel
theorem dX6_set_9 : decode cX6_set 9 = .ok (.iload_n 1, 1) := by decide +kernel
theorem dX6_set_10 : decode cX6_set 10 = .ok (.bipush 50, 2) := by decide +kernel
theorem dX6_set_12 : decode cX6_set 12 = .ok (.if_icmp .le 5, 3) := by decide +kernel
theorem dX6_set_15 : decode cX6_set 15 = .ok (.iconst 0, 1) := by decide +kernel
theorem dX6_set_16 : decode cX6_set 16 = .ok (.ireturn, 1) := by decide +kernel
theorem dX6_set_17 : decode cX6_set 17 = .ok (.aload_n 0, 1) := by decide +kernel
theorem dX6_set_18 : decode cX6_set 18 = .ok (.getfield 7, 3) := by decide +kernel
theorem dX6_set_21 : decode cX6_set 21 = .ok (.sipush 1225, 3) := by decide +kernel
theorem dX6_set_24 : decode cX6_set 24 = .ok (.iload_n 1, 1) := by decide +kernel
theorem dX6_set_25 : decode cX6_set 25 = .ok (.iastore, 1) := by decide +kernel
theorem dX6_set_26 : decode cX6_set 26 = .ok (.aload_n 0, 1) := by decide +kernel
theorem dX6_set_27 : decode cX6_set 27 = .ok (.getfield 7, 3) := by decide +kernel
theorem dX6_set_30 : decode cX6_set 30 = .ok (.sipush 1226, 3) := by decide +kernel
theorem dX6_set_33 : decode cX6_set 33 = .ok (.iload_n 2, 1) := by decide +kernel
theorem dX6_set_34 : decode cX6_set 34 = .ok (.iastore, 1) := by decide +kernel
theorem dX6_set_35 : decode cX6_set 35 = .ok (.iconst 1, 1) := by decide +kernel
theorem dX6_set_36 : decode cX6_set 36 = .ok (.ireturn, 1) := by decide +kernel
def fn_X6_set (L : cp_Lay) (q : Nat) (k0 : Nat) (x1 : Int32) (x2 : Int32) (D : cp_Dt) : Option (Int32 × cp_Dt) :=
  (cp_pI L D k0 6 0 (0 : Int32)).bind fun D1 =>
  if x1 < 0 then (some ((0 : Int32), D1))
  else (if x1 ≤ (50 : Int32) then ((cp_gR L k0 6 3).bind fun r4 =>
  (cp_aS L D1 0 r4 (1225 : Int32) x1).bind fun D5 =>
  (cp_gR L k0 6 3).bind fun r6 =>
  (cp_aS L D5 0 r6 (1226 : Int32) x2).bind fun D7 =>
  some ((1 : Int32), D7))
  else (some ((0 : Int32), D1)))
set_option maxHeartbeats 4000000 in
set_option maxRecDepth 100000 in
theorem ct_X6_set (l : Launch) (G : va_G) (L : cp_Lay) (hJ : cp_J L) (q : Nat) (k0 : Nat) (x1 : Int32) (x2 : Int32) (D : cp_Dt) (res : Int32 × cp_Dt) (hF : fn_X6_set L q k0 x1 x2 D = some res) : cp_Met l G yX6_set wsX6_set ({ frames := 0, cells := 0, slots := 0, locals := 0 }) L ([.ref (L.2.1 k0), .int x1, .int x2] : List Value) D res.2 (some (.int res.1)) := by
  refine Met.ofW (cc := cX6_set) (maxL := 3) (ret := (some .boolean)) (by decide) rfl ?_
  intro p e s m args below meth c s₁ B hml hv
  obtain ⟨rfl, hP, hK, hN, hZ⟩ := hv
  have hx := B.exec
  have hb := B.bytes
  have hr := B.returns
  have hts := atoms_spec (ws := wsX6_set) B.pre
  have hown : s.vm.findClass "CreaturePondModel" = some m.cls := findClass_of_methodNamed B.named
  have hlocks := B.notSynchronized
  have hS : va_S (cp_A L) s.heap s.heap [] := va_S.rf
  have htT : ∀ w ∈ cp_T, w.before ([.ref (L.2.1 k0), .int x1, .int x2] : List Value).toArray s = true := fun w h => hts w (List.mem_cons_of_mem _ h)
  have hl := lv_entry (([.ref (L.2.1 k0), .int x1, .int x2] : List Value)) (n := 3) (Nat.le_of_ble_eq_true rfl)
  rw [lg_entry_eq]
  generalize (lg_sl (([.ref (L.2.1 k0), .int x1, .int x2] : List Value)) ++ List.replicate (3 - (lg_sl (([.ref (L.2.1 k0), .int x1, .int x2] : List Value))).length) Slot.unset).toArray = ls at hl ⊢
  have hl : lv_has ls 3 [(0, .ref (L.2.1 k0)), (1, .int x1), (2, .int x2)] := hl
  unfold fn_X6_set at hF
  refine lv_aload_n hx hb dX6_set_0 rfl (lv_at hl 0 rfl) ?_
  refine lv_iconst (v := (0 : Int32)) hx hb dX6_set_1 (by decide) ?_
  obtain ⟨D1, eD1, hF⟩ := cp_bind hF
  refine cp_put (T := TX6) (N := 6) (ci := 6) (j := 0) hx hb htT hinX6 tyX6 tyX6_ok nmX6 hown hK hJ hP hS rfl (by decide) rfl (htT _ tw_375) rfl rfl rfl eD1 dX6_set_2 (fun H locs hP hS => ?_)
  refine lv_iload_n hx hb dX6_set_5 rfl (lv_at hl 1 rfl) ?_
  refine lv_if_lt (tgt := 15) hx hb dX6_set_6 (by decide) (fun hc2 => ?_) (fun hc2 => ?_)
  · rw [if_pos hc2] at hF
    refine lv_iconst (v := (0 : Int32)) hx hb dX6_set_15 (by decide) ?_
    exact cp_zret hx hb hr hlocks (by decide) hF hP hS dX6_set_16
  · rw [if_neg hc2] at hF
    refine lv_iload_n hx hb dX6_set_9 rfl (lv_at hl 1 rfl) ?_
    refine lv_bipush (v := (50 : Int32)) hx hb dX6_set_10 (by decide) ?_
    refine lv_icmp_le (tgt := 17) hx hb dX6_set_12 (by decide) (fun hc3 => ?_) (fun hc3 => ?_)
    · rw [if_pos hc3] at hF
      refine lv_aload_n hx hb dX6_set_17 rfl (lv_at hl 0 rfl) ?_
      obtain ⟨r4, er4, hF⟩ := cp_bind hF
      refine cp_getR (T := TX6) (N := 6) (ci := 6) (j := 3) hx hb htT hinX6 hown hK hP rfl (by decide) rfl (htT _ tw_378) er4 dX6_set_18 ?_
      refine lv_sipush (v := (1225 : Int32)) hx hb dX6_set_21 (by decide) ?_
      refine lv_iload_n hx hb dX6_set_24 rfl (lv_at hl 1 rfl) ?_
      obtain ⟨D5, eD5, hF⟩ := cp_bind hF
      refine cp_iast hx hb hK hJ hP hS eD5 dX6_set_25 (fun H locs hP hS => ?_)
      refine lv_aload_n hx hb dX6_set_26 rfl (lv_at hl 0 rfl) ?_
      obtain ⟨r6, er6, hF⟩ := cp_bind hF
      refine cp_getR (T := TX6) (N := 6) (ci := 6) (j := 3) hx hb htT hinX6 hown hK hP rfl (by decide) rfl (htT _ tw_378) er6 dX6_set_27 ?_
      refine lv_sipush (v := (1226 : Int32)) hx hb dX6_set_30 (by decide) ?_
      refine lv_iload_n hx hb dX6_set_33 rfl (lv_at hl 2 rfl) ?_
      obtain ⟨D7, eD7, hF⟩ := cp_bind hF
      refine cp_iast hx hb hK hJ hP hS eD7 dX6_set_34 (fun H locs hP hS => ?_)
      refine lv_iconst (v := (1 : Int32)) hx hb dX6_set_35 (by decide) ?_
      exact cp_zret hx hb hr hlocks (by decide) hF hP hS dX6_set_36
    · rw [if_neg hc3] at hF
      refine lv_iconst (v := (0 : Int32)) hx hb dX6_set_15 (by decide) ?_
      exact cp_zret hx hb hr hlocks (by decide) hF hP hS dX6_set_16
theorem dX6_store_0 : decode cX6_store 0 = .ok (.aload_n 0, 1) := by decide +kernel
theorem dX6_store_1 : decode cX6_store 1 = .ok (.iconst 0, 1) := by decide +kernel
theorem dX6_store_2 : decode cX6_store 2 = .ok (.putfield 23, 3) := by decide +kernel
theorem dX6_store_5 : decode cX6_store 5 = .ok (.iload_n 1, 1) := by decide +kernel
theorem dX6_store_6 : decode cX6_store 6 = .ok (.ifCond .lt 25, 3) := by decide +kernel
theorem dX6_store_9 : decode cX6_store 9 = .ok (.iload_n 1, 1) := by decide +kernel
theorem dX6_store_10 : decode cX6_store 10 = .ok (.sipush 10000, 3) := by decide +kernel
theorem dX6_store_13 : decode cX6_store 13 = .ok (.if_icmp .gt 18, 3) := by decide +kernel
theorem dX6_store_16 : decode cX6_store 16 = .ok (.aload_n 0, 1) := by decide +kernel
theorem dX6_store_17 : decode cX6_store 17 = .ok (.getfield 7, 3) := by decide +kernel
theorem dX6_store_20 : decode cX6_store 20 = .ok (.sipush 1224, 3) := by decide +kernel
theorem dX6_store_23 : decode cX6_store 23 = .ok (.iaload, 1) := by decide +kernel
theorem dX6_store_24 : decode cX6_store 24 = .ok (.iload_n 1, 1) := by decide +kernel
theorem dX6_store_25 : decode cX6_store 25 = .ok (.iadd, 1) := by decide +kernel
theorem dX6_store_26 : decode cX6_store 26 = .ok (.ldc 108, 2) := by decide +kernel
theorem dX6_store_28 : decode cX6_store 28 = .ok (.if_icmp .le 5, 3) := by decide +kernel
theorem dX6_store_31 : decode cX6_store 31 = .ok (.iconst 0, 1) := by decide +kernel
theorem dX6_store_32 : decode cX6_store 32 = .ok (.ireturn, 1) := by decide +kernel
theorem dX6_store_33 : decode cX6_store 33 = .ok (.aload_n 0, 1) := by decide +kernel
theorem dX6_store_34 : decode cX6_store 34 = .ok (.getfield 7, 3) := by decide +kernel
theorem dX6_store_37 : decode cX6_store 37 = .ok (.sipush 1224, 3) := by decide +kernel
theorem dX6_store_40 : decode cX6_store 40 = .ok (.dup2, 1) := by decide +kernel
theorem dX6_store_41 : decode cX6_store 41 = .ok (.iaload, 1) := by decide +kernel
theorem dX6_store_42 : decode cX6_store 42 = .ok (.iload_n 1, 1) := by decide +kernel
theorem dX6_store_43 : decode cX6_store 43 = .ok (.iadd, 1) := by decide +kernel
theorem dX6_store_44 : decode cX6_store 44 = .ok (.iastore, 1) := by decide +kernel
theorem dX6_store_45 : decode cX6_store 45 = .ok (.iconst 1, 1) := by decide +kernel
theorem dX6_store_46 : decode cX6_store 46 = .ok (.ireturn, 1) := by decide +kernel
def fn_X6_store (L : cp_Lay) (q : Nat) (k0 : Nat) (x1 : Int32) (D : cp_Dt) : Option (Int32 × cp_Dt) :=
  (cp_pI L D k0 6 0 (0 : Int32)).bind fun D1 =>
  if x1 < 0 then (some ((0 : Int32), D1))
  else (if (10000 : Int32) < x1 then (some ((0 : Int32), D1))
  else ((cp_gR L k0 6 3).bind fun r4 =>
  (cp_aI L D1 0 r4 (1224 : Int32)).bind fun v5 =>
  if (v5 + x1) ≤ (1000000 : Int32) then ((cp_gR L k0 6 3).bind fun r7 =>
  (cp_aI L D1 0 r7 (1224 : Int32)).bind fun v8 =>
  (cp_aS L D1 0 r7 (1224 : Int32) (v8 + x1)).bind fun D9 =>
  some ((1 : Int32), D9))
  else (some ((0 : Int32), D1))))
set_option maxHeartbeats 4000000 in
set_option maxRecDepth 100000 in
theorem ct_X6_store (l : Launch) (G : va_G) (L : cp_Lay) (hJ : cp_J L) (q : Nat) (k0 : Nat) (x1 : Int32) (D : cp_Dt) (res : Int32 × cp_Dt) (hF : fn_X6_store L q k0 x1 D = some res) : cp_Met l G yX6_store wsX6_store ({ frames := 0, cells := 0, slots := 0, locals := 0 }) L ([.ref (L.2.1 k0), .int x1] : List Value) D res.2 (some (.int res.1)) := by
  refine Met.ofW (cc := cX6_store) (maxL := 2) (ret := (some .boolean)) (by decide) rfl ?_
  intro p e s m args below meth c s₁ B hml hv
  obtain ⟨rfl, hP, hK, hN, hZ⟩ := hv
  have hx := B.exec
  have hb := B.bytes
  have hr := B.returns
  have hts := atoms_spec (ws := wsX6_store) B.pre
  have hown : s.vm.findClass "CreaturePondModel" = some m.cls := findClass_of_methodNamed B.named
  have hlocks := B.notSynchronized
  have hS : va_S (cp_A L) s.heap s.heap [] := va_S.rf
  have htT : ∀ w ∈ cp_T, w.before ([.ref (L.2.1 k0), .int x1] : List Value).toArray s = true := fun w h => hts w (List.mem_cons_of_mem _ h)
  have hl := lv_entry (([.ref (L.2.1 k0), .int x1] : List Value)) (n := 2) (Nat.le_of_ble_eq_true rfl)
  rw [lg_entry_eq]
  generalize (lg_sl (([.ref (L.2.1 k0), .int x1] : List Value)) ++ List.replicate (2 - (lg_sl (([.ref (L.2.1 k0), .int x1] : List Value))).length) Slot.unset).toArray = ls at hl ⊢
  have hl : lv_has ls 2 [(0, .ref (L.2.1 k0)), (1, .int x1)] := hl
  unfold fn_X6_store at hF
  refine lv_aload_n hx hb dX6_store_0 rfl (lv_at hl 0 rfl) ?_
  refine lv_iconst (v := (0 : Int32)) hx hb dX6_store_1 (by decide) ?_
  obtain ⟨D1, eD1, hF⟩ := cp_bind hF
  refine cp_put (T := TX6) (N := 6) (ci := 6) (j := 0) hx hb htT hinX6 tyX6 tyX6_ok nmX6 hown hK hJ hP hS rfl (by decide) rfl (htT _ tw_375) rfl rfl rfl eD1 dX6_store_2 (fun H locs hP hS => ?_)
  refine lv_iload_n hx hb dX6_store_5 rfl (lv_at hl 1 rfl) ?_
  refine lv_if_lt (tgt := 31) hx hb dX6_store_6 (by decide) (fun hc2 => ?_) (fun hc2 => ?_)
  · rw [if_pos hc2] at hF
    refine lv_iconst (v := (0 : Int32)) hx hb dX6_store_31 (by decide) ?_
    exact cp_zret hx hb hr hlocks (by decide) hF hP hS dX6_store_32
  · rw [if_neg hc2] at hF
    refine lv_iload_n hx hb dX6_store_9 rfl (lv_at hl 1 rfl) ?_
    refine lv_sipush (v := (10000 : Int32)) hx hb dX6_store_10 (by decide) ?_
    refine lv_icmp_gt (tgt := 31) hx hb dX6_store_13 (by decide) (fun hc3 => ?_) (fun hc3 => ?_)
    · rw [if_pos hc3] at hF
      refine lv_iconst (v := (0 : Int32)) hx hb dX6_store_31 (by decide) ?_
      exact cp_zret hx hb hr hlocks (by decide) hF hP hS dX6_store_32
    · rw [if_neg hc3] at hF
      refine lv_aload_n hx hb dX6_store_16 rfl (lv_at hl 0 rfl) ?_
      obtain ⟨r4, er4, hF⟩ := cp_bind hF
      refine cp_getR (T := TX6) (N := 6) (ci := 6) (j := 3) hx hb htT hinX6 hown hK hP rfl (by decide) rfl (htT _ tw_378) er4 dX6_store_17 ?_
      refine lv_sipush (v := (1224 : Int32)) hx hb dX6_store_20 (by decide) ?_
      obtain ⟨v5, ev5, hF⟩ := cp_bind hF
      refine cp_iald hx hb hK hP ev5 dX6_store_23 ?_
      refine lv_iload_n hx hb dX6_store_24 rfl (lv_at hl 1 rfl) ?_
      refine lv_iadd hx hb dX6_store_25 ?_
      refine lv_ldc (v := (1000000 : Int32)) hx hb hown (htT _ tw_399) dX6_store_26 ?_
      refine lv_icmp_le (tgt := 33) hx hb dX6_store_28 (by decide) (fun hc6 => ?_) (fun hc6 => ?_)
      · rw [if_pos hc6] at hF
        refine lv_aload_n hx hb dX6_store_33 rfl (lv_at hl 0 rfl) ?_
        obtain ⟨r7, er7, hF⟩ := cp_bind hF
        refine cp_getR (T := TX6) (N := 6) (ci := 6) (j := 3) hx hb htT hinX6 hown hK hP rfl (by decide) rfl (htT _ tw_378) er7 dX6_store_34 ?_
        refine lv_sipush (v := (1224 : Int32)) hx hb dX6_store_37 (by decide) ?_
        refine lv_dup2_11 hx hb dX6_store_40 rfl rfl ?_
        obtain ⟨v8, ev8, hF⟩ := cp_bind hF
        refine cp_iald hx hb hK hP ev8 dX6_store_41 ?_
        refine lv_iload_n hx hb dX6_store_42 rfl (lv_at hl 1 rfl) ?_
        refine lv_iadd hx hb dX6_store_43 ?_
        obtain ⟨D9, eD9, hF⟩ := cp_bind hF
        refine cp_iast hx hb hK hJ hP hS eD9 dX6_store_44 (fun H locs hP hS => ?_)
        refine lv_iconst (v := (1 : Int32)) hx hb dX6_store_45 (by decide) ?_
        exact cp_zret hx hb hr hlocks (by decide) hF hP hS dX6_store_46
      · rw [if_neg hc6] at hF
        refine lv_iconst (v := (0 : Int32)) hx hb dX6_store_31 (by decide) ?_
        exact cp_zret hx hb hr hlocks (by decide) hF hP hS dX6_store_32
theorem dX6_round_0 : decode cX6_round 0 = .ok (.iload_n 0, 1) := by decide +kernel
theorem dX6_round_1 : decode cX6_round 1 = .ok (.iload_n 1, 1) := by decide +kernel
theorem dX6_round_2 : decode cX6_round 2 = .ok (.irem, 1) := by decide +kernel
theorem dX6_round_3 : decode cX6_round 3 = .ok (.istore_n 2, 1) := by decide +kernel
theorem dX6_round_4 : decode cX6_round 4 = .ok (.iload_n 2, 1) := by decide +kernel
theorem dX6_round_5 : decode cX6_round 5 = .ok (.ifCond .ge 9, 3) := by decide +kernel
theorem dX6_round_8 : decode cX6_round 8 = .ok (.iload_n 2, 1) := by decide +kernel
theorem dX6_round_9 : decode cX6_round 9 = .ok (.iload_n 1, 1) := by decide +kernel
theorem dX6_round_10 : decode cX6_round 10 = .ok (.iadd, 1) := by decide +kernel
theorem dX6_round_11 : decode cX6_round 11 = .ok (.goto 4, 3) := by decide +kernel
theorem dX6_round_14 : decode cX6_round 14 = .ok (.iload_n 2, 1) := by decide +kernel
theorem dX6_round_15 : decode cX6_round 15 = .ok (.ireturn, 1) := by decide +kernel
def fn_X6_round (L : cp_Lay) (q : Nat) (x1 : Int32) (x2 : Int32) (D : cp_Dt) : Option (Int32 × cp_Dt) :=
  (cp_nz x2).bind fun u1 =>
  if 0 ≤ (x1 - x1 / x2 * x2) then (some ((x1 - x1 / x2 * x2), D))
  else (some (((x1 - x1 / x2 * x2) + x2), D))
set_option maxHeartbeats 4000000 in
set_option maxRecDepth 100000 in
theorem ct_X6_round (l : Launch) (G : va_G) (L : cp_Lay) (hJ : cp_J L) (q : Nat) (x1 : Int32) (x2 : Int32) (D : cp_Dt) (res : Int32 × cp_Dt) (hF : fn_X6_round L q x1 x2 D = some res) : cp_Met l G yX6_round wsX6_round ({ frames := 0, cells := 0, slots := 0, locals := 0 }) L ([.int x1, .int x2] : List Value) D res.2 (some (.int res.1)) := by
  refine Met.ofW (cc := cX6_round) (maxL := 3) (ret := (some .int)) (by decide) rfl ?_
  intro p e s m args below meth c s₁ B hml hv
  obtain ⟨rfl, hP, hK, hN, hZ⟩ := hv
  have hx := B.exec
  have hb := B.bytes
  have hr := B.returns
  have hts := atoms_spec (ws := wsX6_round) B.pre
  have hown : s.vm.findClass "CreaturePondModel" = some m.cls := findClass_of_methodNamed B.named
  have hlocks := B.notSynchronized
  have hS : va_S (cp_A L) s.heap s.heap [] := va_S.rf
  have htT : ∀ w ∈ cp_T, w.before ([.int x1, .int x2] : List Value).toArray s = true := fun w h => hts w (List.mem_cons_of_mem _ h)
  have hl := lv_entry (([.int x1, .int x2] : List Value)) (n := 3) (Nat.le_of_ble_eq_true rfl)
  rw [lg_entry_eq]
  generalize (lg_sl (([.int x1, .int x2] : List Value)) ++ List.replicate (3 - (lg_sl (([.int x1, .int x2] : List Value))).length) Slot.unset).toArray = ls at hl ⊢
  have hl : lv_has ls 3 [(0, .int x1), (1, .int x2)] := hl
  unfold fn_X6_round at hF
  refine lv_iload_n hx hb dX6_round_0 rfl (lv_at hl 0 rfl) ?_
  refine lv_iload_n hx hb dX6_round_1 rfl (lv_at hl 1 rfl) ?_
  obtain ⟨u1, eu1, hF⟩ := cp_bind hF
  refine lv_irem hx hb dX6_round_2 (cp_nz_ne eu1) ?_
  refine lv_istore_n (lv' := [(2, .int (x1 - x1 / x2 * x2)), (0, .int x1), (1, .int x2)]) hx hb dX6_round_3 rfl hl (by decide) rfl (fun ls hl => ?_)
  refine lv_iload_n hx hb dX6_round_4 rfl (lv_at hl 0 rfl) ?_
  refine lv_if_ge (tgt := 14) hx hb dX6_round_5 (by decide) (fun hc2 => ?_) (fun hc2 => ?_)
  · rw [if_pos hc2] at hF
    refine lv_iload_n hx hb dX6_round_14 rfl (lv_at hl 0 rfl) ?_
    exact cp_iret hx hb hr hlocks hF hP hS dX6_round_15
  · rw [if_neg hc2] at hF
    refine lv_iload_n hx hb dX6_round_8 rfl (lv_at hl 0 rfl) ?_
    refine lv_iload_n hx hb dX6_round_9 rfl (lv_at hl 2 rfl) ?_
    refine lv_iadd hx hb dX6_round_10 ?_
    refine lv_goto (tgt := 15) hx hb dX6_round_11 (by decide) ?_
    exact cp_iret hx hb hr hlocks hF hP hS dX6_round_15
theorem dX6_at_0 : decode cX6_at 0 = .ok (.sipush 200, 3) := by decide +kernel
theorem dX6_at_3 : decode cX6_at 3 = .ok (.bipush 64, 2) := by decide +kernel
theorem dX6_at_5 : decode cX6_at 5 = .ok (.iload_n 0, 1) := by decide +kernel
theorem dX6_at_6 : decode cX6_at 6 = .ok (.imul, 1) := by decide +kernel
theorem dX6_at_7 : decode cX6_at 7 = .ok (.iadd, 1) := by decide +kernel
theorem dX6_at_8 : decode cX6_at 8 = .ok (.ireturn, 1) := by decide +kernel
def fn_X6_at (L : cp_Lay) (q : Nat) (x1 : Int32) (D : cp_Dt) : Option (Int32 × cp_Dt) :=
  some (((200 : Int32) + ((64 : Int32) * x1)), D)
set_option maxHeartbeats 4000000 in
set_option maxRecDepth 100000 in
theorem ct_X6_at (l : Launch) (G : va_G) (L : cp_Lay) (hJ : cp_J L) (q : Nat) (x1 : Int32) (D : cp_Dt) (res : Int32 × cp_Dt) (hF : fn_X6_at L q x1 D = some res) : cp_Met l G yX6_at wsX6_at ({ frames := 0, cells := 0, slots := 0, locals := 0 }) L ([.int x1] : List Value) D res.2 (some (.int res.1)) := by
  refine Met.ofW (cc := cX6_at) (maxL := 1) (ret := (some .int)) (by decide) rfl ?_
  intro p e s m args below meth c s₁ B hml hv
  obtain ⟨rfl, hP, hK, hN, hZ⟩ := hv
  have hx := B.exec
  have hb := B.bytes
  have hr := B.returns
  have hts := atoms_spec (ws := wsX6_at) B.pre
  have hown : s.vm.findClass "CreaturePondModel" = some m.cls := findClass_of_methodNamed B.named
  have hlocks := B.notSynchronized
  have hS : va_S (cp_A L) s.heap s.heap [] := va_S.rf
  have htT : ∀ w ∈ cp_T, w.before ([.int x1] : List Value).toArray s = true := fun w h => hts w (List.mem_cons_of_mem _ h)
  have hl := lv_entry (([.int x1] : List Value)) (n := 1) (Nat.le_of_ble_eq_true rfl)
  rw [lg_entry_eq]
  generalize (lg_sl (([.int x1] : List Value)) ++ List.replicate (1 - (lg_sl (([.int x1] : List Value))).length) Slot.unset).toArray = ls at hl ⊢
  have hl : lv_has ls 1 [(0, .int x1)] := hl
  unfold fn_X6_at at hF
  refine lv_sipush (v := (200 : Int32)) hx hb dX6_at_0 (by decide) ?_
  refine lv_bipush (v := (64 : Int32)) hx hb dX6_at_3 (by decide) ?_
  refine lv_iload_n hx hb dX6_at_5 rfl (lv_at hl 0 rfl) ?_
  refine lv_imul hx hb dX6_at_6 ?_
  refine lv_iadd hx hb dX6_at_7 ?_
  exact cp_iret hx hb hr hlocks hF hP hS dX6_at_8
theorem dX6_lives_0 : decode cX6_lives 0 = .ok (.iload_n 1, 1) := by decide +kernel
theorem dX6_lives_1 : decode cX6_lives 1 = .ok (.ifCond .lt 39, 3) := by decide +kernel
theorem dX6_lives_4 : decode cX6_lives 4 = .ok (.iload_n 1, 1) := by decide +kernel
theorem dX6_lives_5 : decode cX6_lives 5 = .ok (.bipush 16, 2) := by decide +kernel
theorem dX6_lives_7 : decode cX6_lives 7 = .ok (.if_icmp .ge 33, 3) := by decide +kernel
theorem dX6_lives_10 : decode cX6_lives 10 = .ok (.aload_n 0, 1) := by decide +kernel
theorem dX6_lives_11 : decode cX6_lives 11 = .ok (.getfield 7, 3) := by decide +kernel
theorem dX6_lives_14 : decode cX6_lives 14 = .ok (.iload_n 1, 1) := by decide +kernel
theorem dX6_lives_15 : decode cX6_lives 15 = .ok (.ifCond .lt 9, 3) := by decide +kernel
theorem dX6_lives_18 : decode cX6_lives 18 = .ok (.iload_n 1, 1) := by decide +kernel
theorem dX6_lives_19 : decode cX6_lives 19 = .ok (.bipush 15, 2) := by decide +kernel
theorem dX6_lives_21 : decode cX6_lives 21 = .ok (.if_icmp .le 7, 3) := by decide +kernel
theorem dX6_lives_24 : decode cX6_lives 24 = .ok (.iconst 0, 1) := by decide +kernel
theorem dX6_lives_25 : decode cX6_lives 25 = .ok (.goto 4, 3) := by decide +kernel
theorem dX6_lives_28 : decode cX6_lives 28 = .ok (.iload_n 1, 1) := by decide +kernel
theorem dX6_lives_29 : decode cX6_lives 29 = .ok (.invokestatic 30, 3) := by decide +kernel
theorem dX6_lives_32 : decode cX6_lives 32 = .ok (.iaload, 1) := by decide +kernel
theorem dX6_lives_33 : decode cX6_lives 33 = .ok (.ifCond .lt 7, 3) := by decide +kernel
theorem dX6_lives_36 : decode cX6_lives 36 = .ok (.iconst 1, 1) := by decide +kernel
theorem dX6_lives_37 : decode cX6_lives 37 = .ok (.goto 4, 3) := by decide +kernel
theorem dX6_lives_40 : decode cX6_lives 40 = .ok (.iconst 0, 1) := by decide +kernel
theorem dX6_lives_41 : decode cX6_lives 41 = .ok (.ireturn, 1) := by decide +kernel
def fn_X6_lives (L : cp_Lay) (q : Nat) (k0 : Nat) (x1 : Int32) (D : cp_Dt) : Option (Int32 × cp_Dt) :=
  if x1 < 0 then (some ((0 : Int32), D))
  else (if (16 : Int32) ≤ x1 then (some ((0 : Int32), D))
  else ((cp_gR L k0 6 3).bind fun r3 =>
  if x1 < 0 then ((fn_X6_at L q (0 : Int32) D).bind fun y5 =>
  (cp_aI L y5.2 0 r3 y5.1).bind fun v6 =>
  if v6 < 0 then (some ((0 : Int32), y5.2))
  else (some ((1 : Int32), y5.2)))
  else (if x1 ≤ (15 : Int32) then ((fn_X6_at L q x1 D).bind fun y9 =>
  (cp_aI L y9.2 0 r3 y9.1).bind fun v10 =>
  if v10 < 0 then (some ((0 : Int32), y9.2))
  else (some ((1 : Int32), y9.2)))
  else ((fn_X6_at L q (0 : Int32) D).bind fun y12 =>
  (cp_aI L y12.2 0 r3 y12.1).bind fun v13 =>
  if v13 < 0 then (some ((0 : Int32), y12.2))
  else (some ((1 : Int32), y12.2))))))
set_option maxHeartbeats 4000000 in
set_option maxRecDepth 100000 in
theorem ct_X6_lives (l : Launch) (G : va_G) (L : cp_Lay) (hJ : cp_J L) (q : Nat) (k0 : Nat) (x1 : Int32) (D : cp_Dt) (res : Int32 × cp_Dt) (hF : fn_X6_lives L q k0 x1 D = some res) : cp_Met l G yX6_lives wsX6_lives ({ frames := 1, cells := 0, slots := 0, locals := 20 }) L ([.ref (L.2.1 k0), .int x1] : List Value) D res.2 (some (.int res.1)) := by
  refine Met.ofW (cc := cX6_lives) (maxL := 2) (ret := (some .boolean)) (by decide) rfl ?_
  intro p e s m args below meth c s₁ B hml hv
  obtain ⟨rfl, hP, hK, hN, hZ⟩ := hv
  have hx := B.exec
  have hb := B.bytes
  have hr := B.returns
  have hts := atoms_spec (ws := wsX6_lives) B.pre
  have hown : s.vm.findClass "CreaturePondModel" = some m.cls := findClass_of_methodNamed B.named
  have hlocks := B.notSynchronized
  have hS : va_S (cp_A L) s.heap s.heap [] := va_S.rf
  have htT : ∀ w ∈ cp_T, w.before ([.ref (L.2.1 k0), .int x1] : List Value).toArray s = true := fun w h => hts w (List.mem_cons_of_mem _ h)
  have hl := lv_entry (([.ref (L.2.1 k0), .int x1] : List Value)) (n := 2) (Nat.le_of_ble_eq_true rfl)
  rw [lg_entry_eq]
  generalize (lg_sl (([.ref (L.2.1 k0), .int x1] : List Value)) ++ List.replicate (2 - (lg_sl (([.ref (L.2.1 k0), .int x1] : List Value))).length) Slot.unset).toArray = ls at hl ⊢
  have hl : lv_has ls 2 [(0, .ref (L.2.1 k0)), (1, .int x1)] := hl
  unfold fn_X6_lives at hF
  refine lv_iload_n hx hb dX6_lives_0 rfl (lv_at hl 1 rfl) ?_
  refine lv_if_lt (tgt := 40) hx hb dX6_lives_1 (by decide) (fun hc1 => ?_) (fun hc1 => ?_)
  · rw [if_pos hc1] at hF
    refine lv_iconst (v := (0 : Int32)) hx hb dX6_lives_40 (by decide) ?_
    exact cp_zret hx hb hr hlocks (by decide) hF hP hS dX6_lives_41
  · rw [if_neg hc1] at hF
    refine lv_iload_n hx hb dX6_lives_4 rfl (lv_at hl 1 rfl) ?_
    refine lv_bipush (v := (16 : Int32)) hx hb dX6_lives_5 (by decide) ?_
    refine lv_icmp_ge (tgt := 40) hx hb dX6_lives_7 (by decide) (fun hc2 => ?_) (fun hc2 => ?_)
    · rw [if_pos hc2] at hF
      refine lv_iconst (v := (0 : Int32)) hx hb dX6_lives_40 (by decide) ?_
      exact cp_zret hx hb hr hlocks (by decide) hF hP hS dX6_lives_41
    · rw [if_neg hc2] at hF
      refine lv_aload_n hx hb dX6_lives_10 rfl (lv_at hl 0 rfl) ?_
      obtain ⟨r3, er3, hF⟩ := cp_bind hF
      refine cp_getR (T := TX6) (N := 6) (ci := 6) (j := 3) hx hb htT hinX6 hown hK hP rfl (by decide) rfl (htT _ tw_378) er3 dX6_lives_11 ?_
      refine lv_iload_n hx hb dX6_lives_14 rfl (lv_at hl 1 rfl) ?_
      refine lv_if_lt (tgt := 24) hx hb dX6_lives_15 (by decide) (fun hc4 => ?_) (fun hc4 => ?_)
      · rw [if_pos hc4] at hF
        refine lv_iconst (v := (0 : Int32)) hx hb dX6_lives_24 (by decide) ?_
        refine lv_goto (tgt := 29) hx hb dX6_lives_25 (by decide) ?_
        obtain ⟨y5, ey5, hF⟩ := cp_bind hF
        refine cp_call (st1 := [.int y5.1, .ref (L.2.1 r3)]) (va_runS (As := [.int (0 : Int32)]) (rest := [.ref (L.2.1 r3)]) ⟨hx, hb, hml, hown, htT⟩ (ct_X6_at l G L hJ q (0 : Int32) D y5 ey5) ⟨callB_of 1 htT gdX6_at rfl rfl rfl (htT _ tw_8) (htT _ tw_417) hdX6_at ⟨Nat.le_of_ble_eq_true rfl, Nat.le_of_ble_eq_true rfl⟩, (htT _ tw_418)⟩ ⟨cp_blind, cp_pre hP hK hN hZ hS⟩ rfl rfl hl.1 rfl (lv_room (Nat.le_of_ble_eq_true rfl)) dX6_lives_29 ⟨Nat.zero_le _, Nat.zero_le _⟩) hS (fun H locs hP hS => ?_)
        obtain ⟨v6, ev6, hF⟩ := cp_bind hF
        refine cp_iald hx hb hK hP ev6 dX6_lives_32 ?_
        refine lv_if_lt (tgt := 40) hx hb dX6_lives_33 (by decide) (fun hc7 => ?_) (fun hc7 => ?_)
        · rw [if_pos hc7] at hF
          refine lv_iconst (v := (0 : Int32)) hx hb dX6_lives_40 (by decide) ?_
          exact cp_zret hx hb hr hlocks (by decide) hF hP hS dX6_lives_41
        · rw [if_neg hc7] at hF
          refine lv_iconst (v := (1 : Int32)) hx hb dX6_lives_36 (by decide) ?_
          refine lv_goto (tgt := 41) hx hb dX6_lives_37 (by decide) ?_
          exact cp_zret hx hb hr hlocks (by decide) hF hP hS dX6_lives_41
      · rw [if_neg hc4] at hF
        refine lv_iload_n hx hb dX6_lives_18 rfl (lv_at hl 1 rfl) ?_
        refine lv_bipush (v := (15 : Int32)) hx hb dX6_lives_19 (by decide) ?_
        refine lv_icmp_le (tgt := 28) hx hb dX6_lives_21 (by decide) (fun hc8 => ?_) (fun hc8 => ?_)
        · rw [if_pos hc8] at hF
          refine lv_iload_n hx hb dX6_lives_28 rfl (lv_at hl 1 rfl) ?_
          obtain ⟨y9, ey9, hF⟩ := cp_bind hF
          refine cp_call (st1 := [.int y9.1, .ref (L.2.1 r3)]) (va_runS (As := [.int x1]) (rest := [.ref (L.2.1 r3)]) ⟨hx, hb, hml, hown, htT⟩ (ct_X6_at l G L hJ q x1 D y9 ey9) ⟨callB_of 1 htT gdX6_at rfl rfl rfl (htT _ tw_8) (htT _ tw_417) hdX6_at ⟨Nat.le_of_ble_eq_true rfl, Nat.le_of_ble_eq_true rfl⟩, (htT _ tw_418)⟩ ⟨cp_blind, cp_pre hP hK hN hZ hS⟩ rfl rfl hl.1 rfl (lv_room (Nat.le_of_ble_eq_true rfl)) dX6_lives_29 ⟨Nat.zero_le _, Nat.zero_le _⟩) hS (fun H locs hP hS => ?_)
          obtain ⟨v10, ev10, hF⟩ := cp_bind hF
          refine cp_iald hx hb hK hP ev10 dX6_lives_32 ?_
          refine lv_if_lt (tgt := 40) hx hb dX6_lives_33 (by decide) (fun hc11 => ?_) (fun hc11 => ?_)
          · rw [if_pos hc11] at hF
            refine lv_iconst (v := (0 : Int32)) hx hb dX6_lives_40 (by decide) ?_
            exact cp_zret hx hb hr hlocks (by decide) hF hP hS dX6_lives_41
          · rw [if_neg hc11] at hF
            refine lv_iconst (v := (1 : Int32)) hx hb dX6_lives_36 (by decide) ?_
            refine lv_goto (tgt := 41) hx hb dX6_lives_37 (by decide) ?_
            exact cp_zret hx hb hr hlocks (by decide) hF hP hS dX6_lives_41
        · rw [if_neg hc8] at hF
          refine lv_iconst (v := (0 : Int32)) hx hb dX6_lives_24 (by decide) ?_
          refine lv_goto (tgt := 29) hx hb dX6_lives_25 (by decide) ?_
          obtain ⟨y12, ey12, hF⟩ := cp_bind hF
          refine cp_call (st1 := [.int y12.1, .ref (L.2.1 r3)]) (va_runS (As := [.int (0 : Int32)]) (rest := [.ref (L.2.1 r3)]) ⟨hx, hb, hml, hown, htT⟩ (ct_X6_at l G L hJ q (0 : Int32) D y12 ey12) ⟨callB_of 1 htT gdX6_at rfl rfl rfl (htT _ tw_8) (htT _ tw_417) hdX6_at ⟨Nat.le_of_ble_eq_true rfl, Nat.le_of_ble_eq_true rfl⟩, (htT _ tw_418)⟩ ⟨cp_blind, cp_pre hP hK hN hZ hS⟩ rfl rfl hl.1 rfl (lv_room (Nat.le_of_ble_eq_true rfl)) dX6_lives_29 ⟨Nat.zero_le _, Nat.zero_le _⟩) hS (fun H locs hP hS => ?_)
          obtain ⟨v13, ev13, hF⟩ := cp_bind hF
          refine cp_iald hx hb hK hP ev13 dX6_lives_32 ?_
          refine lv_if_lt (tgt := 40) hx hb dX6_lives_33 (by decide) (fun hc14 => ?_) (fun hc14 => ?_)
          · rw [if_pos hc14] at hF
            refine lv_iconst (v := (0 : Int32)) hx hb dX6_lives_40 (by decide) ?_
            exact cp_zret hx hb hr hlocks (by decide) hF hP hS dX6_lives_41
          · rw [if_neg hc14] at hF
            refine lv_iconst (v := (1 : Int32)) hx hb dX6_lives_36 (by decide) ?_
            refine lv_goto (tgt := 41) hx hb dX6_lives_37 (by decide) ?_
            exact cp_zret hx hb hr hlocks (by decide) hF hP hS dX6_lives_41
theorem dX6_make_0 : decode cX6_make 0 = .ok (.iconst 0, 1) := by decide +kernel
theorem dX6_make_1 : decode cX6_make 1 = .ok (.istore 5, 2) := by decide +kernel
theorem dX6_make_3 : decode cX6_make 3 = .ok (.iload 5, 2) := by decide +kernel
theorem dX6_make_5 : decode cX6_make 5 = .ok (.bipush 64, 2) := by decide +kernel
theorem dX6_make_7 : decode cX6_make 7 = .ok (.if_icmp .ge 22, 3) := by decide +kernel
theorem dX6_make_10 : decode cX6_make 10 = .ok (.aload_n 0, 1) := by decide +kernel
theorem dX6_make_11 : decode cX6_make 11 = .ok (.getfield 7, 3) := by decide +kernel
theorem dX6_make_14 : decode cX6_make 14 = .ok (.iload_n 1, 1) := by decide +kernel
theorem dX6_make_15 : decode cX6_make 15 = .ok (.invokestatic 30, 3) := by decide +kernel
theorem dX6_make_18 : decode cX6_make 18 = .ok (.iload 5, 2) := by decide +kernel
theorem dX6_make_20 : decode cX6_make 20 = .ok (.iadd, 1) := by decide +kernel
theorem dX6_make_21 : decode cX6_make 21 = .ok (.iconst 0, 1) := by decide +kernel
theorem dX6_make_22 : decode cX6_make 22 = .ok (.iastore, 1) := by decide +kernel
theorem dX6_make_23 : decode cX6_make 23 = .ok (.iinc 5 1, 3) := by decide +kernel
theorem dX6_make_26 : decode cX6_make 26 = .ok (.goto (-23), 3) := by decide +kernel
theorem dX6_make_29 : decode cX6_make 29 = .ok (.aload_n 0, 1) := by decide +kernel
theorem dX6_make_30 : decode cX6_make 30 = .ok (.getfield 7, 3) := by decide +kernel
theorem dX6_make_33 : decode cX6_make 33 = .ok (.iload_n 1, 1) := by decide +kernel
theorem dX6_make_34 : decode cX6_make 34 = .ok (.invokestatic 30, 3) := by decide +kernel
theorem dX6_make_37 : decode cX6_make 37 = .ok (.iconst 0, 1) := by decide +kernel
theorem dX6_make_38 : decode cX6_make 38 = .ok (.iadd, 1) := by decide +kernel
theorem dX6_make_39 : decode cX6_make 39 = .ok (.iload_n 2, 1) := by decide +kernel
theorem dX6_make_40 : decode cX6_make 40 = .ok (.iastore, 1) := by decide +kernel
theorem dX6_make_41 : decode cX6_make 41 = .ok (.aload_n 0, 1) := by decide +kernel
theorem dX6_make_42 : decode cX6_make 42 = .ok (.getfield 7, 3) := by decide +kernel
theorem dX6_make_45 : decode cX6_make 45 = .ok (.iload_n 1, 1) := by decide +kernel
theorem dX6_make_46 : decode cX6_make 46 = .ok (.invokestatic 30, 3) := by decide +kernel
theorem dX6_make_49 : decode cX6_make 49 = .ok (.iconst 1, 1) := by decide +kernel
theorem dX6_make_50 : decode cX6_make 50 = .ok (.iadd, 1) := by decide +kernel
theorem dX6_make_51 : decode cX6_make 51 = .ok (.iload_n 3, 1) := by decide +kernel
theorem dX6_make_52 : decode cX6_make 52 = .ok (.iastore, 1) := by decide +kernel
theorem dX6_make_53 : decode cX6_make 53 = .ok (.aload_n 0, 1) := by decide +kernel
theorem dX6_make_54 : decode cX6_make 54 = .ok (.getfield 7, 3) := by decide +kernel
theorem dX6_make_57 : decode cX6_make 57 = .ok (.iload_n 1, 1) := by decide +kernel
theorem dX6_make_58 : decode cX6_make 58 = .ok (.invokestatic 30, 3) := by decide +kernel
theorem dX6_make_61 : decode cX6_make 61 = .ok (.iconst 2, 1) := by decide +kernel
theorem dX6_make_62 : decode cX6_make 62 = .ok (.iadd, 1) := by decide +kernel
theorem dX6_make_63 : decode cX6_make 63 = .ok (.iload 4, 2) := by decide +kernel
theorem dX6_make_65 : decode cX6_make 65 = .ok (.iastore, 1) := by decide +kernel
theorem dX6_make_66 : decode cX6_make 66 = .ok (.aload_n 0, 1) := by decide +kernel
theorem dX6_make_67 : decode cX6_make 67 = .ok (.getfield 7, 3) := by decide +kernel
theorem dX6_make_70 : decode cX6_make 70 = .ok (.iload_n 1, 1) := by decide +kernel
theorem dX6_make_71 : decode cX6_make 71 = .ok (.invokestatic 30, 3) := by decide +kernel
theorem dX6_make_74 : decode cX6_make 74 = .ok (.bipush 6, 2) := by decide +kernel
theorem dX6_make_76 : decode cX6_make 76 = .ok (.iadd, 1) := by decide +kernel
theorem dX6_make_77 : decode cX6_make 77 = .ok (.iconst (-1), 1) := by decide +kernel
theorem dX6_make_78 : decode cX6_make 78 = .ok (.iastore, 1) := by decide +kernel
theorem dX6_make_79 : decode cX6_make 79 = .ok (.aload_n 0, 1) := by decide +kernel
theorem dX6_make_80 : decode cX6_make 80 = .ok (.getfield 7, 3) := by decide +kernel
theorem dX6_make_83 : decode cX6_make 83 = .ok (.iload_n 1, 1) := by decide +kernel
theorem dX6_make_84 : decode cX6_make 84 = .ok (.invokestatic 30, 3) := by decide +kernel
theorem dX6_make_87 : decode cX6_make 87 = .ok (.bipush 7, 2) := by decide +kernel
theorem dX6_make_89 : decode cX6_make 89 = .ok (.iadd, 1) := by decide +kernel
theorem dX6_make_90 : decode cX6_make 90 = .ok (.iconst (-1), 1) := by decide +kernel
theorem dX6_make_91 : decode cX6_make 91 = .ok (.iastore, 1) := by decide +kernel
theorem dX6_make_92 : decode cX6_make 92 = .ok (.return_, 1) := by decide +kernel
def fn_X6_make_L3 (L : cp_Lay) (q : Nat) : Nat → Nat → Int32 → Int32 → Int32 → Int32 → Int32 → cp_Dt → Option (cp_Dt)
  | 0, _, _, _, _, _, _, _ => none
  | n + 1, a0, i1, i2, i3, i4, i5, D =>
    if (64 : Int32) ≤ i5 then ((cp_gR L a0 6 3).bind fun r2 =>
    (fn_X6_at L q i1 D).bind fun y3 =>
    (cp_aS L y3.2 0 r2 (y3.1 + (0 : Int32)) i2).bind fun D4 =>
    (cp_gR L a0 6 3).bind fun r5 =>
    (fn_X6_at L q i1 D4).bind fun y6 =>
    (cp_aS L y6.2 0 r5 (y6.1 + (1 : Int32)) i3).bind fun D7 =>
    (cp_gR L a0 6 3).bind fun r8 =>
    (fn_X6_at L q i1 D7).bind fun y9 =>
    (cp_aS L y9.2 0 r8 (y9.1 + (2 : Int32)) i4).bind fun D10 =>
    (cp_gR L a0 6 3).bind fun r11 =>
    (fn_X6_at L q i1 D10).bind fun y12 =>
    (cp_aS L y12.2 0 r11 (y12.1 + (6 : Int32)) (-1 : Int32)).bind fun D13 =>
    (cp_gR L a0 6 3).bind fun r14 =>
    (fn_X6_at L q i1 D13).bind fun y15 =>
    (cp_aS L y15.2 0 r14 (y15.1 + (7 : Int32)) (-1 : Int32)).bind fun D16 =>
    some D16)
    else ((cp_gR L a0 6 3).bind fun r17 =>
    (fn_X6_at L q i1 D).bind fun y18 =>
    (cp_aS L y18.2 0 r17 (y18.1 + i5) (0 : Int32)).bind fun D19 =>
    fn_X6_make_L3 L q n a0 i1 i2 i3 i4 (i5 + 1) D19)
def fn_X6_make (L : cp_Lay) (q : Nat) (k0 : Nat) (x1 : Int32) (x2 : Int32) (x3 : Int32) (x4 : Int32) (D : cp_Dt) : Option (cp_Dt) :=
  fn_X6_make_L3 L q q k0 x1 x2 x3 x4 (0 : Int32) D
set_option maxHeartbeats 4000000 in
set_option maxRecDepth 100000 in
theorem ct_X6_make (l : Launch) (G : va_G) (L : cp_Lay) (hJ : cp_J L) (q : Nat) (k0 : Nat) (x1 : Int32) (x2 : Int32) (x3 : Int32) (x4 : Int32) (D : cp_Dt) (res : cp_Dt) (hF : fn_X6_make L q k0 x1 x2 x3 x4 D = some res) : cp_Met l G yX6_make wsX6_make ({ frames := 1, cells := 0, slots := 0, locals := 20 }) L ([.ref (L.2.1 k0), .int x1, .int x2, .int x3, .int x4] : List Value) D res none := by
  refine Met.ofW (cc := cX6_make) (maxL := 6) (ret := none) (by decide) rfl ?_
  intro p e s m args below meth c s₁ B hml hv
  obtain ⟨rfl, hP, hK, hN, hZ⟩ := hv
  have hx := B.exec
  have hb := B.bytes
  have hr := B.returns
  have hts := atoms_spec (ws := wsX6_make) B.pre
  have hown : s.vm.findClass "CreaturePondModel" = some m.cls := findClass_of_methodNamed B.named
  have hlocks := B.notSynchronized
  have hS : va_S (cp_A L) s.heap s.heap [] := va_S.rf
  have htT : ∀ w ∈ cp_T, w.before ([.ref (L.2.1 k0), .int x1, .int x2, .int x3, .int x4] : List Value).toArray s = true := fun w h => hts w (List.mem_cons_of_mem _ h)
  have hl := lv_entry (([.ref (L.2.1 k0), .int x1, .int x2, .int x3, .int x4] : List Value)) (n := 6) (Nat.le_of_ble_eq_true rfl)
  rw [lg_entry_eq]
  generalize (lg_sl (([.ref (L.2.1 k0), .int x1, .int x2, .int x3, .int x4] : List Value)) ++ List.replicate (6 - (lg_sl (([.ref (L.2.1 k0), .int x1, .int x2, .int x3, .int x4] : List Value))).length) Slot.unset).toArray = ls at hl ⊢
  have hl : lv_has ls 6 [(0, .ref (L.2.1 k0)), (1, .int x1), (2, .int x2), (3, .int x3), (4, .int x4)] := hl
  have hL3 : ∀ (n : Nat) (a0 : Nat) (i1 : Int32) (i2 : Int32) (i3 : Int32) (i4 : Int32) (i5 : Int32) (D : cp_Dt) (H : Heap) (locs : List Loc) (ls : Array Slot), fn_X6_make_L3 L q n a0 i1 i2 i3 i4 i5 D = some res → va_P G vwCl (cp_ws L D) H → va_S (cp_A L) s.heap H locs → lv_has ls 6 [(0, .ref (L.2.1 a0)), (1, .int i1), (2, .int i2), (3, .int i3), (4, .int i4), (5, .int i5)] → W p l e (headSpec wsX6_make ({ frames := 1, cells := 0, slots := 0, locals := 20 })).room s m ([.ref (L.2.1 k0), .int x1, .int x2, .int x3, .int x4] : List Value).toArray below meth c H locs 0 0 (MQ below (cp_Q G L res none) ([.ref (L.2.1 k0), .int x1, .int x2, .int x3, .int x4] : List Value).toArray s 0 0 (cp_A L)) (F0 m 3 ls []) := by
    intro n
    induction n with
    | zero =>
      intro a0 i1 i2 i3 i4 i5 D H locs ls hF
      cases hF
    | succ n ih =>
      intro a0 i1 i2 i3 i4 i5 D H locs ls hF hP hS hl
      unfold fn_X6_make_L3 at hF
      refine lv_iload hx hb dX6_make_3 (lv_at hl 5 rfl) ?_
      refine lv_bipush (v := (64 : Int32)) hx hb dX6_make_5 (by decide) ?_
      refine lv_icmp_ge (tgt := 29) hx hb dX6_make_7 (by decide) (fun hc1 => ?_) (fun hc1 => ?_)
      · rw [if_pos hc1] at hF
        refine lv_aload_n hx hb dX6_make_29 rfl (lv_at hl 0 rfl) ?_
        obtain ⟨r2, er2, hF⟩ := cp_bind hF
        refine cp_getR (T := TX6) (N := 6) (ci := 6) (j := 3) hx hb htT hinX6 hown hK hP rfl (by decide) rfl (htT _ tw_378) er2 dX6_make_30 ?_
        refine lv_iload_n hx hb dX6_make_33 rfl (lv_at hl 1 rfl) ?_
        obtain ⟨y3, ey3, hF⟩ := cp_bind hF
        refine cp_call (st1 := [.int y3.1, .ref (L.2.1 r2)]) (va_runS (As := [.int i1]) (rest := [.ref (L.2.1 r2)]) ⟨hx, hb, hml, hown, htT⟩ (ct_X6_at l G L hJ q i1 D y3 ey3) ⟨callB_of 1 htT gdX6_at rfl rfl rfl (htT _ tw_8) (htT _ tw_417) hdX6_at ⟨Nat.le_of_ble_eq_true rfl, Nat.le_of_ble_eq_true rfl⟩, (htT _ tw_418)⟩ ⟨cp_blind, cp_pre hP hK hN hZ hS⟩ rfl rfl hl.1 rfl (lv_room (Nat.le_of_ble_eq_true rfl)) dX6_make_34 ⟨Nat.zero_le _, Nat.zero_le _⟩) hS (fun H locs hP hS => ?_)
        refine lv_iconst (v := (0 : Int32)) hx hb dX6_make_37 (by decide) ?_
        refine lv_iadd hx hb dX6_make_38 ?_
        refine lv_iload_n hx hb dX6_make_39 rfl (lv_at hl 2 rfl) ?_
        obtain ⟨D4, eD4, hF⟩ := cp_bind hF
        refine cp_iast hx hb hK hJ hP hS eD4 dX6_make_40 (fun H locs hP hS => ?_)
        refine lv_aload_n hx hb dX6_make_41 rfl (lv_at hl 0 rfl) ?_
        obtain ⟨r5, er5, hF⟩ := cp_bind hF
        refine cp_getR (T := TX6) (N := 6) (ci := 6) (j := 3) hx hb htT hinX6 hown hK hP rfl (by decide) rfl (htT _ tw_378) er5 dX6_make_42 ?_
        refine lv_iload_n hx hb dX6_make_45 rfl (lv_at hl 1 rfl) ?_
        obtain ⟨y6, ey6, hF⟩ := cp_bind hF
        refine cp_call (st1 := [.int y6.1, .ref (L.2.1 r5)]) (va_runS (As := [.int i1]) (rest := [.ref (L.2.1 r5)]) ⟨hx, hb, hml, hown, htT⟩ (ct_X6_at l G L hJ q i1 D4 y6 ey6) ⟨callB_of 1 htT gdX6_at rfl rfl rfl (htT _ tw_8) (htT _ tw_417) hdX6_at ⟨Nat.le_of_ble_eq_true rfl, Nat.le_of_ble_eq_true rfl⟩, (htT _ tw_418)⟩ ⟨cp_blind, cp_pre hP hK hN hZ hS⟩ rfl rfl hl.1 rfl (lv_room (Nat.le_of_ble_eq_true rfl)) dX6_make_46 ⟨Nat.zero_le _, Nat.zero_le _⟩) hS (fun H locs hP hS => ?_)
        refine lv_iconst (v := (1 : Int32)) hx hb dX6_make_49 (by decide) ?_
        refine lv_iadd hx hb dX6_make_50 ?_
        refine lv_iload_n hx hb dX6_make_51 rfl (lv_at hl 3 rfl) ?_
        obtain ⟨D7, eD7, hF⟩ := cp_bind hF
        refine cp_iast hx hb hK hJ hP hS eD7 dX6_make_52 (fun H locs hP hS => ?_)
        refine lv_aload_n hx hb dX6_make_53 rfl (lv_at hl 0 rfl) ?_
        obtain ⟨r8, er8, hF⟩ := cp_bind hF
        refine cp_getR (T := TX6) (N := 6) (ci := 6) (j := 3) hx hb htT hinX6 hown hK hP rfl (by decide) rfl (htT _ tw_378) er8 dX6_make_54 ?_
        refine lv_iload_n hx hb dX6_make_57 rfl (lv_at hl 1 rfl) ?_
        obtain ⟨y9, ey9, hF⟩ := cp_bind hF
        refine cp_call (st1 := [.int y9.1, .ref (L.2.1 r8)]) (va_runS (As := [.int i1]) (rest := [.ref (L.2.1 r8)]) ⟨hx, hb, hml, hown, htT⟩ (ct_X6_at l G L hJ q i1 D7 y9 ey9) ⟨callB_of 1 htT gdX6_at rfl rfl rfl (htT _ tw_8) (htT _ tw_417) hdX6_at ⟨Nat.le_of_ble_eq_true rfl, Nat.le_of_ble_eq_true rfl⟩, (htT _ tw_418)⟩ ⟨cp_blind, cp_pre hP hK hN hZ hS⟩ rfl rfl hl.1 rfl (lv_room (Nat.le_of_ble_eq_true rfl)) dX6_make_58 ⟨Nat.zero_le _, Nat.zero_le _⟩) hS (fun H locs hP hS => ?_)
        refine lv_iconst (v := (2 : Int32)) hx hb dX6_make_61 (by decide) ?_
        refine lv_iadd hx hb dX6_make_62 ?_
        refine lv_iload hx hb dX6_make_63 (lv_at hl 4 rfl) ?_
        obtain ⟨D10, eD10, hF⟩ := cp_bind hF
        refine cp_iast hx hb hK hJ hP hS eD10 dX6_make_65 (fun H locs hP hS => ?_)
        refine lv_aload_n hx hb dX6_make_66 rfl (lv_at hl 0 rfl) ?_
        obtain ⟨r11, er11, hF⟩ := cp_bind hF
        refine cp_getR (T := TX6) (N := 6) (ci := 6) (j := 3) hx hb htT hinX6 hown hK hP rfl (by decide) rfl (htT _ tw_378) er11 dX6_make_67 ?_
        refine lv_iload_n hx hb dX6_make_70 rfl (lv_at hl 1 rfl) ?_
        obtain ⟨y12, ey12, hF⟩ := cp_bind hF
        refine cp_call (st1 := [.int y12.1, .ref (L.2.1 r11)]) (va_runS (As := [.int i1]) (rest := [.ref (L.2.1 r11)]) ⟨hx, hb, hml, hown, htT⟩ (ct_X6_at l G L hJ q i1 D10 y12 ey12) ⟨callB_of 1 htT gdX6_at rfl rfl rfl (htT _ tw_8) (htT _ tw_417) hdX6_at ⟨Nat.le_of_ble_eq_true rfl, Nat.le_of_ble_eq_true rfl⟩, (htT _ tw_418)⟩ ⟨cp_blind, cp_pre hP hK hN hZ hS⟩ rfl rfl hl.1 rfl (lv_room (Nat.le_of_ble_eq_true rfl)) dX6_make_71 ⟨Nat.zero_le _, Nat.zero_le _⟩) hS (fun H locs hP hS => ?_)
        refine lv_bipush (v := (6 : Int32)) hx hb dX6_make_74 (by decide) ?_
        refine lv_iadd hx hb dX6_make_76 ?_
        refine lv_iconst (v := (-1 : Int32)) hx hb dX6_make_77 (by decide) ?_
        obtain ⟨D13, eD13, hF⟩ := cp_bind hF
        refine cp_iast hx hb hK hJ hP hS eD13 dX6_make_78 (fun H locs hP hS => ?_)
        refine lv_aload_n hx hb dX6_make_79 rfl (lv_at hl 0 rfl) ?_
        obtain ⟨r14, er14, hF⟩ := cp_bind hF
        refine cp_getR (T := TX6) (N := 6) (ci := 6) (j := 3) hx hb htT hinX6 hown hK hP rfl (by decide) rfl (htT _ tw_378) er14 dX6_make_80 ?_
        refine lv_iload_n hx hb dX6_make_83 rfl (lv_at hl 1 rfl) ?_
        obtain ⟨y15, ey15, hF⟩ := cp_bind hF
        refine cp_call (st1 := [.int y15.1, .ref (L.2.1 r14)]) (va_runS (As := [.int i1]) (rest := [.ref (L.2.1 r14)]) ⟨hx, hb, hml, hown, htT⟩ (ct_X6_at l G L hJ q i1 D13 y15 ey15) ⟨callB_of 1 htT gdX6_at rfl rfl rfl (htT _ tw_8) (htT _ tw_417) hdX6_at ⟨Nat.le_of_ble_eq_true rfl, Nat.le_of_ble_eq_true rfl⟩, (htT _ tw_418)⟩ ⟨cp_blind, cp_pre hP hK hN hZ hS⟩ rfl rfl hl.1 rfl (lv_room (Nat.le_of_ble_eq_true rfl)) dX6_make_84 ⟨Nat.zero_le _, Nat.zero_le _⟩) hS (fun H locs hP hS => ?_)
        refine lv_bipush (v := (7 : Int32)) hx hb dX6_make_87 (by decide) ?_
        refine lv_iadd hx hb dX6_make_89 ?_
        refine lv_iconst (v := (-1 : Int32)) hx hb dX6_make_90 (by decide) ?_
        obtain ⟨D16, eD16, hF⟩ := cp_bind hF
        refine cp_iast hx hb hK hJ hP hS eD16 dX6_make_91 (fun H locs hP hS => ?_)
        exact cp_vret hx hb hr hlocks hF hP hS dX6_make_92
      · rw [if_neg hc1] at hF
        refine lv_aload_n hx hb dX6_make_10 rfl (lv_at hl 0 rfl) ?_
        obtain ⟨r17, er17, hF⟩ := cp_bind hF
        refine cp_getR (T := TX6) (N := 6) (ci := 6) (j := 3) hx hb htT hinX6 hown hK hP rfl (by decide) rfl (htT _ tw_378) er17 dX6_make_11 ?_
        refine lv_iload_n hx hb dX6_make_14 rfl (lv_at hl 1 rfl) ?_
        obtain ⟨y18, ey18, hF⟩ := cp_bind hF
        refine cp_call (st1 := [.int y18.1, .ref (L.2.1 r17)]) (va_runS (As := [.int i1]) (rest := [.ref (L.2.1 r17)]) ⟨hx, hb, hml, hown, htT⟩ (ct_X6_at l G L hJ q i1 D y18 ey18) ⟨callB_of 1 htT gdX6_at rfl rfl rfl (htT _ tw_8) (htT _ tw_417) hdX6_at ⟨Nat.le_of_ble_eq_true rfl, Nat.le_of_ble_eq_true rfl⟩, (htT _ tw_418)⟩ ⟨cp_blind, cp_pre hP hK hN hZ hS⟩ rfl rfl hl.1 rfl (lv_room (Nat.le_of_ble_eq_true rfl)) dX6_make_15 ⟨Nat.zero_le _, Nat.zero_le _⟩) hS (fun H locs hP hS => ?_)
        refine lv_iload hx hb dX6_make_18 (lv_at hl 5 rfl) ?_
        refine lv_iadd hx hb dX6_make_20 ?_
        refine lv_iconst (v := (0 : Int32)) hx hb dX6_make_21 (by decide) ?_
        obtain ⟨D19, eD19, hF⟩ := cp_bind hF
        refine cp_iast hx hb hK hJ hP hS eD19 dX6_make_22 (fun H locs hP hS => ?_)
        refine lv_iinc (k := 5) (v := (i5 + 1)) (lv' := [(5, .int (i5 + 1)), (0, .ref (L.2.1 a0)), (1, .int i1), (2, .int i2), (3, .int i3), (4, .int i4)]) hx hb dX6_make_23 hl rfl (congrArg (fun z => i5 + z) (by decide)) (by decide) rfl (fun ls hl => ?_)
        refine lv_goto (tgt := 3) hx hb dX6_make_26 (by decide) ?_
        exact ih a0 i1 i2 i3 i4 (i5 + 1) D19 _ _ _ hF hP hS (lv_sub hl [1, 2, 3, 4, 5, 0] rfl)
  unfold fn_X6_make at hF
  refine lv_iconst (v := (0 : Int32)) hx hb dX6_make_0 (by decide) ?_
  refine lv_istore (lv' := [(5, .int (0 : Int32)), (0, .ref (L.2.1 k0)), (1, .int x1), (2, .int x2), (3, .int x3), (4, .int x4)]) hx hb dX6_make_1 hl (by decide) rfl (fun ls hl => ?_)
  exact hL3 q k0 x1 x2 x3 x4 (0 : Int32) D _ _ _ hF hP hS (lv_sub hl [1, 2, 3, 4, 5, 0] rfl)
