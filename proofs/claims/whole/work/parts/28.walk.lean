theorem dX6_live_0 : decode cX6_live 0 = .ok (.iload_n 1, 1) := by decide +kernel
theorem dX6_live_1 : decode cX6_live 1 = .ok (.invokestatic 30, 3) := by decide +kernel
theorem dX6_live_4 : decode cX6_live 4 = .ok (.istore_n 2, 1) := by decide +kernel
theorem dX6_live_5 : decode cX6_live 5 = .ok (.aload_n 0, 1) := by decide +kernel
theorem dX6_live_6 : decode cX6_live 6 = .ok (.getfield 7, 3) := by decide +kernel
theorem dX6_live_9 : decode cX6_live 9 = .ok (.iload_n 2, 1) := by decide +kernel
theorem dX6_live_10 : decode cX6_live 10 = .ok (.iconst 3, 1) := by decide +kernel
theorem dX6_live_11 : decode cX6_live 11 = .ok (.iadd, 1) := by decide +kernel
theorem dX6_live_12 : decode cX6_live 12 = .ok (.dup2, 1) := by decide +kernel
theorem dX6_live_13 : decode cX6_live 13 = .ok (.iaload, 1) := by decide +kernel
theorem dX6_live_14 : decode cX6_live 14 = .ok (.iconst 1, 1) := by decide +kernel
theorem dX6_live_15 : decode cX6_live 15 = .ok (.iadd, 1) := by decide +kernel
theorem dX6_live_16 : decode cX6_live 16 = .ok (.iastore, 1) := by decide +kernel
theorem dX6_live_17 : decode cX6_live 17 = .ok (.aload_n 0, 1) := by decide +kernel
theorem dX6_live_18 : decode cX6_live 18 = .ok (.getfield 7, 3) := by decide +kernel
theorem dX6_live_21 : decode cX6_live 21 = .ok (.iload_n 2, 1) := by decide +kernel
theorem dX6_live_22 : decode cX6_live 22 = .ok (.bipush 9, 2) := by decide +kernel
theorem dX6_live_24 : decode cX6_live 24 = .ok (.iadd, 1) := by decide +kernel
theorem dX6_live_25 : decode cX6_live 25 = .ok (.iconst 0, 1) := by decide +kernel
theorem dX6_live_26 : decode cX6_live 26 = .ok (.iastore, 1) := by decide +kernel
theorem dX6_live_27 : decode cX6_live 27 = .ok (.aload_n 0, 1) := by decide +kernel
theorem dX6_live_28 : decode cX6_live 28 = .ok (.iload_n 1, 1) := by decide +kernel
theorem dX6_live_29 : decode cX6_live 29 = .ok (.iconst 1, 1) := by decide +kernel
theorem dX6_live_30 : decode cX6_live 30 = .ok (.invokevirtual 60, 3) := by decide +kernel
theorem dX6_live_33 : decode cX6_live 33 = .ok (.aload_n 0, 1) := by decide +kernel
theorem dX6_live_34 : decode cX6_live 34 = .ok (.getfield 7, 3) := by decide +kernel
theorem dX6_live_37 : decode cX6_live 37 = .ok (.iload_n 2, 1) := by decide +kernel
theorem dX6_live_38 : decode cX6_live 38 = .ok (.iconst 5, 1) := by decide +kernel
theorem dX6_live_39 : decode cX6_live 39 = .ok (.iadd, 1) := by decide +kernel
theorem dX6_live_40 : decode cX6_live 40 = .ok (.iaload, 1) := by decide +kernel
theorem dX6_live_41 : decode cX6_live 41 = .ok (.ifCond .ne 7, 3) := by decide +kernel
theorem dX6_live_44 : decode cX6_live 44 = .ok (.iconst 1, 1) := by decide +kernel
theorem dX6_live_45 : decode cX6_live 45 = .ok (.goto 4, 3) := by decide +kernel
theorem dX6_live_48 : decode cX6_live 48 = .ok (.iconst 0, 1) := by decide +kernel
theorem dX6_live_49 : decode cX6_live 49 = .ok (.istore_n 3, 1) := by decide +kernel
theorem dX6_live_50 : decode cX6_live 50 = .ok (.iconst 0, 1) := by decide +kernel
theorem dX6_live_51 : decode cX6_live 51 = .ok (.istore 4, 2) := by decide +kernel
theorem dX6_live_53 : decode cX6_live 53 = .ok (.iload 4, 2) := by decide +kernel
theorem dX6_live_55 : decode cX6_live 55 = .ok (.bipush 8, 2) := by decide +kernel
theorem dX6_live_57 : decode cX6_live 57 = .ok (.if_icmp .ge 30, 3) := by decide +kernel
theorem dX6_live_60 : decode cX6_live 60 = .ok (.iload_n 3, 1) := by decide +kernel
theorem dX6_live_61 : decode cX6_live 61 = .ok (.ifCond .ne 26, 3) := by decide +kernel
theorem dX6_live_64 : decode cX6_live 64 = .ok (.aload_n 0, 1) := by decide +kernel
theorem dX6_live_65 : decode cX6_live 65 = .ok (.getfield 7, 3) := by decide +kernel
theorem dX6_live_68 : decode cX6_live 68 = .ok (.iload_n 2, 1) := by decide +kernel
theorem dX6_live_69 : decode cX6_live 69 = .ok (.iconst 2, 1) := by decide +kernel
theorem dX6_live_70 : decode cX6_live 70 = .ok (.iadd, 1) := by decide +kernel
theorem dX6_live_71 : decode cX6_live 71 = .ok (.iaload, 1) := by decide +kernel
theorem dX6_live_72 : decode cX6_live 72 = .ok (.ifCond .le 15, 3) := by decide +kernel
theorem dX6_live_75 : decode cX6_live 75 = .ok (.aload_n 0, 1) := by decide +kernel
theorem dX6_live_76 : decode cX6_live 76 = .ok (.iload_n 1, 1) := by decide +kernel
theorem dX6_live_77 : decode cX6_live 77 = .ok (.invokevirtual 78, 3) := by decide +kernel
theorem dX6_live_80 : decode cX6_live 80 = .ok (.istore_n 3, 1) := by decide +kernel
theorem dX6_live_81 : decode cX6_live 81 = .ok (.iinc 4 1, 3) := by decide +kernel
theorem dX6_live_84 : decode cX6_live 84 = .ok (.goto (-31), 3) := by decide +kernel
theorem dX6_live_87 : decode cX6_live 87 = .ok (.return_, 1) := by decide +kernel
def fn_X6_live_L53 (L : cp_Lay) (q : Nat) : Nat → Nat → Int32 → Int32 → Int32 → Int32 → cp_Dt → Option (cp_Dt)
  | 0, _, _, _, _, _, _ => none
  | n + 1, a0, i1, i2, i3, i4, D =>
    if (8 : Int32) ≤ i4 then (some D)
    else (if i3 = 0 then ((cp_gR L a0 6 3).bind fun r14 =>
    (cp_aI L D 0 r14 (i2 + (2 : Int32))).bind fun v15 =>
    if v15 ≤ 0 then (some D)
    else ((cp_fl L a0 6).bind fun f17 =>
    (fn_X6_operate L q a0 i1 D).bind fun y18 =>
    fn_X6_live_L53 L q n a0 i1 i2 y18.1 (i4 + 1) y18.2))
    else (some D))
def fn_X6_live (L : cp_Lay) (q : Nat) (k0 : Nat) (x1 : Int32) (D : cp_Dt) : Option (cp_Dt) :=
  (fn_X6_at L q x1 D).bind fun y1 =>
  (cp_gR L k0 6 3).bind fun r2 =>
  (cp_aI L y1.2 0 r2 (y1.1 + (3 : Int32))).bind fun v3 =>
  (cp_aS L y1.2 0 r2 (y1.1 + (3 : Int32)) (v3 + (1 : Int32))).bind fun D4 =>
  (cp_gR L k0 6 3).bind fun r5 =>
  (cp_aS L D4 0 r5 (y1.1 + (9 : Int32)) (0 : Int32)).bind fun D6 =>
  (cp_fl L k0 6).bind fun f7 =>
  (fn_X6_pay L q k0 x1 (1 : Int32) D6).bind fun D8 =>
  (cp_gR L k0 6 3).bind fun r9 =>
  (cp_aI L D8 0 r9 (y1.1 + (5 : Int32))).bind fun v10 =>
  if v10 = 0 then (fn_X6_live_L53 L q q k0 x1 y1.1 (1 : Int32) (0 : Int32) D8)
  else (fn_X6_live_L53 L q q k0 x1 y1.1 (0 : Int32) (0 : Int32) D8)
set_option maxHeartbeats 4000000 in
set_option maxRecDepth 100000 in
theorem ct_X6_live (l : Launch) (G : va_G) (L : cp_Lay) (hJ : cp_J L) (q : Nat) (k0 : Nat) (x1 : Int32) (D : cp_Dt) (res : cp_Dt) (hF : fn_X6_live L q k0 x1 D = some res) : cp_Met l G yX6_live wsX6_live ({ frames := 7, cells := 0, slots := 0, locals := 170 }) L ([.ref (L.2.1 k0), .int x1] : List Value) D res none := by
  refine Met.ofW (cc := cX6_live) (maxL := 5) (ret := none) (by decide) rfl ?_
  intro p e s m args below meth c s₁ B hml hv
  obtain ⟨rfl, hP, hK, hN, hZ⟩ := hv
  have hx := B.exec
  have hb := B.bytes
  have hr := B.returns
  have hts := atoms_spec (ws := wsX6_live) B.pre
  have hown : s.vm.findClass "CreaturePondModel" = some m.cls := findClass_of_methodNamed B.named
  have hlocks := B.notSynchronized
  have hS : va_S (cp_A L) s.heap s.heap [] := va_S.rf
  have htT : ∀ w ∈ cp_T, w.before ([.ref (L.2.1 k0), .int x1] : List Value).toArray s = true := fun w h => hts w (List.mem_cons_of_mem _ h)
  have hl := lv_entry (([.ref (L.2.1 k0), .int x1] : List Value)) (n := 5) (Nat.le_of_ble_eq_true rfl)
  rw [lg_entry_eq]
  generalize (lg_sl (([.ref (L.2.1 k0), .int x1] : List Value)) ++ List.replicate (5 - (lg_sl (([.ref (L.2.1 k0), .int x1] : List Value))).length) Slot.unset).toArray = ls at hl ⊢
  have hl : lv_has ls 5 [(0, .ref (L.2.1 k0)), (1, .int x1)] := hl
  have hL53 : ∀ (n : Nat) (a0 : Nat) (i1 : Int32) (i2 : Int32) (i3 : Int32) (i4 : Int32) (D : cp_Dt) (H : Heap) (locs : List Loc) (ls : Array Slot), fn_X6_live_L53 L q n a0 i1 i2 i3 i4 D = some res → va_P G vwCl (cp_ws L D) H → va_S (cp_A L) s.heap H locs → lv_has ls 5 [(0, .ref (L.2.1 a0)), (1, .int i1), (2, .int i2), (3, .int i3), (4, .int i4)] → W p l e (headSpec wsX6_live ({ frames := 7, cells := 0, slots := 0, locals := 170 })).room s m ([.ref (L.2.1 k0), .int x1] : List Value).toArray below meth c H locs 0 0 (MQ below (cp_Q G L res none) ([.ref (L.2.1 k0), .int x1] : List Value).toArray s 0 0 (cp_A L)) (F0 m 53 ls []) := by
    intro n
    induction n with
    | zero =>
      intro a0 i1 i2 i3 i4 D H locs ls hF
      cases hF
    | succ n ih =>
      intro a0 i1 i2 i3 i4 D H locs ls hF hP hS hl
      unfold fn_X6_live_L53 at hF
      refine lv_iload hx hb dX6_live_53 (lv_at hl 4 rfl) ?_
      refine lv_bipush (v := (8 : Int32)) hx hb dX6_live_55 (by decide) ?_
      refine lv_icmp_ge (tgt := 87) hx hb dX6_live_57 (by decide) (fun hc12 => ?_) (fun hc12 => ?_)
      · rw [if_pos hc12] at hF
        exact cp_vret hx hb hr hlocks hF hP hS dX6_live_87
      · rw [if_neg hc12] at hF
        refine lv_iload_n hx hb dX6_live_60 rfl (lv_at hl 3 rfl) ?_
        refine lv_if_ne (tgt := 87) hx hb dX6_live_61 (by decide) (fun hc13 => ?_) (fun hc13 => ?_)
        · rw [if_neg hc13] at hF
          exact cp_vret hx hb hr hlocks hF hP hS dX6_live_87
        · rw [if_pos hc13] at hF
          refine lv_aload_n hx hb dX6_live_64 rfl (lv_at hl 0 rfl) ?_
          obtain ⟨r14, er14, hF⟩ := cp_bind hF
          refine cp_getR (T := TX6) (N := 6) (ci := 6) (j := 3) hx hb htT hinX6 hown hK hP rfl (by decide) rfl (htT _ tw_378) er14 dX6_live_65 ?_
          refine lv_iload_n hx hb dX6_live_68 rfl (lv_at hl 2 rfl) ?_
          refine lv_iconst (v := (2 : Int32)) hx hb dX6_live_69 (by decide) ?_
          refine lv_iadd hx hb dX6_live_70 ?_
          obtain ⟨v15, ev15, hF⟩ := cp_bind hF
          refine cp_iald hx hb hK hP ev15 dX6_live_71 ?_
          refine lv_if_le (tgt := 87) hx hb dX6_live_72 (by decide) (fun hc16 => ?_) (fun hc16 => ?_)
          · rw [if_pos hc16] at hF
            exact cp_vret hx hb hr hlocks hF hP hS dX6_live_87
          · rw [if_neg hc16] at hF
            refine lv_aload_n hx hb dX6_live_75 rfl (lv_at hl 0 rfl) ?_
            refine lv_iload_n hx hb dX6_live_76 rfl (lv_at hl 1 rfl) ?_
            obtain ⟨f17, ef17, hF⟩ := cp_bind hF
            obtain ⟨y18, ey18, hF⟩ := cp_bind hF
            refine cp_call (st1 := [.int y18.1]) (va_runV (As := [.int i1]) (rest := []) ⟨hx, hb, hml, hown, htT⟩ (ct_X6_operate l G L hJ q a0 i1 D y18 ey18) ⟨callB_of 1 htT gdX6_operate rfl rfl rfl (htT _ tw_8) (htT _ tw_452) hdX6_operate ⟨Nat.le_of_ble_eq_true rfl, Nat.le_of_ble_eq_true rfl⟩, (htT _ tw_453), (htT _ tw_582)⟩ ⟨cp_blind, cp_recv hK hP rfl ef17, cp_pre hP hK hN hZ hS⟩ rfl rfl hl.1 rfl (lv_room (Nat.le_of_ble_eq_true rfl)) dX6_live_77 ⟨Nat.zero_le _, Nat.zero_le _⟩) hS (fun H locs hP hS => ?_)
            refine lv_istore_n (lv' := [(3, .int y18.1), (0, .ref (L.2.1 a0)), (1, .int i1), (2, .int i2), (4, .int i4)]) hx hb dX6_live_80 rfl hl (by decide) rfl (fun ls hl => ?_)
            refine lv_iinc (k := 4) (v := (i4 + 1)) (lv' := [(4, .int (i4 + 1)), (3, .int y18.1), (0, .ref (L.2.1 a0)), (1, .int i1), (2, .int i2)]) hx hb dX6_live_81 hl rfl (congrArg (fun z => i4 + z) (by decide)) (by decide) rfl (fun ls hl => ?_)
            refine lv_goto (tgt := 53) hx hb dX6_live_84 (by decide) ?_
            exact ih a0 i1 i2 y18.1 (i4 + 1) y18.2 _ _ _ hF hP hS (lv_sub hl [2, 3, 4, 1, 0] rfl)
  unfold fn_X6_live at hF
  refine lv_iload_n hx hb dX6_live_0 rfl (lv_at hl 1 rfl) ?_
  obtain ⟨y1, ey1, hF⟩ := cp_bind hF
  refine cp_call (st1 := [.int y1.1]) (va_runS (As := [.int x1]) (rest := []) ⟨hx, hb, hml, hown, htT⟩ (ct_X6_at l G L hJ q x1 D y1 ey1) ⟨callB_of 1 htT gdX6_at rfl rfl rfl (htT _ tw_8) (htT _ tw_417) hdX6_at ⟨Nat.le_of_ble_eq_true rfl, Nat.le_of_ble_eq_true rfl⟩, (htT _ tw_418)⟩ ⟨cp_blind, cp_pre hP hK hN hZ hS⟩ rfl rfl hl.1 rfl (lv_room (Nat.le_of_ble_eq_true rfl)) dX6_live_1 ⟨Nat.zero_le _, Nat.zero_le _⟩) hS (fun H locs hP hS => ?_)
  refine lv_istore_n (lv' := [(2, .int y1.1), (0, .ref (L.2.1 k0)), (1, .int x1)]) hx hb dX6_live_4 rfl hl (by decide) rfl (fun ls hl => ?_)
  refine lv_aload_n hx hb dX6_live_5 rfl (lv_at hl 1 rfl) ?_
  obtain ⟨r2, er2, hF⟩ := cp_bind hF
  refine cp_getR (T := TX6) (N := 6) (ci := 6) (j := 3) hx hb htT hinX6 hown hK hP rfl (by decide) rfl (htT _ tw_378) er2 dX6_live_6 ?_
  refine lv_iload_n hx hb dX6_live_9 rfl (lv_at hl 0 rfl) ?_
  refine lv_iconst (v := (3 : Int32)) hx hb dX6_live_10 (by decide) ?_
  refine lv_iadd hx hb dX6_live_11 ?_
  refine lv_dup2_11 hx hb dX6_live_12 rfl rfl ?_
  obtain ⟨v3, ev3, hF⟩ := cp_bind hF
  refine cp_iald hx hb hK hP ev3 dX6_live_13 ?_
  refine lv_iconst (v := (1 : Int32)) hx hb dX6_live_14 (by decide) ?_
  refine lv_iadd hx hb dX6_live_15 ?_
  obtain ⟨D4, eD4, hF⟩ := cp_bind hF
  refine cp_iast hx hb hK hJ hP hS eD4 dX6_live_16 (fun H locs hP hS => ?_)
  refine lv_aload_n hx hb dX6_live_17 rfl (lv_at hl 1 rfl) ?_
  obtain ⟨r5, er5, hF⟩ := cp_bind hF
  refine cp_getR (T := TX6) (N := 6) (ci := 6) (j := 3) hx hb htT hinX6 hown hK hP rfl (by decide) rfl (htT _ tw_378) er5 dX6_live_18 ?_
  refine lv_iload_n hx hb dX6_live_21 rfl (lv_at hl 0 rfl) ?_
  refine lv_bipush (v := (9 : Int32)) hx hb dX6_live_22 (by decide) ?_
  refine lv_iadd hx hb dX6_live_24 ?_
  refine lv_iconst (v := (0 : Int32)) hx hb dX6_live_25 (by decide) ?_
  obtain ⟨D6, eD6, hF⟩ := cp_bind hF
  refine cp_iast hx hb hK hJ hP hS eD6 dX6_live_26 (fun H locs hP hS => ?_)
  refine lv_aload_n hx hb dX6_live_27 rfl (lv_at hl 1 rfl) ?_
  refine lv_iload_n hx hb dX6_live_28 rfl (lv_at hl 2 rfl) ?_
  refine lv_iconst (v := (1 : Int32)) hx hb dX6_live_29 (by decide) ?_
  obtain ⟨f7, ef7, hF⟩ := cp_bind hF
  obtain ⟨D8, eD8, hF⟩ := cp_bind hF
  refine cp_call (st1 := []) (va_runV (As := [.int x1, .int (1 : Int32)]) (rest := []) ⟨hx, hb, hml, hown, htT⟩ (ct_X6_pay l G L hJ q k0 x1 (1 : Int32) D6 D8 eD8) ⟨callB_of 2 htT gdX6_pay rfl rfl rfl (htT _ tw_8) (htT _ tw_446) hdX6_pay ⟨Nat.le_of_ble_eq_true rfl, Nat.le_of_ble_eq_true rfl⟩, (htT _ tw_447), (htT _ tw_581)⟩ ⟨cp_blind, cp_recv hK hP rfl ef7, cp_pre hP hK hN hZ hS⟩ rfl rfl hl.1 rfl (lv_room (Nat.le_of_ble_eq_true rfl)) dX6_live_30 ⟨Nat.zero_le _, Nat.zero_le _⟩) hS (fun H locs hP hS => ?_)
  refine lv_aload_n hx hb dX6_live_33 rfl (lv_at hl 1 rfl) ?_
  obtain ⟨r9, er9, hF⟩ := cp_bind hF
  refine cp_getR (T := TX6) (N := 6) (ci := 6) (j := 3) hx hb htT hinX6 hown hK hP rfl (by decide) rfl (htT _ tw_378) er9 dX6_live_34 ?_
  refine lv_iload_n hx hb dX6_live_37 rfl (lv_at hl 0 rfl) ?_
  refine lv_iconst (v := (5 : Int32)) hx hb dX6_live_38 (by decide) ?_
  refine lv_iadd hx hb dX6_live_39 ?_
  obtain ⟨v10, ev10, hF⟩ := cp_bind hF
  refine cp_iald hx hb hK hP ev10 dX6_live_40 ?_
  refine lv_if_ne (tgt := 48) hx hb dX6_live_41 (by decide) (fun hc11 => ?_) (fun hc11 => ?_)
  · rw [if_neg hc11] at hF
    refine lv_iconst (v := (0 : Int32)) hx hb dX6_live_48 (by decide) ?_
    refine lv_istore_n (lv' := [(3, .int (0 : Int32)), (2, .int y1.1), (0, .ref (L.2.1 k0)), (1, .int x1)]) hx hb dX6_live_49 rfl hl (by decide) rfl (fun ls hl => ?_)
    refine lv_iconst (v := (0 : Int32)) hx hb dX6_live_50 (by decide) ?_
    refine lv_istore (lv' := [(4, .int (0 : Int32)), (3, .int (0 : Int32)), (2, .int y1.1), (0, .ref (L.2.1 k0)), (1, .int x1)]) hx hb dX6_live_51 hl (by decide) rfl (fun ls hl => ?_)
    exact hL53 q k0 x1 y1.1 (0 : Int32) (0 : Int32) D8 _ _ _ hF hP hS (lv_sub hl [3, 4, 2, 1, 0] rfl)
  · rw [if_pos hc11] at hF
    refine lv_iconst (v := (1 : Int32)) hx hb dX6_live_44 (by decide) ?_
    refine lv_goto (tgt := 49) hx hb dX6_live_45 (by decide) ?_
    refine lv_istore_n (lv' := [(3, .int (1 : Int32)), (2, .int y1.1), (0, .ref (L.2.1 k0)), (1, .int x1)]) hx hb dX6_live_49 rfl hl (by decide) rfl (fun ls hl => ?_)
    refine lv_iconst (v := (0 : Int32)) hx hb dX6_live_50 (by decide) ?_
    refine lv_istore (lv' := [(4, .int (0 : Int32)), (3, .int (1 : Int32)), (2, .int y1.1), (0, .ref (L.2.1 k0)), (1, .int x1)]) hx hb dX6_live_51 hl (by decide) rfl (fun ls hl => ?_)
    exact hL53 q k0 x1 y1.1 (1 : Int32) (0 : Int32) D8 _ _ _ hF hP hS (lv_sub hl [3, 4, 2, 1, 0] rfl)
theorem dX6_pass_0 : decode cX6_pass 0 = .ok (.aload_n 0, 1) := by decide +kernel
theorem dX6_pass_1 : decode cX6_pass 1 = .ok (.invokevirtual 95, 3) := by decide +kernel
theorem dX6_pass_4 : decode cX6_pass 4 = .ok (.iconst 0, 1) := by decide +kernel
theorem dX6_pass_5 : decode cX6_pass 5 = .ok (.istore_n 1, 1) := by decide +kernel
theorem dX6_pass_6 : decode cX6_pass 6 = .ok (.iload_n 1, 1) := by decide +kernel
theorem dX6_pass_7 : decode cX6_pass 7 = .ok (.bipush 16, 2) := by decide +kernel
theorem dX6_pass_9 : decode cX6_pass 9 = .ok (.if_icmp .ge 22, 3) := by decide +kernel
theorem dX6_pass_12 : decode cX6_pass 12 = .ok (.aload_n 0, 1) := by decide +kernel
theorem dX6_pass_13 : decode cX6_pass 13 = .ok (.iload_n 1, 1) := by decide +kernel
theorem dX6_pass_14 : decode cX6_pass 14 = .ok (.invokevirtual 34, 3) := by decide +kernel
theorem dX6_pass_17 : decode cX6_pass 17 = .ok (.ifCond .eq 8, 3) := by decide +kernel
theorem dX6_pass_20 : decode cX6_pass 20 = .ok (.aload_n 0, 1) := by decide +kernel
theorem dX6_pass_21 : decode cX6_pass 21 = .ok (.iload_n 1, 1) := by decide +kernel
theorem dX6_pass_22 : decode cX6_pass 22 = .ok (.invokevirtual 98, 3) := by decide +kernel
theorem dX6_pass_25 : decode cX6_pass 25 = .ok (.iinc 1 1, 3) := by decide +kernel
theorem dX6_pass_28 : decode cX6_pass 28 = .ok (.goto (-22), 3) := by decide +kernel
theorem dX6_pass_31 : decode cX6_pass 31 = .ok (.iconst 0, 1) := by decide +kernel
theorem dX6_pass_32 : decode cX6_pass 32 = .ok (.istore_n 1, 1) := by decide +kernel
theorem dX6_pass_33 : decode cX6_pass 33 = .ok (.iload_n 1, 1) := by decide +kernel
theorem dX6_pass_34 : decode cX6_pass 34 = .ok (.bipush 16, 2) := by decide +kernel
theorem dX6_pass_36 : decode cX6_pass 36 = .ok (.if_icmp .ge 87, 3) := by decide +kernel
theorem dX6_pass_39 : decode cX6_pass 39 = .ok (.aload_n 0, 1) := by decide +kernel
theorem dX6_pass_40 : decode cX6_pass 40 = .ok (.iload_n 1, 1) := by decide +kernel
theorem dX6_pass_41 : decode cX6_pass 41 = .ok (.invokevirtual 34, 3) := by decide +kernel
theorem dX6_pass_44 : decode cX6_pass 44 = .ok (.ifCond .eq 31, 3) := by decide +kernel
theorem dX6_pass_47 : decode cX6_pass 47 = .ok (.aload_n 0, 1) := by decide +kernel
theorem dX6_pass_48 : decode cX6_pass 48 = .ok (.getfield 7, 3) := by decide +kernel
theorem dX6_pass_51 : decode cX6_pass 51 = .ok (.iload_n 1, 1) := by decide +kernel
theorem dX6_pass_52 : decode cX6_pass 52 = .ok (.invokestatic 30, 3) := by decide +kernel
theorem dX6_pass_55 : decode cX6_pass 55 = .ok (.bipush 9, 2) := by decide +kernel
theorem dX6_pass_57 : decode cX6_pass 57 = .ok (.iadd, 1) := by decide +kernel
theorem dX6_pass_58 : decode cX6_pass 58 = .ok (.iaload, 1) := by decide +kernel
theorem dX6_pass_59 : decode cX6_pass 59 = .ok (.iconst 1, 1) := by decide +kernel
theorem dX6_pass_60 : decode cX6_pass 60 = .ok (.if_icmp .ne 15, 3) := by decide +kernel
theorem dX6_pass_63 : decode cX6_pass 63 = .ok (.aload_n 0, 1) := by decide +kernel
theorem dX6_pass_64 : decode cX6_pass 64 = .ok (.aload_n 0, 1) := by decide +kernel
theorem dX6_pass_65 : decode cX6_pass 65 = .ok (.iload_n 1, 1) := by decide +kernel
theorem dX6_pass_66 : decode cX6_pass 66 = .ok (.invokevirtual 48, 3) := by decide +kernel
theorem dX6_pass_69 : decode cX6_pass 69 = .ok (.invokevirtual 51, 3) := by decide +kernel
theorem dX6_pass_72 : decode cX6_pass 72 = .ok (.goto 4, 3) := by decide +kernel
theorem dX6_pass_75 : decode cX6_pass 75 = .ok (.iconst (-1), 1) := by decide +kernel
theorem dX6_pass_76 : decode cX6_pass 76 = .ok (.istore_n 2, 1) := by decide +kernel
theorem dX6_pass_77 : decode cX6_pass 77 = .ok (.iload_n 2, 1) := by decide +kernel
theorem dX6_pass_78 : decode cX6_pass 78 = .ok (.iload_n 1, 1) := by decide +kernel
theorem dX6_pass_79 : decode cX6_pass 79 = .ok (.if_icmp .le 38, 3) := by decide +kernel
theorem dX6_pass_82 : decode cX6_pass 82 = .ok (.aload_n 0, 1) := by decide +kernel
theorem dX6_pass_83 : decode cX6_pass 83 = .ok (.getfield 7, 3) := by decide +kernel
theorem dX6_pass_86 : decode cX6_pass 86 = .ok (.iload_n 2, 1) := by decide +kernel
theorem dX6_pass_87 : decode cX6_pass 87 = .ok (.invokestatic 30, 3) := by decide +kernel
theorem dX6_pass_90 : decode cX6_pass 90 = .ok (.bipush 9, 2) := by decide +kernel
theorem dX6_pass_92 : decode cX6_pass 92 = .ok (.iadd, 1) := by decide +kernel
theorem dX6_pass_93 : decode cX6_pass 93 = .ok (.iaload, 1) := by decide +kernel
theorem dX6_pass_94 : decode cX6_pass 94 = .ok (.iconst 1, 1) := by decide +kernel
theorem dX6_pass_95 : decode cX6_pass 95 = .ok (.if_icmp .ne 22, 3) := by decide +kernel
theorem dX6_pass_98 : decode cX6_pass 98 = .ok (.aload_n 0, 1) := by decide +kernel
theorem dX6_pass_99 : decode cX6_pass 99 = .ok (.aload_n 0, 1) := by decide +kernel
theorem dX6_pass_100 : decode cX6_pass 100 = .ok (.iload_n 2, 1) := by decide +kernel
theorem dX6_pass_101 : decode cX6_pass 101 = .ok (.invokevirtual 48, 3) := by decide +kernel
theorem dX6_pass_104 : decode cX6_pass 104 = .ok (.invokevirtual 51, 3) := by decide +kernel
theorem dX6_pass_107 : decode cX6_pass 107 = .ok (.iload_n 1, 1) := by decide +kernel
theorem dX6_pass_108 : decode cX6_pass 108 = .ok (.if_icmp .ne 9, 3) := by decide +kernel
theorem dX6_pass_111 : decode cX6_pass 111 = .ok (.aload_n 0, 1) := by decide +kernel
theorem dX6_pass_112 : decode cX6_pass 112 = .ok (.iload_n 1, 1) := by decide +kernel
theorem dX6_pass_113 : decode cX6_pass 113 = .ok (.iload_n 2, 1) := by decide +kernel
theorem dX6_pass_114 : decode cX6_pass 114 = .ok (.invokevirtual 102, 3) := by decide +kernel
theorem dX6_pass_117 : decode cX6_pass 117 = .ok (.iinc 1 1, 3) := by decide +kernel
theorem dX6_pass_120 : decode cX6_pass 120 = .ok (.goto (-87), 3) := by decide +kernel
theorem dX6_pass_123 : decode cX6_pass 123 = .ok (.iconst 0, 1) := by decide +kernel
theorem dX6_pass_124 : decode cX6_pass 124 = .ok (.istore_n 1, 1) := by decide +kernel
theorem dX6_pass_125 : decode cX6_pass 125 = .ok (.iload_n 1, 1) := by decide +kernel
theorem dX6_pass_126 : decode cX6_pass 126 = .ok (.bipush 16, 2) := by decide +kernel
theorem dX6_pass_128 : decode cX6_pass 128 = .ok (.if_icmp .ge 22, 3) := by decide +kernel
theorem dX6_pass_131 : decode cX6_pass 131 = .ok (.aload_n 0, 1) := by decide +kernel
theorem dX6_pass_132 : decode cX6_pass 132 = .ok (.iload_n 1, 1) := by decide +kernel
theorem dX6_pass_133 : decode cX6_pass 133 = .ok (.invokevirtual 34, 3) := by decide +kernel
theorem dX6_pass_136 : decode cX6_pass 136 = .ok (.ifCond .eq 8, 3) := by decide +kernel
theorem dX6_pass_139 : decode cX6_pass 139 = .ok (.aload_n 0, 1) := by decide +kernel
theorem dX6_pass_140 : decode cX6_pass 140 = .ok (.iload_n 1, 1) := by decide +kernel
theorem dX6_pass_141 : decode cX6_pass 141 = .ok (.invokevirtual 105, 3) := by decide +kernel
theorem dX6_pass_144 : decode cX6_pass 144 = .ok (.iinc 1 1, 3) := by decide +kernel
theorem dX6_pass_147 : decode cX6_pass 147 = .ok (.goto (-22), 3) := by decide +kernel
theorem dX6_pass_150 : decode cX6_pass 150 = .ok (.aload_n 0, 1) := by decide +kernel
theorem dX6_pass_151 : decode cX6_pass 151 = .ok (.getfield 7, 3) := by decide +kernel
theorem dX6_pass_154 : decode cX6_pass 154 = .ok (.sipush 1230, 3) := by decide +kernel
theorem dX6_pass_157 : decode cX6_pass 157 = .ok (.dup2, 1) := by decide +kernel
theorem dX6_pass_158 : decode cX6_pass 158 = .ok (.iaload, 1) := by decide +kernel
theorem dX6_pass_159 : decode cX6_pass 159 = .ok (.iconst 1, 1) := by decide +kernel
theorem dX6_pass_160 : decode cX6_pass 160 = .ok (.iadd, 1) := by decide +kernel
theorem dX6_pass_161 : decode cX6_pass 161 = .ok (.iastore, 1) := by decide +kernel
theorem dX6_pass_162 : decode cX6_pass 162 = .ok (.return_, 1) := by decide +kernel
def fn_X6_pass_L125 (L : cp_Lay) (q : Nat) : Nat → Nat → Int32 → cp_Dt → Option (cp_Dt)
  | 0, _, _, _ => none
  | n + 1, a0, i1, D =>
    if (16 : Int32) ≤ i1 then ((cp_gR L a0 6 3).bind fun r58 =>
    (cp_aI L D 0 r58 (1230 : Int32)).bind fun v59 =>
    (cp_aS L D 0 r58 (1230 : Int32) (v59 + (1 : Int32))).bind fun D60 =>
    some D60)
    else ((cp_fl L a0 6).bind fun f61 =>
    (fn_X6_lives L q a0 i1 D).bind fun y62 =>
    if y62.1 = 0 then (fn_X6_pass_L125 L q n a0 (i1 + 1) y62.2)
    else ((cp_fl L a0 6).bind fun f64 =>
    (fn_X6_die L q a0 i1 y62.2).bind fun D65 =>
    fn_X6_pass_L125 L q n a0 (i1 + 1) D65))
def fn_X6_pass_L33 (L : cp_Lay) (q : Nat) : Nat → Nat → Int32 → cp_Dt → Option (cp_Dt)
  | 0, _, _, _ => none
  | n + 1, a0, i1, D =>
    if (16 : Int32) ≤ i1 then (fn_X6_pass_L125 L q q a0 (0 : Int32) D)
    else ((cp_fl L a0 6).bind fun f10 =>
    (fn_X6_lives L q a0 i1 D).bind fun y11 =>
    if y11.1 = 0 then (if (-1 : Int32) ≤ i1 then (fn_X6_pass_L33 L q n a0 (i1 + 1) y11.2)
    else ((cp_gR L a0 6 3).bind fun r14 =>
    (fn_X6_at L q (-1 : Int32) y11.2).bind fun y15 =>
    (cp_aI L y15.2 0 r14 (y15.1 + (9 : Int32))).bind fun v16 =>
    if v16 = (1 : Int32) then ((cp_fl L a0 6).bind fun f18 =>
    (fn_X6_ahead L q a0 (-1 : Int32) y15.2).bind fun y19 =>
    (cp_fl L a0 6).bind fun f20 =>
    (fn_X6_inCell L q a0 y19.1 y19.2).bind fun y21 =>
    if y21.1 = i1 then ((cp_fl L a0 6).bind fun f23 =>
    (fn_X6_breed L q a0 i1 (-1 : Int32) y21.2).bind fun D24 =>
    fn_X6_pass_L33 L q n a0 (i1 + 1) D24)
    else (fn_X6_pass_L33 L q n a0 (i1 + 1) y21.2))
    else (fn_X6_pass_L33 L q n a0 (i1 + 1) y15.2)))
    else ((cp_gR L a0 6 3).bind fun r25 =>
    (fn_X6_at L q i1 y11.2).bind fun y26 =>
    (cp_aI L y26.2 0 r25 (y26.1 + (9 : Int32))).bind fun v27 =>
    if v27 = (1 : Int32) then ((cp_fl L a0 6).bind fun f41 =>
    (fn_X6_ahead L q a0 i1 y26.2).bind fun y42 =>
    (cp_fl L a0 6).bind fun f43 =>
    (fn_X6_inCell L q a0 y42.1 y42.2).bind fun y44 =>
    if y44.1 ≤ i1 then (fn_X6_pass_L33 L q n a0 (i1 + 1) y44.2)
    else ((cp_gR L a0 6 3).bind fun r46 =>
    (fn_X6_at L q y44.1 y44.2).bind fun y47 =>
    (cp_aI L y47.2 0 r46 (y47.1 + (9 : Int32))).bind fun v48 =>
    if v48 = (1 : Int32) then ((cp_fl L a0 6).bind fun f50 =>
    (fn_X6_ahead L q a0 y44.1 y47.2).bind fun y51 =>
    (cp_fl L a0 6).bind fun f52 =>
    (fn_X6_inCell L q a0 y51.1 y51.2).bind fun y53 =>
    if y53.1 = i1 then ((cp_fl L a0 6).bind fun f55 =>
    (fn_X6_breed L q a0 i1 y44.1 y53.2).bind fun D56 =>
    fn_X6_pass_L33 L q n a0 (i1 + 1) D56)
    else (fn_X6_pass_L33 L q n a0 (i1 + 1) y53.2))
    else (fn_X6_pass_L33 L q n a0 (i1 + 1) y47.2)))
    else (if (-1 : Int32) ≤ i1 then (fn_X6_pass_L33 L q n a0 (i1 + 1) y26.2)
    else ((cp_gR L a0 6 3).bind fun r30 =>
    (fn_X6_at L q (-1 : Int32) y26.2).bind fun y31 =>
    (cp_aI L y31.2 0 r30 (y31.1 + (9 : Int32))).bind fun v32 =>
    if v32 = (1 : Int32) then ((cp_fl L a0 6).bind fun f34 =>
    (fn_X6_ahead L q a0 (-1 : Int32) y31.2).bind fun y35 =>
    (cp_fl L a0 6).bind fun f36 =>
    (fn_X6_inCell L q a0 y35.1 y35.2).bind fun y37 =>
    if y37.1 = i1 then ((cp_fl L a0 6).bind fun f39 =>
    (fn_X6_breed L q a0 i1 (-1 : Int32) y37.2).bind fun D40 =>
    fn_X6_pass_L33 L q n a0 (i1 + 1) D40)
    else (fn_X6_pass_L33 L q n a0 (i1 + 1) y37.2))
    else (fn_X6_pass_L33 L q n a0 (i1 + 1) y31.2)))))
def fn_X6_pass_L6 (L : cp_Lay) (q : Nat) : Nat → Nat → Int32 → cp_Dt → Option (cp_Dt)
  | 0, _, _, _ => none
  | n + 1, a0, i1, D =>
    if (16 : Int32) ≤ i1 then (fn_X6_pass_L33 L q q a0 (0 : Int32) D)
    else ((cp_fl L a0 6).bind fun f4 =>
    (fn_X6_lives L q a0 i1 D).bind fun y5 =>
    if y5.1 = 0 then (fn_X6_pass_L6 L q n a0 (i1 + 1) y5.2)
    else ((cp_fl L a0 6).bind fun f7 =>
    (fn_X6_live L q a0 i1 y5.2).bind fun D8 =>
    fn_X6_pass_L6 L q n a0 (i1 + 1) D8))
def fn_X6_pass (L : cp_Lay) (q : Nat) (k0 : Nat) (D : cp_Dt) : Option (cp_Dt) :=
  (cp_fl L k0 6).bind fun f1 =>
  (fn_X6_shine L q k0 D).bind fun D2 =>
  fn_X6_pass_L6 L q q k0 (0 : Int32) D2
set_option maxHeartbeats 4000000 in
set_option maxRecDepth 100000 in
theorem ct_X6_pass (l : Launch) (G : va_G) (L : cp_Lay) (hJ : cp_J L) (q : Nat) (k0 : Nat) (D : cp_Dt) (res : cp_Dt) (hF : fn_X6_pass L q k0 D = some res) : cp_Met l G yX6_pass wsX6_pass ({ frames := 8, cells := 0, slots := 0, locals := 194 }) L ([.ref (L.2.1 k0)] : List Value) D res none := by
  refine Met.ofW (cc := cX6_pass) (maxL := 3) (ret := none) (by decide) rfl ?_
  intro p e s m args below meth c s₁ B hml hv
  obtain ⟨rfl, hP, hK, hN, hZ⟩ := hv
  have hx := B.exec
  have hb := B.bytes
  have hr := B.returns
  have hts := atoms_spec (ws := wsX6_pass) B.pre
  have hown : s.vm.findClass "CreaturePondModel" = some m.cls := findClass_of_methodNamed B.named
  have hlocks := B.notSynchronized
  have hS : va_S (cp_A L) s.heap s.heap [] := va_S.rf
  have htT : ∀ w ∈ cp_T, w.before ([.ref (L.2.1 k0)] : List Value).toArray s = true := fun w h => hts w (List.mem_cons_of_mem _ h)
  have hl := lv_entry (([.ref (L.2.1 k0)] : List Value)) (n := 3) (Nat.le_of_ble_eq_true rfl)
  rw [lg_entry_eq]
  generalize (lg_sl (([.ref (L.2.1 k0)] : List Value)) ++ List.replicate (3 - (lg_sl (([.ref (L.2.1 k0)] : List Value))).length) Slot.unset).toArray = ls at hl ⊢
  have hl : lv_has ls 3 [(0, .ref (L.2.1 k0))] := hl
  have hL125 : ∀ (n : Nat) (a0 : Nat) (i1 : Int32) (D : cp_Dt) (H : Heap) (locs : List Loc) (ls : Array Slot), fn_X6_pass_L125 L q n a0 i1 D = some res → va_P G vwCl (cp_ws L D) H → va_S (cp_A L) s.heap H locs → lv_has ls 3 [(0, .ref (L.2.1 a0)), (1, .int i1)] → W p l e (headSpec wsX6_pass ({ frames := 8, cells := 0, slots := 0, locals := 194 })).room s m ([.ref (L.2.1 k0)] : List Value).toArray below meth c H locs 0 0 (MQ below (cp_Q G L res none) ([.ref (L.2.1 k0)] : List Value).toArray s 0 0 (cp_A L)) (F0 m 125 ls []) := by
    intro n
    induction n with
    | zero =>
      intro a0 i1 D H locs ls hF
      cases hF
    | succ n ih =>
      intro a0 i1 D H locs ls hF hP hS hl
      unfold fn_X6_pass_L125 at hF
      refine lv_iload_n hx hb dX6_pass_125 rfl (lv_at hl 1 rfl) ?_
      refine lv_bipush (v := (16 : Int32)) hx hb dX6_pass_126 (by decide) ?_
      refine lv_icmp_ge (tgt := 150) hx hb dX6_pass_128 (by decide) (fun hc57 => ?_) (fun hc57 => ?_)
      · rw [if_pos hc57] at hF
        refine lv_aload_n hx hb dX6_pass_150 rfl (lv_at hl 0 rfl) ?_
        obtain ⟨r58, er58, hF⟩ := cp_bind hF
        refine cp_getR (T := TX6) (N := 6) (ci := 6) (j := 3) hx hb htT hinX6 hown hK hP rfl (by decide) rfl (htT _ tw_378) er58 dX6_pass_151 ?_
        refine lv_sipush (v := (1230 : Int32)) hx hb dX6_pass_154 (by decide) ?_
        refine lv_dup2_11 hx hb dX6_pass_157 rfl rfl ?_
        obtain ⟨v59, ev59, hF⟩ := cp_bind hF
        refine cp_iald hx hb hK hP ev59 dX6_pass_158 ?_
        refine lv_iconst (v := (1 : Int32)) hx hb dX6_pass_159 (by decide) ?_
        refine lv_iadd hx hb dX6_pass_160 ?_
        obtain ⟨D60, eD60, hF⟩ := cp_bind hF
        refine cp_iast hx hb hK hJ hP hS eD60 dX6_pass_161 (fun H locs hP hS => ?_)
        exact cp_vret hx hb hr hlocks hF hP hS dX6_pass_162
      · rw [if_neg hc57] at hF
        refine lv_aload_n hx hb dX6_pass_131 rfl (lv_at hl 0 rfl) ?_
        refine lv_iload_n hx hb dX6_pass_132 rfl (lv_at hl 1 rfl) ?_
        obtain ⟨f61, ef61, hF⟩ := cp_bind hF
        obtain ⟨y62, ey62, hF⟩ := cp_bind hF
        refine cp_call (st1 := [.int y62.1]) (va_runV (As := [.int i1]) (rest := []) ⟨hx, hb, hml, hown, htT⟩ (ct_X6_lives l G L hJ q a0 i1 D y62 ey62) ⟨callB_of 1 htT gdX6_lives rfl rfl rfl (htT _ tw_8) (htT _ tw_423) hdX6_lives ⟨Nat.le_of_ble_eq_true rfl, Nat.le_of_ble_eq_true rfl⟩, (htT _ tw_424), (htT _ tw_576)⟩ ⟨cp_blind, cp_recv hK hP rfl ef61, cp_pre hP hK hN hZ hS⟩ rfl rfl hl.1 rfl (lv_room (Nat.le_of_ble_eq_true rfl)) dX6_pass_133 ⟨Nat.zero_le _, Nat.zero_le _⟩) hS (fun H locs hP hS => ?_)
        refine lv_if_eq (tgt := 144) hx hb dX6_pass_136 (by decide) (fun hc63 => ?_) (fun hc63 => ?_)
        · rw [if_pos hc63] at hF
          refine lv_iinc (k := 1) (v := (i1 + 1)) (lv' := [(1, .int (i1 + 1)), (0, .ref (L.2.1 a0))]) hx hb dX6_pass_144 hl rfl (congrArg (fun z => i1 + z) (by decide)) (by decide) rfl (fun ls hl => ?_)
          refine lv_goto (tgt := 125) hx hb dX6_pass_147 (by decide) ?_
          exact ih a0 (i1 + 1) y62.2 _ _ _ hF hP hS (lv_sub hl [1, 0] rfl)
        · rw [if_neg hc63] at hF
          refine lv_aload_n hx hb dX6_pass_139 rfl (lv_at hl 0 rfl) ?_
          refine lv_iload_n hx hb dX6_pass_140 rfl (lv_at hl 1 rfl) ?_
          obtain ⟨f64, ef64, hF⟩ := cp_bind hF
          obtain ⟨D65, eD65, hF⟩ := cp_bind hF
          refine cp_call (st1 := []) (va_runV (As := [.int i1]) (rest := []) ⟨hx, hb, hml, hown, htT⟩ (ct_X6_die l G L hJ q a0 i1 y62.2 D65 eD65) ⟨callB_of 1 htT gdX6_die rfl rfl rfl (htT _ tw_8) (htT _ tw_489) hdX6_die ⟨Nat.le_of_ble_eq_true rfl, Nat.le_of_ble_eq_true rfl⟩, (htT _ tw_490), (htT _ tw_593)⟩ ⟨cp_blind, cp_recv hK hP rfl ef64, cp_pre hP hK hN hZ hS⟩ rfl rfl hl.1 rfl (lv_room (Nat.le_of_ble_eq_true rfl)) dX6_pass_141 ⟨Nat.zero_le _, Nat.zero_le _⟩) hS (fun H locs hP hS => ?_)
          refine lv_iinc (k := 1) (v := (i1 + 1)) (lv' := [(1, .int (i1 + 1)), (0, .ref (L.2.1 a0))]) hx hb dX6_pass_144 hl rfl (congrArg (fun z => i1 + z) (by decide)) (by decide) rfl (fun ls hl => ?_)
          refine lv_goto (tgt := 125) hx hb dX6_pass_147 (by decide) ?_
          exact ih a0 (i1 + 1) D65 _ _ _ hF hP hS (lv_sub hl [1, 0] rfl)
  have hL33 : ∀ (n : Nat) (a0 : Nat) (i1 : Int32) (D : cp_Dt) (H : Heap) (locs : List Loc) (ls : Array Slot), fn_X6_pass_L33 L q n a0 i1 D = some res → va_P G vwCl (cp_ws L D) H → va_S (cp_A L) s.heap H locs → lv_has ls 3 [(0, .ref (L.2.1 a0)), (1, .int i1)] → W p l e (headSpec wsX6_pass ({ frames := 8, cells := 0, slots := 0, locals := 194 })).room s m ([.ref (L.2.1 k0)] : List Value).toArray below meth c H locs 0 0 (MQ below (cp_Q G L res none) ([.ref (L.2.1 k0)] : List Value).toArray s 0 0 (cp_A L)) (F0 m 33 ls []) := by
    intro n
    induction n with
    | zero =>
      intro a0 i1 D H locs ls hF
      cases hF
    | succ n ih =>
      intro a0 i1 D H locs ls hF hP hS hl
      unfold fn_X6_pass_L33 at hF
      refine lv_iload_n hx hb dX6_pass_33 rfl (lv_at hl 1 rfl) ?_
      refine lv_bipush (v := (16 : Int32)) hx hb dX6_pass_34 (by decide) ?_
      refine lv_icmp_ge (tgt := 123) hx hb dX6_pass_36 (by decide) (fun hc9 => ?_) (fun hc9 => ?_)
      · rw [if_pos hc9] at hF
        refine lv_iconst (v := (0 : Int32)) hx hb dX6_pass_123 (by decide) ?_
        refine lv_istore_n (lv' := [(1, .int (0 : Int32)), (0, .ref (L.2.1 a0))]) hx hb dX6_pass_124 rfl hl (by decide) rfl (fun ls hl => ?_)
        exact hL125 q a0 (0 : Int32) D _ _ _ hF hP hS (lv_sub hl [1, 0] rfl)
      · rw [if_neg hc9] at hF
        refine lv_aload_n hx hb dX6_pass_39 rfl (lv_at hl 0 rfl) ?_
        refine lv_iload_n hx hb dX6_pass_40 rfl (lv_at hl 1 rfl) ?_
        obtain ⟨f10, ef10, hF⟩ := cp_bind hF
        obtain ⟨y11, ey11, hF⟩ := cp_bind hF
        refine cp_call (st1 := [.int y11.1]) (va_runV (As := [.int i1]) (rest := []) ⟨hx, hb, hml, hown, htT⟩ (ct_X6_lives l G L hJ q a0 i1 D y11 ey11) ⟨callB_of 1 htT gdX6_lives rfl rfl rfl (htT _ tw_8) (htT _ tw_423) hdX6_lives ⟨Nat.le_of_ble_eq_true rfl, Nat.le_of_ble_eq_true rfl⟩, (htT _ tw_424), (htT _ tw_576)⟩ ⟨cp_blind, cp_recv hK hP rfl ef10, cp_pre hP hK hN hZ hS⟩ rfl rfl hl.1 rfl (lv_room (Nat.le_of_ble_eq_true rfl)) dX6_pass_41 ⟨Nat.zero_le _, Nat.zero_le _⟩) hS (fun H locs hP hS => ?_)
        refine lv_if_eq (tgt := 75) hx hb dX6_pass_44 (by decide) (fun hc12 => ?_) (fun hc12 => ?_)
        · rw [if_pos hc12] at hF
          refine lv_iconst (v := (-1 : Int32)) hx hb dX6_pass_75 (by decide) ?_
          refine lv_istore_n (lv' := [(2, .int (-1 : Int32)), (0, .ref (L.2.1 a0)), (1, .int i1)]) hx hb dX6_pass_76 rfl hl (by decide) rfl (fun ls hl => ?_)
          refine lv_iload_n hx hb dX6_pass_77 rfl (lv_at hl 0 rfl) ?_
          refine lv_iload_n hx hb dX6_pass_78 rfl (lv_at hl 2 rfl) ?_
          refine lv_icmp_le (tgt := 117) hx hb dX6_pass_79 (by decide) (fun hc13 => ?_) (fun hc13 => ?_)
          · rw [if_pos hc13] at hF
            refine lv_iinc (k := 2) (v := (i1 + 1)) (lv' := [(1, .int (i1 + 1)), (2, .int (-1 : Int32)), (0, .ref (L.2.1 a0))]) hx hb dX6_pass_117 hl rfl (congrArg (fun z => i1 + z) (by decide)) (by decide) rfl (fun ls hl => ?_)
            refine lv_goto (tgt := 33) hx hb dX6_pass_120 (by decide) ?_
            exact ih a0 (i1 + 1) y11.2 _ _ _ hF hP hS (lv_sub hl [2, 0] rfl)
          · rw [if_neg hc13] at hF
            refine lv_aload_n hx hb dX6_pass_82 rfl (lv_at hl 1 rfl) ?_
            obtain ⟨r14, er14, hF⟩ := cp_bind hF
            refine cp_getR (T := TX6) (N := 6) (ci := 6) (j := 3) hx hb htT hinX6 hown hK hP rfl (by decide) rfl (htT _ tw_378) er14 dX6_pass_83 ?_
            refine lv_iload_n hx hb dX6_pass_86 rfl (lv_at hl 0 rfl) ?_
            obtain ⟨y15, ey15, hF⟩ := cp_bind hF
            refine cp_call (st1 := [.int y15.1, .ref (L.2.1 r14)]) (va_runS (As := [.int (-1 : Int32)]) (rest := [.ref (L.2.1 r14)]) ⟨hx, hb, hml, hown, htT⟩ (ct_X6_at l G L hJ q (-1 : Int32) y11.2 y15 ey15) ⟨callB_of 1 htT gdX6_at rfl rfl rfl (htT _ tw_8) (htT _ tw_417) hdX6_at ⟨Nat.le_of_ble_eq_true rfl, Nat.le_of_ble_eq_true rfl⟩, (htT _ tw_418)⟩ ⟨cp_blind, cp_pre hP hK hN hZ hS⟩ rfl rfl hl.1 rfl (lv_room (Nat.le_of_ble_eq_true rfl)) dX6_pass_87 ⟨Nat.zero_le _, Nat.zero_le _⟩) hS (fun H locs hP hS => ?_)
            refine lv_bipush (v := (9 : Int32)) hx hb dX6_pass_90 (by decide) ?_
            refine lv_iadd hx hb dX6_pass_92 ?_
            obtain ⟨v16, ev16, hF⟩ := cp_bind hF
            refine cp_iald hx hb hK hP ev16 dX6_pass_93 ?_
            refine lv_iconst (v := (1 : Int32)) hx hb dX6_pass_94 (by decide) ?_
            refine lv_icmp_ne (tgt := 117) hx hb dX6_pass_95 (by decide) (fun hc17 => ?_) (fun hc17 => ?_)
            · rw [if_neg hc17] at hF
              refine lv_iinc (k := 2) (v := (i1 + 1)) (lv' := [(1, .int (i1 + 1)), (2, .int (-1 : Int32)), (0, .ref (L.2.1 a0))]) hx hb dX6_pass_117 hl rfl (congrArg (fun z => i1 + z) (by decide)) (by decide) rfl (fun ls hl => ?_)
              refine lv_goto (tgt := 33) hx hb dX6_pass_120 (by decide) ?_
              exact ih a0 (i1 + 1) y15.2 _ _ _ hF hP hS (lv_sub hl [2, 0] rfl)
            · rw [if_pos hc17] at hF
              refine lv_aload_n hx hb dX6_pass_98 rfl (lv_at hl 1 rfl) ?_
              refine lv_aload_n hx hb dX6_pass_99 rfl (lv_at hl 1 rfl) ?_
              refine lv_iload_n hx hb dX6_pass_100 rfl (lv_at hl 0 rfl) ?_
              obtain ⟨f18, ef18, hF⟩ := cp_bind hF
              obtain ⟨y19, ey19, hF⟩ := cp_bind hF
              refine cp_call (st1 := [.int y19.1, .ref (L.2.1 a0)]) (va_runV (As := [.int (-1 : Int32)]) (rest := [.ref (L.2.1 a0)]) ⟨hx, hb, hml, hown, htT⟩ (ct_X6_ahead l G L hJ q a0 (-1 : Int32) y15.2 y19 ey19) ⟨callB_of 1 htT gdX6_ahead rfl rfl rfl (htT _ tw_8) (htT _ tw_464) hdX6_ahead ⟨Nat.le_of_ble_eq_true rfl, Nat.le_of_ble_eq_true rfl⟩, (htT _ tw_465), (htT _ tw_585)⟩ ⟨cp_blind, cp_recv hK hP rfl ef18, cp_pre hP hK hN hZ hS⟩ rfl rfl hl.1 rfl (lv_room (Nat.le_of_ble_eq_true rfl)) dX6_pass_101 ⟨Nat.zero_le _, Nat.zero_le _⟩) hS (fun H locs hP hS => ?_)
              obtain ⟨f20, ef20, hF⟩ := cp_bind hF
              obtain ⟨y21, ey21, hF⟩ := cp_bind hF
              refine cp_call (st1 := [.int y21.1]) (va_runV (As := [.int y19.1]) (rest := []) ⟨hx, hb, hml, hown, htT⟩ (ct_X6_inCell l G L hJ q a0 y19.1 y19.2 y21 ey21) ⟨callB_of 1 htT gdX6_inCell rfl rfl rfl (htT _ tw_8) (htT _ tw_414) hdX6_inCell ⟨Nat.le_of_ble_eq_true rfl, Nat.le_of_ble_eq_true rfl⟩, (htT _ tw_415), (htT _ tw_574)⟩ ⟨cp_blind, cp_recv hK hP rfl ef20, cp_pre hP hK hN hZ hS⟩ rfl rfl hl.1 rfl (lv_room (Nat.le_of_ble_eq_true rfl)) dX6_pass_104 ⟨Nat.zero_le _, Nat.zero_le _⟩) hS (fun H locs hP hS => ?_)
              refine lv_iload_n hx hb dX6_pass_107 rfl (lv_at hl 2 rfl) ?_
              refine lv_icmp_ne (tgt := 117) hx hb dX6_pass_108 (by decide) (fun hc22 => ?_) (fun hc22 => ?_)
              · rw [if_neg hc22] at hF
                refine lv_iinc (k := 2) (v := (i1 + 1)) (lv' := [(1, .int (i1 + 1)), (2, .int (-1 : Int32)), (0, .ref (L.2.1 a0))]) hx hb dX6_pass_117 hl rfl (congrArg (fun z => i1 + z) (by decide)) (by decide) rfl (fun ls hl => ?_)
                refine lv_goto (tgt := 33) hx hb dX6_pass_120 (by decide) ?_
                exact ih a0 (i1 + 1) y21.2 _ _ _ hF hP hS (lv_sub hl [2, 0] rfl)
              · rw [if_pos hc22] at hF
                refine lv_aload_n hx hb dX6_pass_111 rfl (lv_at hl 1 rfl) ?_
                refine lv_iload_n hx hb dX6_pass_112 rfl (lv_at hl 2 rfl) ?_
                refine lv_iload_n hx hb dX6_pass_113 rfl (lv_at hl 0 rfl) ?_
                obtain ⟨f23, ef23, hF⟩ := cp_bind hF
                obtain ⟨D24, eD24, hF⟩ := cp_bind hF
                refine cp_call (st1 := []) (va_runV (As := [.int i1, .int (-1 : Int32)]) (rest := []) ⟨hx, hb, hml, hown, htT⟩ (ct_X6_breed l G L hJ q a0 i1 (-1 : Int32) y21.2 D24 eD24) ⟨callB_of 2 htT gdX6_breed rfl rfl rfl (htT _ tw_8) (htT _ tw_479) hdX6_breed ⟨Nat.le_of_ble_eq_true rfl, Nat.le_of_ble_eq_true rfl⟩, (htT _ tw_480), (htT _ tw_590)⟩ ⟨cp_blind, cp_recv hK hP rfl ef23, cp_pre hP hK hN hZ hS⟩ rfl rfl hl.1 rfl (lv_room (Nat.le_of_ble_eq_true rfl)) dX6_pass_114 ⟨Nat.zero_le _, Nat.zero_le _⟩) hS (fun H locs hP hS => ?_)
                refine lv_iinc (k := 2) (v := (i1 + 1)) (lv' := [(1, .int (i1 + 1)), (2, .int (-1 : Int32)), (0, .ref (L.2.1 a0))]) hx hb dX6_pass_117 hl rfl (congrArg (fun z => i1 + z) (by decide)) (by decide) rfl (fun ls hl => ?_)
                refine lv_goto (tgt := 33) hx hb dX6_pass_120 (by decide) ?_
                exact ih a0 (i1 + 1) D24 _ _ _ hF hP hS (lv_sub hl [2, 0] rfl)
        · rw [if_neg hc12] at hF
          refine lv_aload_n hx hb dX6_pass_47 rfl (lv_at hl 0 rfl) ?_
          obtain ⟨r25, er25, hF⟩ := cp_bind hF
          refine cp_getR (T := TX6) (N := 6) (ci := 6) (j := 3) hx hb htT hinX6 hown hK hP rfl (by decide) rfl (htT _ tw_378) er25 dX6_pass_48 ?_
          refine lv_iload_n hx hb dX6_pass_51 rfl (lv_at hl 1 rfl) ?_
          obtain ⟨y26, ey26, hF⟩ := cp_bind hF
          refine cp_call (st1 := [.int y26.1, .ref (L.2.1 r25)]) (va_runS (As := [.int i1]) (rest := [.ref (L.2.1 r25)]) ⟨hx, hb, hml, hown, htT⟩ (ct_X6_at l G L hJ q i1 y11.2 y26 ey26) ⟨callB_of 1 htT gdX6_at rfl rfl rfl (htT _ tw_8) (htT _ tw_417) hdX6_at ⟨Nat.le_of_ble_eq_true rfl, Nat.le_of_ble_eq_true rfl⟩, (htT _ tw_418)⟩ ⟨cp_blind, cp_pre hP hK hN hZ hS⟩ rfl rfl hl.1 rfl (lv_room (Nat.le_of_ble_eq_true rfl)) dX6_pass_52 ⟨Nat.zero_le _, Nat.zero_le _⟩) hS (fun H locs hP hS => ?_)
          refine lv_bipush (v := (9 : Int32)) hx hb dX6_pass_55 (by decide) ?_
          refine lv_iadd hx hb dX6_pass_57 ?_
          obtain ⟨v27, ev27, hF⟩ := cp_bind hF
          refine cp_iald hx hb hK hP ev27 dX6_pass_58 ?_
          refine lv_iconst (v := (1 : Int32)) hx hb dX6_pass_59 (by decide) ?_
          refine lv_icmp_ne (tgt := 75) hx hb dX6_pass_60 (by decide) (fun hc28 => ?_) (fun hc28 => ?_)
          · rw [if_neg hc28] at hF
            refine lv_iconst (v := (-1 : Int32)) hx hb dX6_pass_75 (by decide) ?_
            refine lv_istore_n (lv' := [(2, .int (-1 : Int32)), (0, .ref (L.2.1 a0)), (1, .int i1)]) hx hb dX6_pass_76 rfl hl (by decide) rfl (fun ls hl => ?_)
            refine lv_iload_n hx hb dX6_pass_77 rfl (lv_at hl 0 rfl) ?_
            refine lv_iload_n hx hb dX6_pass_78 rfl (lv_at hl 2 rfl) ?_
            refine lv_icmp_le (tgt := 117) hx hb dX6_pass_79 (by decide) (fun hc29 => ?_) (fun hc29 => ?_)
            · rw [if_pos hc29] at hF
              refine lv_iinc (k := 2) (v := (i1 + 1)) (lv' := [(1, .int (i1 + 1)), (2, .int (-1 : Int32)), (0, .ref (L.2.1 a0))]) hx hb dX6_pass_117 hl rfl (congrArg (fun z => i1 + z) (by decide)) (by decide) rfl (fun ls hl => ?_)
              refine lv_goto (tgt := 33) hx hb dX6_pass_120 (by decide) ?_
              exact ih a0 (i1 + 1) y26.2 _ _ _ hF hP hS (lv_sub hl [2, 0] rfl)
            · rw [if_neg hc29] at hF
              refine lv_aload_n hx hb dX6_pass_82 rfl (lv_at hl 1 rfl) ?_
              obtain ⟨r30, er30, hF⟩ := cp_bind hF
              refine cp_getR (T := TX6) (N := 6) (ci := 6) (j := 3) hx hb htT hinX6 hown hK hP rfl (by decide) rfl (htT _ tw_378) er30 dX6_pass_83 ?_
              refine lv_iload_n hx hb dX6_pass_86 rfl (lv_at hl 0 rfl) ?_
              obtain ⟨y31, ey31, hF⟩ := cp_bind hF
              refine cp_call (st1 := [.int y31.1, .ref (L.2.1 r30)]) (va_runS (As := [.int (-1 : Int32)]) (rest := [.ref (L.2.1 r30)]) ⟨hx, hb, hml, hown, htT⟩ (ct_X6_at l G L hJ q (-1 : Int32) y26.2 y31 ey31) ⟨callB_of 1 htT gdX6_at rfl rfl rfl (htT _ tw_8) (htT _ tw_417) hdX6_at ⟨Nat.le_of_ble_eq_true rfl, Nat.le_of_ble_eq_true rfl⟩, (htT _ tw_418)⟩ ⟨cp_blind, cp_pre hP hK hN hZ hS⟩ rfl rfl hl.1 rfl (lv_room (Nat.le_of_ble_eq_true rfl)) dX6_pass_87 ⟨Nat.zero_le _, Nat.zero_le _⟩) hS (fun H locs hP hS => ?_)
              refine lv_bipush (v := (9 : Int32)) hx hb dX6_pass_90 (by decide) ?_
              refine lv_iadd hx hb dX6_pass_92 ?_
              obtain ⟨v32, ev32, hF⟩ := cp_bind hF
              refine cp_iald hx hb hK hP ev32 dX6_pass_93 ?_
              refine lv_iconst (v := (1 : Int32)) hx hb dX6_pass_94 (by decide) ?_
              refine lv_icmp_ne (tgt := 117) hx hb dX6_pass_95 (by decide) (fun hc33 => ?_) (fun hc33 => ?_)
              · rw [if_neg hc33] at hF
                refine lv_iinc (k := 2) (v := (i1 + 1)) (lv' := [(1, .int (i1 + 1)), (2, .int (-1 : Int32)), (0, .ref (L.2.1 a0))]) hx hb dX6_pass_117 hl rfl (congrArg (fun z => i1 + z) (by decide)) (by decide) rfl (fun ls hl => ?_)
                refine lv_goto (tgt := 33) hx hb dX6_pass_120 (by decide) ?_
                exact ih a0 (i1 + 1) y31.2 _ _ _ hF hP hS (lv_sub hl [2, 0] rfl)
              · rw [if_pos hc33] at hF
                refine lv_aload_n hx hb dX6_pass_98 rfl (lv_at hl 1 rfl) ?_
                refine lv_aload_n hx hb dX6_pass_99 rfl (lv_at hl 1 rfl) ?_
                refine lv_iload_n hx hb dX6_pass_100 rfl (lv_at hl 0 rfl) ?_
                obtain ⟨f34, ef34, hF⟩ := cp_bind hF
                obtain ⟨y35, ey35, hF⟩ := cp_bind hF
                refine cp_call (st1 := [.int y35.1, .ref (L.2.1 a0)]) (va_runV (As := [.int (-1 : Int32)]) (rest := [.ref (L.2.1 a0)]) ⟨hx, hb, hml, hown, htT⟩ (ct_X6_ahead l G L hJ q a0 (-1 : Int32) y31.2 y35 ey35) ⟨callB_of 1 htT gdX6_ahead rfl rfl rfl (htT _ tw_8) (htT _ tw_464) hdX6_ahead ⟨Nat.le_of_ble_eq_true rfl, Nat.le_of_ble_eq_true rfl⟩, (htT _ tw_465), (htT _ tw_585)⟩ ⟨cp_blind, cp_recv hK hP rfl ef34, cp_pre hP hK hN hZ hS⟩ rfl rfl hl.1 rfl (lv_room (Nat.le_of_ble_eq_true rfl)) dX6_pass_101 ⟨Nat.zero_le _, Nat.zero_le _⟩) hS (fun H locs hP hS => ?_)
                obtain ⟨f36, ef36, hF⟩ := cp_bind hF
                obtain ⟨y37, ey37, hF⟩ := cp_bind hF
                refine cp_call (st1 := [.int y37.1]) (va_runV (As := [.int y35.1]) (rest := []) ⟨hx, hb, hml, hown, htT⟩ (ct_X6_inCell l G L hJ q a0 y35.1 y35.2 y37 ey37) ⟨callB_of 1 htT gdX6_inCell rfl rfl rfl (htT _ tw_8) (htT _ tw_414) hdX6_inCell ⟨Nat.le_of_ble_eq_true rfl, Nat.le_of_ble_eq_true rfl⟩, (htT _ tw_415), (htT _ tw_574)⟩ ⟨cp_blind, cp_recv hK hP rfl ef36, cp_pre hP hK hN hZ hS⟩ rfl rfl hl.1 rfl (lv_room (Nat.le_of_ble_eq_true rfl)) dX6_pass_104 ⟨Nat.zero_le _, Nat.zero_le _⟩) hS (fun H locs hP hS => ?_)
                refine lv_iload_n hx hb dX6_pass_107 rfl (lv_at hl 2 rfl) ?_
                refine lv_icmp_ne (tgt := 117) hx hb dX6_pass_108 (by decide) (fun hc38 => ?_) (fun hc38 => ?_)
                · rw [if_neg hc38] at hF
                  refine lv_iinc (k := 2) (v := (i1 + 1)) (lv' := [(1, .int (i1 + 1)), (2, .int (-1 : Int32)), (0, .ref (L.2.1 a0))]) hx hb dX6_pass_117 hl rfl (congrArg (fun z => i1 + z) (by decide)) (by decide) rfl (fun ls hl => ?_)
                  refine lv_goto (tgt := 33) hx hb dX6_pass_120 (by decide) ?_
                  exact ih a0 (i1 + 1) y37.2 _ _ _ hF hP hS (lv_sub hl [2, 0] rfl)
                · rw [if_pos hc38] at hF
                  refine lv_aload_n hx hb dX6_pass_111 rfl (lv_at hl 1 rfl) ?_
                  refine lv_iload_n hx hb dX6_pass_112 rfl (lv_at hl 2 rfl) ?_
                  refine lv_iload_n hx hb dX6_pass_113 rfl (lv_at hl 0 rfl) ?_
                  obtain ⟨f39, ef39, hF⟩ := cp_bind hF
                  obtain ⟨D40, eD40, hF⟩ := cp_bind hF
                  refine cp_call (st1 := []) (va_runV (As := [.int i1, .int (-1 : Int32)]) (rest := []) ⟨hx, hb, hml, hown, htT⟩ (ct_X6_breed l G L hJ q a0 i1 (-1 : Int32) y37.2 D40 eD40) ⟨callB_of 2 htT gdX6_breed rfl rfl rfl (htT _ tw_8) (htT _ tw_479) hdX6_breed ⟨Nat.le_of_ble_eq_true rfl, Nat.le_of_ble_eq_true rfl⟩, (htT _ tw_480), (htT _ tw_590)⟩ ⟨cp_blind, cp_recv hK hP rfl ef39, cp_pre hP hK hN hZ hS⟩ rfl rfl hl.1 rfl (lv_room (Nat.le_of_ble_eq_true rfl)) dX6_pass_114 ⟨Nat.zero_le _, Nat.zero_le _⟩) hS (fun H locs hP hS => ?_)
                  refine lv_iinc (k := 2) (v := (i1 + 1)) (lv' := [(1, .int (i1 + 1)), (2, .int (-1 : Int32)), (0, .ref (L.2.1 a0))]) hx hb dX6_pass_117 hl rfl (congrArg (fun z => i1 + z) (by decide)) (by decide) rfl (fun ls hl => ?_)
                  refine lv_goto (tgt := 33) hx hb dX6_pass_120 (by decide) ?_
                  exact ih a0 (i1 + 1) D40 _ _ _ hF hP hS (lv_sub hl [2, 0] rfl)
          · rw [if_pos hc28] at hF
            refine lv_aload_n hx hb dX6_pass_63 rfl (lv_at hl 0 rfl) ?_
            refine lv_aload_n hx hb dX6_pass_64 rfl (lv_at hl 0 rfl) ?_
            refine lv_iload_n hx hb dX6_pass_65 rfl (lv_at hl 1 rfl) ?_
            obtain ⟨f41, ef41, hF⟩ := cp_bind hF
            obtain ⟨y42, ey42, hF⟩ := cp_bind hF
            refine cp_call (st1 := [.int y42.1, .ref (L.2.1 a0)]) (va_runV (As := [.int i1]) (rest := [.ref (L.2.1 a0)]) ⟨hx, hb, hml, hown, htT⟩ (ct_X6_ahead l G L hJ q a0 i1 y26.2 y42 ey42) ⟨callB_of 1 htT gdX6_ahead rfl rfl rfl (htT _ tw_8) (htT _ tw_464) hdX6_ahead ⟨Nat.le_of_ble_eq_true rfl, Nat.le_of_ble_eq_true rfl⟩, (htT _ tw_465), (htT _ tw_585)⟩ ⟨cp_blind, cp_recv hK hP rfl ef41, cp_pre hP hK hN hZ hS⟩ rfl rfl hl.1 rfl (lv_room (Nat.le_of_ble_eq_true rfl)) dX6_pass_66 ⟨Nat.zero_le _, Nat.zero_le _⟩) hS (fun H locs hP hS => ?_)
            obtain ⟨f43, ef43, hF⟩ := cp_bind hF
            obtain ⟨y44, ey44, hF⟩ := cp_bind hF
            refine cp_call (st1 := [.int y44.1]) (va_runV (As := [.int y42.1]) (rest := []) ⟨hx, hb, hml, hown, htT⟩ (ct_X6_inCell l G L hJ q a0 y42.1 y42.2 y44 ey44) ⟨callB_of 1 htT gdX6_inCell rfl rfl rfl (htT _ tw_8) (htT _ tw_414) hdX6_inCell ⟨Nat.le_of_ble_eq_true rfl, Nat.le_of_ble_eq_true rfl⟩, (htT _ tw_415), (htT _ tw_574)⟩ ⟨cp_blind, cp_recv hK hP rfl ef43, cp_pre hP hK hN hZ hS⟩ rfl rfl hl.1 rfl (lv_room (Nat.le_of_ble_eq_true rfl)) dX6_pass_69 ⟨Nat.zero_le _, Nat.zero_le _⟩) hS (fun H locs hP hS => ?_)
            refine lv_goto (tgt := 76) hx hb dX6_pass_72 (by decide) ?_
            refine lv_istore_n (lv' := [(2, .int y44.1), (0, .ref (L.2.1 a0)), (1, .int i1)]) hx hb dX6_pass_76 rfl hl (by decide) rfl (fun ls hl => ?_)
            refine lv_iload_n hx hb dX6_pass_77 rfl (lv_at hl 0 rfl) ?_
            refine lv_iload_n hx hb dX6_pass_78 rfl (lv_at hl 2 rfl) ?_
            refine lv_icmp_le (tgt := 117) hx hb dX6_pass_79 (by decide) (fun hc45 => ?_) (fun hc45 => ?_)
            · rw [if_pos hc45] at hF
              refine lv_iinc (k := 2) (v := (i1 + 1)) (lv' := [(1, .int (i1 + 1)), (2, .int y44.1), (0, .ref (L.2.1 a0))]) hx hb dX6_pass_117 hl rfl (congrArg (fun z => i1 + z) (by decide)) (by decide) rfl (fun ls hl => ?_)
              refine lv_goto (tgt := 33) hx hb dX6_pass_120 (by decide) ?_
              exact ih a0 (i1 + 1) y44.2 _ _ _ hF hP hS (lv_sub hl [2, 0] rfl)
            · rw [if_neg hc45] at hF
              refine lv_aload_n hx hb dX6_pass_82 rfl (lv_at hl 1 rfl) ?_
              obtain ⟨r46, er46, hF⟩ := cp_bind hF
              refine cp_getR (T := TX6) (N := 6) (ci := 6) (j := 3) hx hb htT hinX6 hown hK hP rfl (by decide) rfl (htT _ tw_378) er46 dX6_pass_83 ?_
              refine lv_iload_n hx hb dX6_pass_86 rfl (lv_at hl 0 rfl) ?_
              obtain ⟨y47, ey47, hF⟩ := cp_bind hF
              refine cp_call (st1 := [.int y47.1, .ref (L.2.1 r46)]) (va_runS (As := [.int y44.1]) (rest := [.ref (L.2.1 r46)]) ⟨hx, hb, hml, hown, htT⟩ (ct_X6_at l G L hJ q y44.1 y44.2 y47 ey47) ⟨callB_of 1 htT gdX6_at rfl rfl rfl (htT _ tw_8) (htT _ tw_417) hdX6_at ⟨Nat.le_of_ble_eq_true rfl, Nat.le_of_ble_eq_true rfl⟩, (htT _ tw_418)⟩ ⟨cp_blind, cp_pre hP hK hN hZ hS⟩ rfl rfl hl.1 rfl (lv_room (Nat.le_of_ble_eq_true rfl)) dX6_pass_87 ⟨Nat.zero_le _, Nat.zero_le _⟩) hS (fun H locs hP hS => ?_)
              refine lv_bipush (v := (9 : Int32)) hx hb dX6_pass_90 (by decide) ?_
              refine lv_iadd hx hb dX6_pass_92 ?_
              obtain ⟨v48, ev48, hF⟩ := cp_bind hF
              refine cp_iald hx hb hK hP ev48 dX6_pass_93 ?_
              refine lv_iconst (v := (1 : Int32)) hx hb dX6_pass_94 (by decide) ?_
              refine lv_icmp_ne (tgt := 117) hx hb dX6_pass_95 (by decide) (fun hc49 => ?_) (fun hc49 => ?_)
              · rw [if_neg hc49] at hF
                refine lv_iinc (k := 2) (v := (i1 + 1)) (lv' := [(1, .int (i1 + 1)), (2, .int y44.1), (0, .ref (L.2.1 a0))]) hx hb dX6_pass_117 hl rfl (congrArg (fun z => i1 + z) (by decide)) (by decide) rfl (fun ls hl => ?_)
                refine lv_goto (tgt := 33) hx hb dX6_pass_120 (by decide) ?_
                exact ih a0 (i1 + 1) y47.2 _ _ _ hF hP hS (lv_sub hl [2, 0] rfl)
              · rw [if_pos hc49] at hF
                refine lv_aload_n hx hb dX6_pass_98 rfl (lv_at hl 1 rfl) ?_
                refine lv_aload_n hx hb dX6_pass_99 rfl (lv_at hl 1 rfl) ?_
                refine lv_iload_n hx hb dX6_pass_100 rfl (lv_at hl 0 rfl) ?_
                obtain ⟨f50, ef50, hF⟩ := cp_bind hF
                obtain ⟨y51, ey51, hF⟩ := cp_bind hF
                refine cp_call (st1 := [.int y51.1, .ref (L.2.1 a0)]) (va_runV (As := [.int y44.1]) (rest := [.ref (L.2.1 a0)]) ⟨hx, hb, hml, hown, htT⟩ (ct_X6_ahead l G L hJ q a0 y44.1 y47.2 y51 ey51) ⟨callB_of 1 htT gdX6_ahead rfl rfl rfl (htT _ tw_8) (htT _ tw_464) hdX6_ahead ⟨Nat.le_of_ble_eq_true rfl, Nat.le_of_ble_eq_true rfl⟩, (htT _ tw_465), (htT _ tw_585)⟩ ⟨cp_blind, cp_recv hK hP rfl ef50, cp_pre hP hK hN hZ hS⟩ rfl rfl hl.1 rfl (lv_room (Nat.le_of_ble_eq_true rfl)) dX6_pass_101 ⟨Nat.zero_le _, Nat.zero_le _⟩) hS (fun H locs hP hS => ?_)
                obtain ⟨f52, ef52, hF⟩ := cp_bind hF
                obtain ⟨y53, ey53, hF⟩ := cp_bind hF
                refine cp_call (st1 := [.int y53.1]) (va_runV (As := [.int y51.1]) (rest := []) ⟨hx, hb, hml, hown, htT⟩ (ct_X6_inCell l G L hJ q a0 y51.1 y51.2 y53 ey53) ⟨callB_of 1 htT gdX6_inCell rfl rfl rfl (htT _ tw_8) (htT _ tw_414) hdX6_inCell ⟨Nat.le_of_ble_eq_true rfl, Nat.le_of_ble_eq_true rfl⟩, (htT _ tw_415), (htT _ tw_574)⟩ ⟨cp_blind, cp_recv hK hP rfl ef52, cp_pre hP hK hN hZ hS⟩ rfl rfl hl.1 rfl (lv_room (Nat.le_of_ble_eq_true rfl)) dX6_pass_104 ⟨Nat.zero_le _, Nat.zero_le _⟩) hS (fun H locs hP hS => ?_)
                refine lv_iload_n hx hb dX6_pass_107 rfl (lv_at hl 2 rfl) ?_
                refine lv_icmp_ne (tgt := 117) hx hb dX6_pass_108 (by decide) (fun hc54 => ?_) (fun hc54 => ?_)
                · rw [if_neg hc54] at hF
                  refine lv_iinc (k := 2) (v := (i1 + 1)) (lv' := [(1, .int (i1 + 1)), (2, .int y44.1), (0, .ref (L.2.1 a0))]) hx hb dX6_pass_117 hl rfl (congrArg (fun z => i1 + z) (by decide)) (by decide) rfl (fun ls hl => ?_)
                  refine lv_goto (tgt := 33) hx hb dX6_pass_120 (by decide) ?_
                  exact ih a0 (i1 + 1) y53.2 _ _ _ hF hP hS (lv_sub hl [2, 0] rfl)
                · rw [if_pos hc54] at hF
                  refine lv_aload_n hx hb dX6_pass_111 rfl (lv_at hl 1 rfl) ?_
                  refine lv_iload_n hx hb dX6_pass_112 rfl (lv_at hl 2 rfl) ?_
                  refine lv_iload_n hx hb dX6_pass_113 rfl (lv_at hl 0 rfl) ?_
                  obtain ⟨f55, ef55, hF⟩ := cp_bind hF
                  obtain ⟨D56, eD56, hF⟩ := cp_bind hF
                  refine cp_call (st1 := []) (va_runV (As := [.int i1, .int y44.1]) (rest := []) ⟨hx, hb, hml, hown, htT⟩ (ct_X6_breed l G L hJ q a0 i1 y44.1 y53.2 D56 eD56) ⟨callB_of 2 htT gdX6_breed rfl rfl rfl (htT _ tw_8) (htT _ tw_479) hdX6_breed ⟨Nat.le_of_ble_eq_true rfl, Nat.le_of_ble_eq_true rfl⟩, (htT _ tw_480), (htT _ tw_590)⟩ ⟨cp_blind, cp_recv hK hP rfl ef55, cp_pre hP hK hN hZ hS⟩ rfl rfl hl.1 rfl (lv_room (Nat.le_of_ble_eq_true rfl)) dX6_pass_114 ⟨Nat.zero_le _, Nat.zero_le _⟩) hS (fun H locs hP hS => ?_)
                  refine lv_iinc (k := 2) (v := (i1 + 1)) (lv' := [(1, .int (i1 + 1)), (2, .int y44.1), (0, .ref (L.2.1 a0))]) hx hb dX6_pass_117 hl rfl (congrArg (fun z => i1 + z) (by decide)) (by decide) rfl (fun ls hl => ?_)
                  refine lv_goto (tgt := 33) hx hb dX6_pass_120 (by decide) ?_
                  exact ih a0 (i1 + 1) D56 _ _ _ hF hP hS (lv_sub hl [2, 0] rfl)
  have hL6 : ∀ (n : Nat) (a0 : Nat) (i1 : Int32) (D : cp_Dt) (H : Heap) (locs : List Loc) (ls : Array Slot), fn_X6_pass_L6 L q n a0 i1 D = some res → va_P G vwCl (cp_ws L D) H → va_S (cp_A L) s.heap H locs → lv_has ls 3 [(0, .ref (L.2.1 a0)), (1, .int i1)] → W p l e (headSpec wsX6_pass ({ frames := 8, cells := 0, slots := 0, locals := 194 })).room s m ([.ref (L.2.1 k0)] : List Value).toArray below meth c H locs 0 0 (MQ below (cp_Q G L res none) ([.ref (L.2.1 k0)] : List Value).toArray s 0 0 (cp_A L)) (F0 m 6 ls []) := by
    intro n
    induction n with
    | zero =>
      intro a0 i1 D H locs ls hF
      cases hF
    | succ n ih =>
      intro a0 i1 D H locs ls hF hP hS hl
      unfold fn_X6_pass_L6 at hF
      refine lv_iload_n hx hb dX6_pass_6 rfl (lv_at hl 1 rfl) ?_
      refine lv_bipush (v := (16 : Int32)) hx hb dX6_pass_7 (by decide) ?_
      refine lv_icmp_ge (tgt := 31) hx hb dX6_pass_9 (by decide) (fun hc3 => ?_) (fun hc3 => ?_)
      · rw [if_pos hc3] at hF
        refine lv_iconst (v := (0 : Int32)) hx hb dX6_pass_31 (by decide) ?_
        refine lv_istore_n (lv' := [(1, .int (0 : Int32)), (0, .ref (L.2.1 a0))]) hx hb dX6_pass_32 rfl hl (by decide) rfl (fun ls hl => ?_)
        exact hL33 q a0 (0 : Int32) D _ _ _ hF hP hS (lv_sub hl [1, 0] rfl)
      · rw [if_neg hc3] at hF
        refine lv_aload_n hx hb dX6_pass_12 rfl (lv_at hl 0 rfl) ?_
        refine lv_iload_n hx hb dX6_pass_13 rfl (lv_at hl 1 rfl) ?_
        obtain ⟨f4, ef4, hF⟩ := cp_bind hF
        obtain ⟨y5, ey5, hF⟩ := cp_bind hF
        refine cp_call (st1 := [.int y5.1]) (va_runV (As := [.int i1]) (rest := []) ⟨hx, hb, hml, hown, htT⟩ (ct_X6_lives l G L hJ q a0 i1 D y5 ey5) ⟨callB_of 1 htT gdX6_lives rfl rfl rfl (htT _ tw_8) (htT _ tw_423) hdX6_lives ⟨Nat.le_of_ble_eq_true rfl, Nat.le_of_ble_eq_true rfl⟩, (htT _ tw_424), (htT _ tw_576)⟩ ⟨cp_blind, cp_recv hK hP rfl ef4, cp_pre hP hK hN hZ hS⟩ rfl rfl hl.1 rfl (lv_room (Nat.le_of_ble_eq_true rfl)) dX6_pass_14 ⟨Nat.zero_le _, Nat.zero_le _⟩) hS (fun H locs hP hS => ?_)
        refine lv_if_eq (tgt := 25) hx hb dX6_pass_17 (by decide) (fun hc6 => ?_) (fun hc6 => ?_)
        · rw [if_pos hc6] at hF
          refine lv_iinc (k := 1) (v := (i1 + 1)) (lv' := [(1, .int (i1 + 1)), (0, .ref (L.2.1 a0))]) hx hb dX6_pass_25 hl rfl (congrArg (fun z => i1 + z) (by decide)) (by decide) rfl (fun ls hl => ?_)
          refine lv_goto (tgt := 6) hx hb dX6_pass_28 (by decide) ?_
          exact ih a0 (i1 + 1) y5.2 _ _ _ hF hP hS (lv_sub hl [1, 0] rfl)
        · rw [if_neg hc6] at hF
          refine lv_aload_n hx hb dX6_pass_20 rfl (lv_at hl 0 rfl) ?_
          refine lv_iload_n hx hb dX6_pass_21 rfl (lv_at hl 1 rfl) ?_
          obtain ⟨f7, ef7, hF⟩ := cp_bind hF
          obtain ⟨D8, eD8, hF⟩ := cp_bind hF
          refine cp_call (st1 := []) (va_runV (As := [.int i1]) (rest := []) ⟨hx, hb, hml, hown, htT⟩ (ct_X6_live l G L hJ q a0 i1 y5.2 D8 eD8) ⟨callB_of 1 htT gdX6_live rfl rfl rfl (htT _ tw_8) (htT _ tw_443) hdX6_live ⟨Nat.le_of_ble_eq_true rfl, Nat.le_of_ble_eq_true rfl⟩, (htT _ tw_444), (htT _ tw_580)⟩ ⟨cp_blind, cp_recv hK hP rfl ef7, cp_pre hP hK hN hZ hS⟩ rfl rfl hl.1 rfl (lv_room (Nat.le_of_ble_eq_true rfl)) dX6_pass_22 ⟨Nat.zero_le _, Nat.zero_le _⟩) hS (fun H locs hP hS => ?_)
          refine lv_iinc (k := 1) (v := (i1 + 1)) (lv' := [(1, .int (i1 + 1)), (0, .ref (L.2.1 a0))]) hx hb dX6_pass_25 hl rfl (congrArg (fun z => i1 + z) (by decide)) (by decide) rfl (fun ls hl => ?_)
          refine lv_goto (tgt := 6) hx hb dX6_pass_28 (by decide) ?_
          exact ih a0 (i1 + 1) D8 _ _ _ hF hP hS (lv_sub hl [1, 0] rfl)
  unfold fn_X6_pass at hF
  refine lv_aload_n hx hb dX6_pass_0 rfl (lv_at hl 0 rfl) ?_
  obtain ⟨f1, ef1, hF⟩ := cp_bind hF
  obtain ⟨D2, eD2, hF⟩ := cp_bind hF
  refine cp_call (st1 := []) (va_runV (As := []) (rest := []) ⟨hx, hb, hml, hown, htT⟩ (ct_X6_shine l G L hJ q k0 D D2 eD2) ⟨callB_of 0 htT gdX6_shine rfl rfl rfl (htT _ tw_8) (htT _ tw_440) hdX6_shine ⟨Nat.le_of_ble_eq_true rfl, Nat.le_of_ble_eq_true rfl⟩, (htT _ tw_441), (htT _ tw_579)⟩ ⟨cp_blind, cp_recv hK hP rfl ef1, cp_pre hP hK hN hZ hS⟩ rfl rfl hl.1 rfl (lv_room (Nat.le_of_ble_eq_true rfl)) dX6_pass_1 ⟨Nat.zero_le _, Nat.zero_le _⟩) hS (fun H locs hP hS => ?_)
  refine lv_iconst (v := (0 : Int32)) hx hb dX6_pass_4 (by decide) ?_
  refine lv_istore_n (lv' := [(1, .int (0 : Int32)), (0, .ref (L.2.1 k0))]) hx hb dX6_pass_5 rfl hl (by decide) rfl (fun ls hl => ?_)
  exact hL6 q k0 (0 : Int32) D2 _ _ _ hF hP hS (lv_sub hl [1, 0] rfl)
