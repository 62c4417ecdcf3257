theorem dX3_moveAll_0 : decode cX3_moveAll 0 = .ok (.iconst 0, 1) := by decide +kernel
theorem dX3_moveAll_1 : decode cX3_moveAll 1 = .ok (.istore_n 1, 1) := by decide +kernel
theorem dX3_moveAll_2 : decode cX3_moveAll 2 = .ok (.iload_n 1, 1) := by decide +kernel
theorem dX3_moveAll_3 : decode cX3_moveAll 3 = .ok (.bipush 16, 2) := by decide +kernel
theorem dX3_moveAll_5 : decode cX3_moveAll 5 = .ok (.if_icmp .ge 37, 3) := by decide +kernel
theorem dX3_moveAll_8 : decode cX3_moveAll 8 = .ok (.aload_n 0, 1) := by decide +kernel
theorem dX3_moveAll_9 : decode cX3_moveAll 9 = .ok (.getfield 11, 3) := by decide +kernel
theorem dX3_moveAll_12 : decode cX3_moveAll 12 = .ok (.getfield 15, 3) := by decide +kernel
theorem dX3_moveAll_15 : decode cX3_moveAll 15 = .ok (.iload_n 1, 1) := by decide +kernel
theorem dX3_moveAll_16 : decode cX3_moveAll 16 = .ok (.aaload, 1) := by decide +kernel
theorem dX3_moveAll_17 : decode cX3_moveAll 17 = .ok (.getfield 21, 3) := by decide +kernel
theorem dX3_moveAll_20 : decode cX3_moveAll 20 = .ok (.ifCond .eq 16, 3) := by decide +kernel
theorem dX3_moveAll_23 : decode cX3_moveAll 23 = .ok (.aload_n 0, 1) := by decide +kernel
theorem dX3_moveAll_24 : decode cX3_moveAll 24 = .ok (.aload_n 0, 1) := by decide +kernel
theorem dX3_moveAll_25 : decode cX3_moveAll 25 = .ok (.getfield 11, 3) := by decide +kernel
theorem dX3_moveAll_28 : decode cX3_moveAll 28 = .ok (.getfield 15, 3) := by decide +kernel
theorem dX3_moveAll_31 : decode cX3_moveAll 31 = .ok (.iload_n 1, 1) := by decide +kernel
theorem dX3_moveAll_32 : decode cX3_moveAll 32 = .ok (.aaload, 1) := by decide +kernel
theorem dX3_moveAll_33 : decode cX3_moveAll 33 = .ok (.invokevirtual 27, 3) := by decide +kernel
theorem dX3_moveAll_36 : decode cX3_moveAll 36 = .ok (.iinc 1 1, 3) := by decide +kernel
theorem dX3_moveAll_39 : decode cX3_moveAll 39 = .ok (.goto (-37), 3) := by decide +kernel
theorem dX3_moveAll_42 : decode cX3_moveAll 42 = .ok (.return_, 1) := by decide +kernel
def fn_X3_moveAll_L2 (L : cp_Lay) (q : Nat) : Nat → Nat → Int32 → cp_Dt → Option (cp_Dt)
  | 0, _, _, _ => none
  | n + 1, a0, i1, D =>
    if (16 : Int32) ≤ i1 then (some D)
    else ((cp_gR L a0 3 0).bind fun r2 =>
    (cp_gR L r2 4 4).bind fun r3 =>
    (cp_aR L r3 i1).bind fun r4 =>
    (cp_gI L D r4 1 3).bind fun v5 =>
    if v5 = 0 then (fn_X3_moveAll_L2 L q n a0 (i1 + 1) D)
    else ((cp_gR L a0 3 0).bind fun r7 =>
    (cp_gR L r7 4 4).bind fun r8 =>
    (cp_aR L r8 i1).bind fun r9 =>
    (cp_fl L a0 3).bind fun f10 =>
    (fn_X3_move L q a0 r9 D).bind fun D11 =>
    fn_X3_moveAll_L2 L q n a0 (i1 + 1) D11))
def fn_X3_moveAll (L : cp_Lay) (q : Nat) (k0 : Nat) (D : cp_Dt) : Option (cp_Dt) :=
  fn_X3_moveAll_L2 L q q k0 (0 : Int32) D
set_option maxHeartbeats 4000000 in
set_option maxRecDepth 100000 in
theorem ct_X3_moveAll (l : Launch) (G : va_G) (L : cp_Lay) (hJ : cp_J L) (q : Nat) (k0 : Nat) (D : cp_Dt) (res : cp_Dt) (hF : fn_X3_moveAll L q k0 D = some res) : cp_Met l G yX3_moveAll wsX3_moveAll ({ frames := 5, cells := 0, slots := 0, locals := 118 }) L ([.ref (L.2.1 k0)] : List Value) D res none := by
  refine Met.ofW (cc := cX3_moveAll) (maxL := 2) (ret := none) (by decide) rfl ?_
  intro p e s m args below meth c s₁ B hml hv
  obtain ⟨rfl, hP, hK, hN, hZ⟩ := hv
  have hx := B.exec
  have hb := B.bytes
  have hr := B.returns
  have hts := atoms_spec (ws := wsX3_moveAll) B.pre
  have hown : s.vm.findClass "CreaturePond$Mind" = some m.cls := findClass_of_methodNamed B.named
  have hlocks := B.notSynchronized
  have hS : va_S (cp_A L) s.heap s.heap [] := va_S.rf
  have htT : ∀ w ∈ cp_T, w.before ([.ref (L.2.1 k0)] : List Value).toArray s = true := fun w h => hts w (List.mem_cons_of_mem _ h)
  have hl := lv_entry (([.ref (L.2.1 k0)] : List Value)) (n := 2) (Nat.le_of_ble_eq_true rfl)
  rw [lg_entry_eq]
  generalize (lg_sl (([.ref (L.2.1 k0)] : List Value)) ++ List.replicate (2 - (lg_sl (([.ref (L.2.1 k0)] : List Value))).length) Slot.unset).toArray = ls at hl ⊢
  have hl : lv_has ls 2 [(0, .ref (L.2.1 k0))] := hl
  have hL2 : ∀ (n : Nat) (a0 : Nat) (i1 : Int32) (D : cp_Dt) (H : Heap) (locs : List Loc) (ls : Array Slot), fn_X3_moveAll_L2 L q n a0 i1 D = some res → va_P G vwCl (cp_ws L D) H → va_S (cp_A L) s.heap H locs → lv_has ls 2 [(0, .ref (L.2.1 a0)), (1, .int i1)] → W p l e (headSpec wsX3_moveAll ({ frames := 5, cells := 0, slots := 0, locals := 118 })).room s m ([.ref (L.2.1 k0)] : List Value).toArray below meth c H locs 0 0 (MQ below (cp_Q G L res none) ([.ref (L.2.1 k0)] : List Value).toArray s 0 0 (cp_A L)) (F0 m 2 ls []) := by
    intro n
    induction n with
    | zero =>
      intro a0 i1 D H locs ls hF
      cases hF
    | succ n ih =>
      intro a0 i1 D H locs ls hF hP hS hl
      unfold fn_X3_moveAll_L2 at hF
      refine lv_iload_n hx hb dX3_moveAll_2 rfl (lv_at hl 1 rfl) ?_
      refine lv_bipush (v := (16 : Int32)) hx hb dX3_moveAll_3 (by decide) ?_
      refine lv_icmp_ge (tgt := 42) hx hb dX3_moveAll_5 (by decide) (fun hc1 => ?_) (fun hc1 => ?_)
      · rw [if_pos hc1] at hF
        exact cp_vret hx hb hr hlocks hF hP hS dX3_moveAll_42
      · rw [if_neg hc1] at hF
        refine lv_aload_n hx hb dX3_moveAll_8 rfl (lv_at hl 0 rfl) ?_
        obtain ⟨r2, er2, hF⟩ := cp_bind hF
        refine cp_getR (T := TX3) (N := 1) (ci := 3) (j := 0) hx hb htT hinX3 hown hK hP rfl (by decide) rfl (htT _ tw_126) er2 dX3_moveAll_9 ?_
        obtain ⟨r3, er3, hF⟩ := cp_bind hF
        refine cp_getRN (T := TX4) (N := 12) (ci := 4) (j := 4) hx hb htT hinX4 hown hK hP rfl (by decide) rfl (hN _ (List.mem_of_getElem? (i := 43) rfl)) er3 dX3_moveAll_12 ?_
        refine lv_iload_n hx hb dX3_moveAll_15 rfl (lv_at hl 1 rfl) ?_
        obtain ⟨r4, er4, hF⟩ := cp_bind hF
        refine cp_aald hx hb hK hP er4 dX3_moveAll_16 ?_
        obtain ⟨v5, ev5, hF⟩ := cp_bind hF
        refine cp_getIN (T := TX1) (N := 14) (ci := 1) (j := 3) hx hb htT hinX1 hown hK hP rfl (by decide) rfl (hN _ (List.mem_of_getElem? (i := 11) rfl)) ev5 dX3_moveAll_17 ?_
        refine lv_if_eq (tgt := 36) hx hb dX3_moveAll_20 (by decide) (fun hc6 => ?_) (fun hc6 => ?_)
        · rw [if_pos hc6] at hF
          refine lv_iinc (k := 1) (v := (i1 + 1)) (lv' := [(1, .int (i1 + 1)), (0, .ref (L.2.1 a0))]) hx hb dX3_moveAll_36 hl rfl (congrArg (fun z => i1 + z) (by decide)) (by decide) rfl (fun ls hl => ?_)
          refine lv_goto (tgt := 2) hx hb dX3_moveAll_39 (by decide) ?_
          exact ih a0 (i1 + 1) D _ _ _ hF hP hS (lv_sub hl [1, 0] rfl)
        · rw [if_neg hc6] at hF
          refine lv_aload_n hx hb dX3_moveAll_23 rfl (lv_at hl 0 rfl) ?_
          refine lv_aload_n hx hb dX3_moveAll_24 rfl (lv_at hl 0 rfl) ?_
          obtain ⟨r7, er7, hF⟩ := cp_bind hF
          refine cp_getR (T := TX3) (N := 1) (ci := 3) (j := 0) hx hb htT hinX3 hown hK hP rfl (by decide) rfl (htT _ tw_126) er7 dX3_moveAll_25 ?_
          obtain ⟨r8, er8, hF⟩ := cp_bind hF
          refine cp_getRN (T := TX4) (N := 12) (ci := 4) (j := 4) hx hb htT hinX4 hown hK hP rfl (by decide) rfl (hN _ (List.mem_of_getElem? (i := 43) rfl)) er8 dX3_moveAll_28 ?_
          refine lv_iload_n hx hb dX3_moveAll_31 rfl (lv_at hl 1 rfl) ?_
          obtain ⟨r9, er9, hF⟩ := cp_bind hF
          refine cp_aald hx hb hK hP er9 dX3_moveAll_32 ?_
          obtain ⟨f10, ef10, hF⟩ := cp_bind hF
          obtain ⟨D11, eD11, hF⟩ := cp_bind hF
          refine cp_call (st1 := []) (va_runV (As := [.ref (L.2.1 r9)]) (rest := []) ⟨hx, hb, hml, hown, htT⟩ (ct_X3_move l G L hJ q a0 r9 D D11 eD11) ⟨callB_of 1 htT gdX3_move rfl rfl rfl (htT _ tw_6) (htT _ tw_263) hdX3_move ⟨Nat.le_of_ble_eq_true rfl, Nat.le_of_ble_eq_true rfl⟩, (htT _ tw_264), (htT _ tw_544)⟩ ⟨cp_blind, cp_recv hK hP rfl ef10, cp_pre hP hK hN hZ hS⟩ rfl rfl hl.1 rfl (lv_room (Nat.le_of_ble_eq_true rfl)) dX3_moveAll_33 ⟨Nat.zero_le _, Nat.zero_le _⟩) hS (fun H locs hP hS => ?_)
          refine lv_iinc (k := 1) (v := (i1 + 1)) (lv' := [(1, .int (i1 + 1)), (0, .ref (L.2.1 a0))]) hx hb dX3_moveAll_36 hl rfl (congrArg (fun z => i1 + z) (by decide)) (by decide) rfl (fun ls hl => ?_)
          refine lv_goto (tgt := 2) hx hb dX3_moveAll_39 (by decide) ?_
          exact ih a0 (i1 + 1) D11 _ _ _ hF hP hS (lv_sub hl [1, 0] rfl)
  unfold fn_X3_moveAll at hF
  refine lv_iconst (v := (0 : Int32)) hx hb dX3_moveAll_0 (by decide) ?_
  refine lv_istore_n (lv' := [(1, .int (0 : Int32)), (0, .ref (L.2.1 k0))]) hx hb dX3_moveAll_1 rfl hl (by decide) rfl (fun ls hl => ?_)
  exact hL2 q k0 (0 : Int32) D _ _ _ hF hP hS (lv_sub hl [1, 0] rfl)
theorem dX0_tick_0 : decode cX0_tick 0 = .ok (.iload_n 1, 1) := by decide +kernel
theorem dX0_tick_1 : decode cX0_tick 1 = .ok (.ifCond .lt 9, 3) := by decide +kernel
theorem dX0_tick_4 : decode cX0_tick 4 = .ok (.iload_n 1, 1) := by decide +kernel
theorem dX0_tick_5 : decode cX0_tick 5 = .ok (.bipush 50, 2) := by decide +kernel
theorem dX0_tick_7 : decode cX0_tick 7 = .ok (.if_icmp .le 13, 3) := by decide +kernel
theorem dX0_tick_10 : decode cX0_tick 10 = .ok (.new 73, 3) := by decide +kernel
theorem dX0_tick_13 : decode cX0_tick 13 = .ok (.dup, 1) := by decide +kernel
theorem dX0_tick_14 : decode cX0_tick 14 = .ok (.ldc 117, 2) := by decide +kernel
theorem dX0_tick_16 : decode cX0_tick 16 = .ok (.invokespecial 77, 3) := by decide +kernel
theorem dX0_tick_19 : decode cX0_tick 19 = .ok (.athrow, 1) := by decide +kernel
theorem dX0_tick_20 : decode cX0_tick 20 = .ok (.iconst 0, 1) := by decide +kernel
theorem dX0_tick_21 : decode cX0_tick 21 = .ok (.istore_n 2, 1) := by decide +kernel
theorem dX0_tick_22 : decode cX0_tick 22 = .ok (.iload_n 2, 1) := by decide +kernel
theorem dX0_tick_23 : decode cX0_tick 23 = .ok (.iload_n 1, 1) := by decide +kernel
theorem dX0_tick_24 : decode cX0_tick 24 = .ok (.if_icmp .ge 50, 3) := by decide +kernel
theorem dX0_tick_27 : decode cX0_tick 27 = .ok (.aload_n 0, 1) := by decide +kernel
theorem dX0_tick_28 : decode cX0_tick 28 = .ok (.getfield 32, 3) := by decide +kernel
theorem dX0_tick_31 : decode cX0_tick 31 = .ok (.invokevirtual 119, 3) := by decide +kernel
theorem dX0_tick_34 : decode cX0_tick 34 = .ok (.aload_n 0, 1) := by decide +kernel
theorem dX0_tick_35 : decode cX0_tick 35 = .ok (.getfield 44, 3) := by decide +kernel
theorem dX0_tick_38 : decode cX0_tick 38 = .ok (.invokevirtual 122, 3) := by decide +kernel
theorem dX0_tick_41 : decode cX0_tick 41 = .ok (.aload_n 0, 1) := by decide +kernel
theorem dX0_tick_42 : decode cX0_tick 42 = .ok (.getfield 51, 3) := by decide +kernel
theorem dX0_tick_45 : decode cX0_tick 45 = .ok (.invokevirtual 125, 3) := by decide +kernel
theorem dX0_tick_48 : decode cX0_tick 48 = .ok (.aload_n 0, 1) := by decide +kernel
theorem dX0_tick_49 : decode cX0_tick 49 = .ok (.getfield 32, 3) := by decide +kernel
theorem dX0_tick_52 : decode cX0_tick 52 = .ok (.invokevirtual 128, 3) := by decide +kernel
theorem dX0_tick_55 : decode cX0_tick 55 = .ok (.aload_n 0, 1) := by decide +kernel
theorem dX0_tick_56 : decode cX0_tick 56 = .ok (.getfield 32, 3) := by decide +kernel
theorem dX0_tick_59 : decode cX0_tick 59 = .ok (.dup, 1) := by decide +kernel
theorem dX0_tick_60 : decode cX0_tick 60 = .ok (.getfield 131, 3) := by decide +kernel
theorem dX0_tick_63 : decode cX0_tick 63 = .ok (.iconst 1, 1) := by decide +kernel
theorem dX0_tick_64 : decode cX0_tick 64 = .ok (.iadd, 1) := by decide +kernel
theorem dX0_tick_65 : decode cX0_tick 65 = .ok (.putfield 131, 3) := by decide +kernel
theorem dX0_tick_68 : decode cX0_tick 68 = .ok (.iinc 2 1, 3) := by decide +kernel
theorem dX0_tick_71 : decode cX0_tick 71 = .ok (.goto (-49), 3) := by decide +kernel
theorem dX0_tick_74 : decode cX0_tick 74 = .ok (.aload_n 0, 1) := by decide +kernel
theorem dX0_tick_75 : decode cX0_tick 75 = .ok (.getfield 32, 3) := by decide +kernel
theorem dX0_tick_78 : decode cX0_tick 78 = .ok (.invokevirtual 134, 3) := by decide +kernel
theorem dX0_tick_81 : decode cX0_tick 81 = .ok (.ireturn, 1) := by decide +kernel
def fn_X0_tick_L22 (L : cp_Lay) (q : Nat) : Nat → Nat → Int32 → Int32 → cp_Dt → Option (Int32 × cp_Dt)
  | 0, _, _, _, _ => none
  | n + 1, a0, i1, i2, D =>
    if i1 ≤ i2 then ((cp_gR L a0 0 1).bind fun r4 =>
    (cp_fl L r4 4).bind fun f5 =>
    (fn_X4_countAnimals L q r4 D).bind fun y6 =>
    some (y6.1, y6.2))
    else ((cp_gR L a0 0 1).bind fun r7 =>
    (cp_fl L r7 4).bind fun f8 =>
    (fn_X4_shine L q r7 D).bind fun D9 =>
    (cp_gR L a0 0 3).bind fun r10 =>
    (cp_fl L r10 3).bind fun f11 =>
    (fn_X3_moveAll L q r10 D9).bind fun D12 =>
    (cp_gR L a0 0 4).bind fun r13 =>
    (cp_fl L r13 2).bind fun f14 =>
    (fn_X2_breedAll L q r13 D12).bind fun D15 =>
    (cp_gR L a0 0 1).bind fun r16 =>
    (cp_fl L r16 4).bind fun f17 =>
    (fn_X4_endDead L q r16 D15).bind fun D18 =>
    (cp_gR L a0 0 1).bind fun r19 =>
    (cp_gI L D18 r19 4 11).bind fun v20 =>
    (cp_pI L D18 r19 4 11 (v20 + (1 : Int32))).bind fun D21 =>
    fn_X0_tick_L22 L q n a0 i1 (i2 + 1) D21)
def fn_X0_tick (L : cp_Lay) (q : Nat) (k0 : Nat) (x1 : Int32) (D : cp_Dt) : Option (Int32 × cp_Dt) :=
  if x1 < 0 then (none)
  else (if x1 ≤ (50 : Int32) then (fn_X0_tick_L22 L q q k0 x1 (0 : Int32) D)
  else (none))
set_option maxHeartbeats 4000000 in
set_option maxRecDepth 100000 in
theorem ct_X0_tick (l : Launch) (G : va_G) (L : cp_Lay) (hJ : cp_J L) (q : Nat) (k0 : Nat) (x1 : Int32) (D : cp_Dt) (res : Int32 × cp_Dt) (hF : fn_X0_tick L q k0 x1 D = some res) : cp_Met l G yX0_tick wsX0_tick ({ frames := 6, cells := 0, slots := 0, locals := 139 }) L ([.ref (L.2.1 k0), .int x1] : List Value) D res.2 (some (.int res.1)) := by
  refine Met.ofW (cc := cX0_tick) (maxL := 3) (ret := (some .int)) (by decide) rfl ?_
  intro p e s m args below meth c s₁ B hml hv
  obtain ⟨rfl, hP, hK, hN, hZ⟩ := hv
  have hx := B.exec
  have hb := B.bytes
  have hr := B.returns
  have hts := atoms_spec (ws := wsX0_tick) B.pre
  have hown : s.vm.findClass "CreaturePond" = some m.cls := findClass_of_methodNamed B.named
  have hlocks := B.notSynchronized
  have hS : va_S (cp_A L) s.heap s.heap [] := va_S.rf
  have htT : ∀ w ∈ cp_T, w.before ([.ref (L.2.1 k0), .int x1] : List Value).toArray s = true := fun w h => hts w (List.mem_cons_of_mem _ h)
  have hl := lv_entry (([.ref (L.2.1 k0), .int x1] : List Value)) (n := 3) (Nat.le_of_ble_eq_true rfl)
  rw [lg_entry_eq]
  generalize (lg_sl (([.ref (L.2.1 k0), .int x1] : List Value)) ++ List.replicate (3 - (lg_sl (([.ref (L.2.1 k0), .int x1] : List Value))).length) Slot.unset).toArray = ls at hl ⊢
  have hl : lv_has ls 3 [(0, .ref (L.2.1 k0)), (1, .int x1)] := hl
  have hL22 : ∀ (n : Nat) (a0 : Nat) (i1 : Int32) (i2 : Int32) (D : cp_Dt) (H : Heap) (locs : List Loc) (ls : Array Slot), fn_X0_tick_L22 L q n a0 i1 i2 D = some res → va_P G vwCl (cp_ws L D) H → va_S (cp_A L) s.heap H locs → lv_has ls 3 [(0, .ref (L.2.1 a0)), (1, .int i1), (2, .int i2)] → W p l e (headSpec wsX0_tick ({ frames := 6, cells := 0, slots := 0, locals := 139 })).room s m ([.ref (L.2.1 k0), .int x1] : List Value).toArray below meth c H locs 0 0 (MQ below (cp_Q G L res.2 (some (.int res.1))) ([.ref (L.2.1 k0), .int x1] : List Value).toArray s 0 0 (cp_A L)) (F0 m 22 ls []) := by
    intro n
    induction n with
    | zero =>
      intro a0 i1 i2 D H locs ls hF
      cases hF
    | succ n ih =>
      intro a0 i1 i2 D H locs ls hF hP hS hl
      unfold fn_X0_tick_L22 at hF
      refine lv_iload_n hx hb dX0_tick_22 rfl (lv_at hl 2 rfl) ?_
      refine lv_iload_n hx hb dX0_tick_23 rfl (lv_at hl 1 rfl) ?_
      refine lv_icmp_ge (tgt := 74) hx hb dX0_tick_24 (by decide) (fun hc3 => ?_) (fun hc3 => ?_)
      · rw [if_pos hc3] at hF
        refine lv_aload_n hx hb dX0_tick_74 rfl (lv_at hl 0 rfl) ?_
        obtain ⟨r4, er4, hF⟩ := cp_bind hF
        refine cp_getR (T := TX0) (N := 6) (ci := 0) (j := 1) hx hb htT hinX0 hown hK hP rfl (by decide) rfl (htT _ tw_136) er4 dX0_tick_75 ?_
        obtain ⟨f5, ef5, hF⟩ := cp_bind hF
        obtain ⟨y6, ey6, hF⟩ := cp_bind hF
        refine cp_call (st1 := [.int y6.1]) (va_runVN (As := []) (rest := []) ⟨hx, hb, hml, hown, htT⟩ (ct_X4_countAnimals l G L hJ q r4 D y6 ey6) ⟨va_cnB 0 htT gdX4_countAnimals rfl rfl rfl (hN _ (List.mem_of_getElem? (i := 63) rfl)) (htT _ tw_4) hdX4_countAnimals ⟨Nat.le_of_ble_eq_true rfl, Nat.le_of_ble_eq_true rfl⟩, (htT _ tw_180), (htT _ tw_535)⟩ ⟨cp_blind, cp_recv hK hP rfl ef5, cp_pre hP hK hN hZ hS⟩ rfl rfl hl.1 rfl (lv_room (Nat.le_of_ble_eq_true rfl)) dX0_tick_78 ⟨Nat.zero_le _, Nat.zero_le _⟩) hS (fun H locs hP hS => ?_)
        exact cp_iret hx hb hr hlocks hF hP hS dX0_tick_81
      · rw [if_neg hc3] at hF
        refine lv_aload_n hx hb dX0_tick_27 rfl (lv_at hl 0 rfl) ?_
        obtain ⟨r7, er7, hF⟩ := cp_bind hF
        refine cp_getR (T := TX0) (N := 6) (ci := 0) (j := 1) hx hb htT hinX0 hown hK hP rfl (by decide) rfl (htT _ tw_136) er7 dX0_tick_28 ?_
        obtain ⟨f8, ef8, hF⟩ := cp_bind hF
        obtain ⟨D9, eD9, hF⟩ := cp_bind hF
        refine cp_call (st1 := []) (va_runVN (As := []) (rest := []) ⟨hx, hb, hml, hown, htT⟩ (ct_X4_shine l G L hJ q r7 D D9 eD9) ⟨va_cnB 0 htT gdX4_shine rfl rfl rfl (hN _ (List.mem_of_getElem? (i := 70) rfl)) (htT _ tw_4) hdX4_shine ⟨Nat.le_of_ble_eq_true rfl, Nat.le_of_ble_eq_true rfl⟩, (htT _ tw_259), (htT _ tw_542)⟩ ⟨cp_blind, cp_recv hK hP rfl ef8, cp_pre hP hK hN hZ hS⟩ rfl rfl hl.1 rfl (lv_room (Nat.le_of_ble_eq_true rfl)) dX0_tick_31 ⟨Nat.zero_le _, Nat.zero_le _⟩) hS (fun H locs hP hS => ?_)
        refine lv_aload_n hx hb dX0_tick_34 rfl (lv_at hl 0 rfl) ?_
        obtain ⟨r10, er10, hF⟩ := cp_bind hF
        refine cp_getR (T := TX0) (N := 6) (ci := 0) (j := 3) hx hb htT hinX0 hown hK hP rfl (by decide) rfl (htT _ tw_138) er10 dX0_tick_35 ?_
        obtain ⟨f11, ef11, hF⟩ := cp_bind hF
        obtain ⟨D12, eD12, hF⟩ := cp_bind hF
        refine cp_call (st1 := []) (va_runVN (As := []) (rest := []) ⟨hx, hb, hml, hown, htT⟩ (ct_X3_moveAll l G L hJ q r10 D9 D12 eD12) ⟨va_cnB 0 htT gdX3_moveAll rfl rfl rfl (hN _ (List.mem_of_getElem? (i := 71) rfl)) (htT _ tw_6) hdX3_moveAll ⟨Nat.le_of_ble_eq_true rfl, Nat.le_of_ble_eq_true rfl⟩, (htT _ tw_261), (htT _ tw_543)⟩ ⟨cp_blind, cp_recv hK hP rfl ef11, cp_pre hP hK hN hZ hS⟩ rfl rfl hl.1 rfl (lv_room (Nat.le_of_ble_eq_true rfl)) dX0_tick_38 ⟨Nat.zero_le _, Nat.zero_le _⟩) hS (fun H locs hP hS => ?_)
        refine lv_aload_n hx hb dX0_tick_41 rfl (lv_at hl 0 rfl) ?_
        obtain ⟨r13, er13, hF⟩ := cp_bind hF
        refine cp_getR (T := TX0) (N := 6) (ci := 0) (j := 4) hx hb htT hinX0 hown hK hP rfl (by decide) rfl (htT _ tw_139) er13 dX0_tick_42 ?_
        obtain ⟨f14, ef14, hF⟩ := cp_bind hF
        obtain ⟨D15, eD15, hF⟩ := cp_bind hF
        refine cp_call (st1 := []) (va_runVN (As := []) (rest := []) ⟨hx, hb, hml, hown, htT⟩ (ct_X2_breedAll l G L hJ q r13 D12 D15 eD15) ⟨va_cnB 0 htT gdX2_breedAll rfl rfl rfl (hN _ (List.mem_of_getElem? (i := 76) rfl)) (htT _ tw_7) hdX2_breedAll ⟨Nat.le_of_ble_eq_true rfl, Nat.le_of_ble_eq_true rfl⟩, (htT _ tw_308), (htT _ tw_559)⟩ ⟨cp_blind, cp_recv hK hP rfl ef14, cp_pre hP hK hN hZ hS⟩ rfl rfl hl.1 rfl (lv_room (Nat.le_of_ble_eq_true rfl)) dX0_tick_45 ⟨Nat.zero_le _, Nat.zero_le _⟩) hS (fun H locs hP hS => ?_)
        refine lv_aload_n hx hb dX0_tick_48 rfl (lv_at hl 0 rfl) ?_
        obtain ⟨r16, er16, hF⟩ := cp_bind hF
        refine cp_getR (T := TX0) (N := 6) (ci := 0) (j := 1) hx hb htT hinX0 hown hK hP rfl (by decide) rfl (htT _ tw_136) er16 dX0_tick_49 ?_
        obtain ⟨f17, ef17, hF⟩ := cp_bind hF
        obtain ⟨D18, eD18, hF⟩ := cp_bind hF
        refine cp_call (st1 := []) (va_runVN (As := []) (rest := []) ⟨hx, hb, hml, hown, htT⟩ (ct_X4_endDead l G L hJ q r16 D15 D18 eD18) ⟨va_cnB 0 htT gdX4_endDead rfl rfl rfl (hN _ (List.mem_of_getElem? (i := 85) rfl)) (htT _ tw_4) hdX4_endDead ⟨Nat.le_of_ble_eq_true rfl, Nat.le_of_ble_eq_true rfl⟩, (htT _ tw_338), (htT _ tw_569)⟩ ⟨cp_blind, cp_recv hK hP rfl ef17, cp_pre hP hK hN hZ hS⟩ rfl rfl hl.1 rfl (lv_room (Nat.le_of_ble_eq_true rfl)) dX0_tick_52 ⟨Nat.zero_le _, Nat.zero_le _⟩) hS (fun H locs hP hS => ?_)
        refine lv_aload_n hx hb dX0_tick_55 rfl (lv_at hl 0 rfl) ?_
        obtain ⟨r19, er19, hF⟩ := cp_bind hF
        refine cp_getR (T := TX0) (N := 6) (ci := 0) (j := 1) hx hb htT hinX0 hown hK hP rfl (by decide) rfl (htT _ tw_136) er19 dX0_tick_56 ?_
        refine lv_dup hx hb dX0_tick_59 rfl ?_
        obtain ⟨v20, ev20, hF⟩ := cp_bind hF
        refine cp_getIN (T := TX4) (N := 12) (ci := 4) (j := 11) hx hb htT hinX4 hown hK hP rfl (by decide) rfl (hN _ (List.mem_of_getElem? (i := 53) rfl)) ev20 dX0_tick_60 ?_
        refine lv_iconst (v := (1 : Int32)) hx hb dX0_tick_63 (by decide) ?_
        refine lv_iadd hx hb dX0_tick_64 ?_
        obtain ⟨D21, eD21, hF⟩ := cp_bind hF
        refine cp_putN (T := TX4) (N := 12) (ci := 4) (j := 11) hx hb htT hinX4 tyX4 tyX4_ok nmX4 hown hK hJ hP hS rfl (by decide) rfl (hN _ (List.mem_of_getElem? (i := 53) rfl)) rfl rfl rfl eD21 dX0_tick_65 (fun H locs hP hS => ?_)
        refine lv_iinc (k := 2) (v := (i2 + 1)) (lv' := [(2, .int (i2 + 1)), (0, .ref (L.2.1 a0)), (1, .int i1)]) hx hb dX0_tick_68 hl rfl (congrArg (fun z => i2 + z) (by decide)) (by decide) rfl (fun ls hl => ?_)
        refine lv_goto (tgt := 22) hx hb dX0_tick_71 (by decide) ?_
        exact ih a0 i1 (i2 + 1) D21 _ _ _ hF hP hS (lv_sub hl [1, 2, 0] rfl)
  unfold fn_X0_tick at hF
  refine lv_iload_n hx hb dX0_tick_0 rfl (lv_at hl 1 rfl) ?_
  refine lv_if_lt (tgt := 10) hx hb dX0_tick_1 (by decide) (fun hc1 => ?_) (fun hc1 => ?_)
  · rw [if_pos hc1] at hF
    cases hF
  · rw [if_neg hc1] at hF
    refine lv_iload_n hx hb dX0_tick_4 rfl (lv_at hl 1 rfl) ?_
    refine lv_bipush (v := (50 : Int32)) hx hb dX0_tick_5 (by decide) ?_
    refine lv_icmp_le (tgt := 20) hx hb dX0_tick_7 (by decide) (fun hc2 => ?_) (fun hc2 => ?_)
    · rw [if_pos hc2] at hF
      refine lv_iconst (v := (0 : Int32)) hx hb dX0_tick_20 (by decide) ?_
      refine lv_istore_n (lv' := [(2, .int (0 : Int32)), (0, .ref (L.2.1 k0)), (1, .int x1)]) hx hb dX0_tick_21 rfl hl (by decide) rfl (fun ls hl => ?_)
      exact hL22 q k0 x1 (0 : Int32) D _ _ _ hF hP hS (lv_sub hl [1, 2, 0] rfl)
    · rw [if_neg hc2] at hF
      cases hF
theorem dX6_operate_0 : decode cX6_operate 0 = .ok (.iload_n 1, 1) := by decide +kernel
theorem dX6_operate_1 : decode cX6_operate 1 = .ok (.invokestatic 30, 3) := by decide +kernel
theorem dX6_operate_4 : decode cX6_operate 4 = .ok (.istore_n 2, 1) := by decide +kernel
theorem dX6_operate_5 : decode cX6_operate 5 = .ok (.aload_n 0, 1) := by decide +kernel
theorem dX6_operate_6 : decode cX6_operate 6 = .ok (.getfield 7, 3) := by decide +kernel
theorem dX6_operate_9 : decode cX6_operate 9 = .ok (.iload_n 2, 1) := by decide +kernel
theorem dX6_operate_10 : decode cX6_operate 10 = .ok (.iconst 5, 1) := by decide +kernel
theorem dX6_operate_11 : decode cX6_operate 11 = .ok (.iadd, 1) := by decide +kernel
theorem dX6_operate_12 : decode cX6_operate 12 = .ok (.iaload, 1) := by decide +kernel
theorem dX6_operate_13 : decode cX6_operate 13 = .ok (.istore_n 3, 1) := by decide +kernel
theorem dX6_operate_14 : decode cX6_operate 14 = .ok (.aload_n 0, 1) := by decide +kernel
theorem dX6_operate_15 : decode cX6_operate 15 = .ok (.getfield 7, 3) := by decide +kernel
theorem dX6_operate_18 : decode cX6_operate 18 = .ok (.iload_n 2, 1) := by decide +kernel
theorem dX6_operate_19 : decode cX6_operate 19 = .ok (.iconst 4, 1) := by decide +kernel
theorem dX6_operate_20 : decode cX6_operate 20 = .ok (.iadd, 1) := by decide +kernel
theorem dX6_operate_21 : decode cX6_operate 21 = .ok (.iaload, 1) := by decide +kernel
theorem dX6_operate_22 : decode cX6_operate 22 = .ok (.istore 4, 2) := by decide +kernel
theorem dX6_operate_24 : decode cX6_operate 24 = .ok (.aload_n 0, 1) := by decide +kernel
theorem dX6_operate_25 : decode cX6_operate 25 = .ok (.iload_n 1, 1) := by decide +kernel
theorem dX6_operate_26 : decode cX6_operate 26 = .ok (.iload 4, 2) := by decide +kernel
theorem dX6_operate_28 : decode cX6_operate 28 = .ok (.invokevirtual 64, 3) := by decide +kernel
theorem dX6_operate_31 : decode cX6_operate 31 = .ok (.sipush 255, 3) := by decide +kernel
theorem dX6_operate_34 : decode cX6_operate 34 = .ok (.iand, 1) := by decide +kernel
theorem dX6_operate_35 : decode cX6_operate 35 = .ok (.bipush 22, 2) := by decide +kernel
theorem dX6_operate_37 : decode cX6_operate 37 = .ok (.irem, 1) := by decide +kernel
theorem dX6_operate_38 : decode cX6_operate 38 = .ok (.istore 5, 2) := by decide +kernel
theorem dX6_operate_40 : decode cX6_operate 40 = .ok (.iload 5, 2) := by decide +kernel
theorem dX6_operate_42 : decode cX6_operate 42 = .ok (.invokestatic 67, 3) := by decide +kernel
theorem dX6_operate_45 : decode cX6_operate 45 = .ok (.istore 6, 2) := by decide +kernel
theorem dX6_operate_47 : decode cX6_operate 47 = .ok (.aload_n 0, 1) := by decide +kernel
theorem dX6_operate_48 : decode cX6_operate 48 = .ok (.iload_n 1, 1) := by decide +kernel
theorem dX6_operate_49 : decode cX6_operate 49 = .ok (.iload 4, 2) := by decide +kernel
theorem dX6_operate_51 : decode cX6_operate 51 = .ok (.iconst 1, 1) := by decide +kernel
theorem dX6_operate_52 : decode cX6_operate 52 = .ok (.iadd, 1) := by decide +kernel
theorem dX6_operate_53 : decode cX6_operate 53 = .ok (.invokevirtual 64, 3) := by decide +kernel
theorem dX6_operate_56 : decode cX6_operate 56 = .ok (.istore 7, 2) := by decide +kernel
theorem dX6_operate_58 : decode cX6_operate 58 = .ok (.aload_n 0, 1) := by decide +kernel
theorem dX6_operate_59 : decode cX6_operate 59 = .ok (.iload_n 1, 1) := by decide +kernel
theorem dX6_operate_60 : decode cX6_operate 60 = .ok (.iload 4, 2) := by decide +kernel
theorem dX6_operate_62 : decode cX6_operate 62 = .ok (.iconst 2, 1) := by decide +kernel
theorem dX6_operate_63 : decode cX6_operate 63 = .ok (.iadd, 1) := by decide +kernel
theorem dX6_operate_64 : decode cX6_operate 64 = .ok (.invokevirtual 64, 3) := by decide +kernel
theorem dX6_operate_67 : decode cX6_operate 67 = .ok (.istore 8, 2) := by decide +kernel
theorem dX6_operate_69 : decode cX6_operate 69 = .ok (.aload_n 0, 1) := by decide +kernel
theorem dX6_operate_70 : decode cX6_operate 70 = .ok (.getfield 7, 3) := by decide +kernel
theorem dX6_operate_73 : decode cX6_operate 73 = .ok (.iload_n 2, 1) := by decide +kernel
theorem dX6_operate_74 : decode cX6_operate 74 = .ok (.bipush 10, 2) := by decide +kernel
theorem dX6_operate_76 : decode cX6_operate 76 = .ok (.iadd, 1) := by decide +kernel
theorem dX6_operate_77 : decode cX6_operate 77 = .ok (.iload 7, 2) := by decide +kernel
theorem dX6_operate_79 : decode cX6_operate 79 = .ok (.bipush 7, 2) := by decide +kernel
theorem dX6_operate_81 : decode cX6_operate 81 = .ok (.iand, 1) := by decide +kernel
theorem dX6_operate_82 : decode cX6_operate 82 = .ok (.iadd, 1) := by decide +kernel
theorem dX6_operate_83 : decode cX6_operate 83 = .ok (.iaload, 1) := by decide +kernel
theorem dX6_operate_84 : decode cX6_operate 84 = .ok (.istore 9, 2) := by decide +kernel
theorem dX6_operate_86 : decode cX6_operate 86 = .ok (.aload_n 0, 1) := by decide +kernel
theorem dX6_operate_87 : decode cX6_operate 87 = .ok (.getfield 7, 3) := by decide +kernel
theorem dX6_operate_90 : decode cX6_operate 90 = .ok (.iload_n 2, 1) := by decide +kernel
theorem dX6_operate_91 : decode cX6_operate 91 = .ok (.iconst 4, 1) := by decide +kernel
theorem dX6_operate_92 : decode cX6_operate 92 = .ok (.iadd, 1) := by decide +kernel
theorem dX6_operate_93 : decode cX6_operate 93 = .ok (.iload 4, 2) := by decide +kernel
theorem dX6_operate_95 : decode cX6_operate 95 = .ok (.iconst 1, 1) := by decide +kernel
theorem dX6_operate_96 : decode cX6_operate 96 = .ok (.iadd, 1) := by decide +kernel
theorem dX6_operate_97 : decode cX6_operate 97 = .ok (.iload 6, 2) := by decide +kernel
theorem dX6_operate_99 : decode cX6_operate 99 = .ok (.iadd, 1) := by decide +kernel
theorem dX6_operate_100 : decode cX6_operate 100 = .ok (.iload_n 3, 1) := by decide +kernel
theorem dX6_operate_101 : decode cX6_operate 101 = .ok (.irem, 1) := by decide +kernel
theorem dX6_operate_102 : decode cX6_operate 102 = .ok (.iastore, 1) := by decide +kernel
theorem dX6_operate_103 : decode cX6_operate 103 = .ok (.iload 5, 2) := by decide +kernel
theorem dX6_operate_105 : decode cX6_operate 105 = .ok (.bipush 15, 2) := by decide +kernel
theorem dX6_operate_107 : decode cX6_operate 107 = .ok (.if_icmp .le 15, 3) := by decide +kernel
theorem dX6_operate_110 : decode cX6_operate 110 = .ok (.aload_n 0, 1) := by decide +kernel
theorem dX6_operate_111 : decode cX6_operate 111 = .ok (.iload_n 1, 1) := by decide +kernel
theorem dX6_operate_112 : decode cX6_operate 112 = .ok (.iload 5, 2) := by decide +kernel
theorem dX6_operate_114 : decode cX6_operate 114 = .ok (.iload 7, 2) := by decide +kernel
theorem dX6_operate_116 : decode cX6_operate 116 = .ok (.invokevirtual 70, 3) := by decide +kernel
theorem dX6_operate_119 : decode cX6_operate 119 = .ok (.goto 186, 3) := by decide +kernel
theorem dX6_operate_122 : decode cX6_operate 122 = .ok (.iload 5, 2) := by decide +kernel
theorem dX6_operate_124 : decode cX6_operate 124 = .ok (.bipush 11, 2) := by decide +kernel
theorem dX6_operate_126 : decode cX6_operate 126 = .ok (.if_icmp .ne 22, 3) := by decide +kernel
theorem dX6_operate_129 : decode cX6_operate 129 = .ok (.aload_n 0, 1) := by decide +kernel
theorem dX6_operate_130 : decode cX6_operate 130 = .ok (.getfield 7, 3) := by decide +kernel
theorem dX6_operate_133 : decode cX6_operate 133 = .ok (.iload_n 2, 1) := by decide +kernel
theorem dX6_operate_134 : decode cX6_operate 134 = .ok (.iconst 4, 1) := by decide +kernel
theorem dX6_operate_135 : decode cX6_operate 135 = .ok (.iadd, 1) := by decide +kernel
theorem dX6_operate_136 : decode cX6_operate 136 = .ok (.iload 7, 2) := by decide +kernel
theorem dX6_operate_138 : decode cX6_operate 138 = .ok (.sipush 255, 3) := by decide +kernel
theorem dX6_operate_141 : decode cX6_operate 141 = .ok (.iand, 1) := by decide +kernel
theorem dX6_operate_142 : decode cX6_operate 142 = .ok (.iload_n 3, 1) := by decide +kernel
theorem dX6_operate_143 : decode cX6_operate 143 = .ok (.irem, 1) := by decide +kernel
theorem dX6_operate_144 : decode cX6_operate 144 = .ok (.iastore, 1) := by decide +kernel
theorem dX6_operate_145 : decode cX6_operate 145 = .ok (.goto 160, 3) := by decide +kernel
theorem dX6_operate_148 : decode cX6_operate 148 = .ok (.iload 5, 2) := by decide +kernel
theorem dX6_operate_150 : decode cX6_operate 150 = .ok (.bipush 12, 2) := by decide +kernel
theorem dX6_operate_152 : decode cX6_operate 152 = .ok (.if_icmp .eq 10, 3) := by decide +kernel
theorem dX6_operate_155 : decode cX6_operate 155 = .ok (.iload 5, 2) := by decide +kernel
theorem dX6_operate_157 : decode cX6_operate 157 = .ok (.bipush 13, 2) := by decide +kernel
theorem dX6_operate_159 : decode cX6_operate 159 = .ok (.if_icmp .ne 70, 3) := by decide +kernel
theorem dX6_operate_162 : decode cX6_operate 162 = .ok (.iload 5, 2) := by decide +kernel
theorem dX6_operate_164 : decode cX6_operate 164 = .ok (.bipush 12, 2) := by decide +kernel
theorem dX6_operate_166 : decode cX6_operate 166 = .ok (.if_icmp .ne 16, 3) := by decide +kernel
theorem dX6_operate_169 : decode cX6_operate 169 = .ok (.iload 9, 2) := by decide +kernel
theorem dX6_operate_171 : decode cX6_operate 171 = .ok (.ifCond .ne 7, 3) := by decide +kernel
theorem dX6_operate_174 : decode cX6_operate 174 = .ok (.iconst 1, 1) := by decide +kernel
theorem dX6_operate_175 : decode cX6_operate 175 = .ok (.goto 17, 3) := by decide +kernel
theorem dX6_operate_178 : decode cX6_operate 178 = .ok (.iconst 0, 1) := by decide +kernel
theorem dX6_operate_179 : decode cX6_operate 179 = .ok (.goto 13, 3) := by decide +kernel
theorem dX6_operate_182 : decode cX6_operate 182 = .ok (.iload 9, 2) := by decide +kernel
theorem dX6_operate_184 : decode cX6_operate 184 = .ok (.ifCond .ge 7, 3) := by decide +kernel
theorem dX6_operate_187 : decode cX6_operate 187 = .ok (.iconst 1, 1) := by decide +kernel
theorem dX6_operate_188 : decode cX6_operate 188 = .ok (.goto 4, 3) := by decide +kernel
theorem dX6_operate_191 : decode cX6_operate 191 = .ok (.iconst 0, 1) := by decide +kernel
theorem dX6_operate_192 : decode cX6_operate 192 = .ok (.istore 10, 2) := by decide +kernel
theorem dX6_operate_194 : decode cX6_operate 194 = .ok (.aload_n 0, 1) := by decide +kernel
theorem dX6_operate_195 : decode cX6_operate 195 = .ok (.getfield 7, 3) := by decide +kernel
theorem dX6_operate_198 : decode cX6_operate 198 = .ok (.iload_n 2, 1) := by decide +kernel
theorem dX6_operate_199 : decode cX6_operate 199 = .ok (.iconst 4, 1) := by decide +kernel
theorem dX6_operate_200 : decode cX6_operate 200 = .ok (.iadd, 1) := by decide +kernel
theorem dX6_operate_201 : decode cX6_operate 201 = .ok (.iload 10, 2) := by decide +kernel
theorem dX6_operate_203 : decode cX6_operate 203 = .ok (.ifCond .eq 14, 3) := by decide +kernel
theorem dX6_operate_206 : decode cX6_operate 206 = .ok (.iload 8, 2) := by decide +kernel
theorem dX6_operate_208 : decode cX6_operate 208 = .ok (.sipush 255, 3) := by decide +kernel
theorem dX6_operate_211 : decode cX6_operate 211 = .ok (.iand, 1) := by decide +kernel
theorem dX6_operate_212 : decode cX6_operate 212 = .ok (.iload_n 3, 1) := by decide +kernel
theorem dX6_operate_213 : decode cX6_operate 213 = .ok (.irem, 1) := by decide +kernel
theorem dX6_operate_214 : decode cX6_operate 214 = .ok (.goto 11, 3) := by decide +kernel
theorem dX6_operate_217 : decode cX6_operate 217 = .ok (.aload_n 0, 1) := by decide +kernel
theorem dX6_operate_218 : decode cX6_operate 218 = .ok (.getfield 7, 3) := by decide +kernel
theorem dX6_operate_221 : decode cX6_operate 221 = .ok (.iload_n 2, 1) := by decide +kernel
theorem dX6_operate_222 : decode cX6_operate 222 = .ok (.iconst 4, 1) := by decide +kernel
theorem dX6_operate_223 : decode cX6_operate 223 = .ok (.iadd, 1) := by decide +kernel
theorem dX6_operate_224 : decode cX6_operate 224 = .ok (.iaload, 1) := by decide +kernel
theorem dX6_operate_225 : decode cX6_operate 225 = .ok (.iastore, 1) := by decide +kernel
theorem dX6_operate_226 : decode cX6_operate 226 = .ok (.goto 79, 3) := by decide +kernel
theorem dX6_operate_229 : decode cX6_operate 229 = .ok (.iload 5, 2) := by decide +kernel
theorem dX6_operate_231 : decode cX6_operate 231 = .ok (.bipush 10, 2) := by decide +kernel
theorem dX6_operate_233 : decode cX6_operate 233 = .ok (.if_icmp .ne 36, 3) := by decide +kernel
theorem dX6_operate_236 : decode cX6_operate 236 = .ok (.aload_n 0, 1) := by decide +kernel
theorem dX6_operate_237 : decode cX6_operate 237 = .ok (.getfield 7, 3) := by decide +kernel
theorem dX6_operate_240 : decode cX6_operate 240 = .ok (.iload_n 2, 1) := by decide +kernel
theorem dX6_operate_241 : decode cX6_operate 241 = .ok (.bipush 18, 2) := by decide +kernel
theorem dX6_operate_243 : decode cX6_operate 243 = .ok (.iadd, 1) := by decide +kernel
theorem dX6_operate_244 : decode cX6_operate 244 = .ok (.aload_n 0, 1) := by decide +kernel
theorem dX6_operate_245 : decode cX6_operate 245 = .ok (.getfield 7, 3) := by decide +kernel
theorem dX6_operate_248 : decode cX6_operate 248 = .ok (.iload_n 2, 1) := by decide +kernel
theorem dX6_operate_249 : decode cX6_operate 249 = .ok (.bipush 10, 2) := by decide +kernel
theorem dX6_operate_251 : decode cX6_operate 251 = .ok (.iadd, 1) := by decide +kernel
theorem dX6_operate_252 : decode cX6_operate 252 = .ok (.iload 8, 2) := by decide +kernel
theorem dX6_operate_254 : decode cX6_operate 254 = .ok (.bipush 7, 2) := by decide +kernel
theorem dX6_operate_256 : decode cX6_operate 256 = .ok (.iand, 1) := by decide +kernel
theorem dX6_operate_257 : decode cX6_operate 257 = .ok (.iadd, 1) := by decide +kernel
theorem dX6_operate_258 : decode cX6_operate 258 = .ok (.iaload, 1) := by decide +kernel
theorem dX6_operate_259 : decode cX6_operate 259 = .ok (.bipush 15, 2) := by decide +kernel
theorem dX6_operate_261 : decode cX6_operate 261 = .ok (.iand, 1) := by decide +kernel
theorem dX6_operate_262 : decode cX6_operate 262 = .ok (.iadd, 1) := by decide +kernel
theorem dX6_operate_263 : decode cX6_operate 263 = .ok (.iload 9, 2) := by decide +kernel
theorem dX6_operate_265 : decode cX6_operate 265 = .ok (.iastore, 1) := by decide +kernel
theorem dX6_operate_266 : decode cX6_operate 266 = .ok (.goto 39, 3) := by decide +kernel
theorem dX6_operate_269 : decode cX6_operate 269 = .ok (.iload 5, 2) := by decide +kernel
theorem dX6_operate_271 : decode cX6_operate 271 = .ok (.ifCond .le 34, 3) := by decide +kernel
theorem dX6_operate_274 : decode cX6_operate 274 = .ok (.aload_n 0, 1) := by decide +kernel
theorem dX6_operate_275 : decode cX6_operate 275 = .ok (.iload_n 1, 1) := by decide +kernel
theorem dX6_operate_276 : decode cX6_operate 276 = .ok (.iload 5, 2) := by decide +kernel
theorem dX6_operate_278 : decode cX6_operate 278 = .ok (.iload 7, 2) := by decide +kernel
theorem dX6_operate_280 : decode cX6_operate 280 = .ok (.iload 8, 2) := by decide +kernel
theorem dX6_operate_282 : decode cX6_operate 282 = .ok (.invokevirtual 74, 3) := by decide +kernel
theorem dX6_operate_285 : decode cX6_operate 285 = .ok (.i2b, 1) := by decide +kernel
theorem dX6_operate_286 : decode cX6_operate 286 = .ok (.istore 10, 2) := by decide +kernel
theorem dX6_operate_288 : decode cX6_operate 288 = .ok (.aload_n 0, 1) := by decide +kernel
theorem dX6_operate_289 : decode cX6_operate 289 = .ok (.getfield 7, 3) := by decide +kernel
theorem dX6_operate_292 : decode cX6_operate 292 = .ok (.iload_n 2, 1) := by decide +kernel
theorem dX6_operate_293 : decode cX6_operate 293 = .ok (.bipush 10, 2) := by decide +kernel
theorem dX6_operate_295 : decode cX6_operate 295 = .ok (.iadd, 1) := by decide +kernel
theorem dX6_operate_296 : decode cX6_operate 296 = .ok (.iload 7, 2) := by decide +kernel
theorem dX6_operate_298 : decode cX6_operate 298 = .ok (.bipush 7, 2) := by decide +kernel
theorem dX6_operate_300 : decode cX6_operate 300 = .ok (.iand, 1) := by decide +kernel
theorem dX6_operate_301 : decode cX6_operate 301 = .ok (.iadd, 1) := by decide +kernel
theorem dX6_operate_302 : decode cX6_operate 302 = .ok (.iload 10, 2) := by decide +kernel
theorem dX6_operate_304 : decode cX6_operate 304 = .ok (.iastore, 1) := by decide +kernel
theorem dX6_operate_305 : decode cX6_operate 305 = .ok (.iload 5, 2) := by decide +kernel
theorem dX6_operate_307 : decode cX6_operate 307 = .ok (.bipush 15, 2) := by decide +kernel
theorem dX6_operate_309 : decode cX6_operate 309 = .ok (.if_icmp .le 7, 3) := by decide +kernel
theorem dX6_operate_312 : decode cX6_operate 312 = .ok (.iconst 1, 1) := by decide +kernel
theorem dX6_operate_313 : decode cX6_operate 313 = .ok (.goto 4, 3) := by decide +kernel
theorem dX6_operate_316 : decode cX6_operate 316 = .ok (.iconst 0, 1) := by decide +kernel
theorem dX6_operate_317 : decode cX6_operate 317 = .ok (.ireturn, 1) := by decide +kernel
def fn_X6_operate (L : cp_Lay) (q : Nat) (k0 : Nat) (x1 : Int32) (D : cp_Dt) : Option (Int32 × cp_Dt) :=
  (fn_X6_at L q x1 D).bind fun y1 =>
  (cp_gR L k0 6 3).bind fun r2 =>
  (cp_aI L y1.2 0 r2 (y1.1 + (5 : Int32))).bind fun v3 =>
  (cp_gR L k0 6 3).bind fun r4 =>
  (cp_aI L y1.2 0 r4 (y1.1 + (4 : Int32))).bind fun v5 =>
  (cp_fl L k0 6).bind fun f6 =>
  (fn_X6_codeAt L q k0 x1 v5 y1.2).bind fun y7 =>
  (fn_X6_operands L q ((y7.1 &&& (255 : Int32)) - (y7.1 &&& (255 : Int32)) / (22 : Int32) * (22 : Int32)) y7.2).bind fun y8 =>
  (cp_fl L k0 6).bind fun f9 =>
  (fn_X6_codeAt L q k0 x1 (v5 + (1 : Int32)) y8.2).bind fun y10 =>
  (cp_fl L k0 6).bind fun f11 =>
  (fn_X6_codeAt L q k0 x1 (v5 + (2 : Int32)) y10.2).bind fun y12 =>
  (cp_gR L k0 6 3).bind fun r13 =>
  (cp_aI L y12.2 0 r13 ((y1.1 + (10 : Int32)) + (y10.1 &&& (7 : Int32)))).bind fun v14 =>
  (cp_gR L k0 6 3).bind fun r15 =>
  (cp_nz v3).bind fun u16 =>
  (cp_aS L y12.2 0 r15 (y1.1 + (4 : Int32)) (((v5 + (1 : Int32)) + y8.1) - ((v5 + (1 : Int32)) + y8.1) / v3 * v3)).bind fun D17 =>
  if ((y7.1 &&& (255 : Int32)) - (y7.1 &&& (255 : Int32)) / (22 : Int32) * (22 : Int32)) ≤ (15 : Int32) then (if ((y7.1 &&& (255 : Int32)) - (y7.1 &&& (255 : Int32)) / (22 : Int32) * (22 : Int32)) = (11 : Int32) then ((cp_gR L k0 6 3).bind fun r77 =>
  (cp_nz v3).bind fun u78 =>
  (cp_aS L D17 0 r77 (y1.1 + (4 : Int32)) ((y10.1 &&& (255 : Int32)) - (y10.1 &&& (255 : Int32)) / v3 * v3)).bind fun D79 =>
  if ((y7.1 &&& (255 : Int32)) - (y7.1 &&& (255 : Int32)) / (22 : Int32) * (22 : Int32)) ≤ (15 : Int32) then (some ((0 : Int32), D79))
  else (some ((1 : Int32), D79)))
  else (if ((y7.1 &&& (255 : Int32)) - (y7.1 &&& (255 : Int32)) / (22 : Int32) * (22 : Int32)) = (12 : Int32) then (if ((y7.1 &&& (255 : Int32)) - (y7.1 &&& (255 : Int32)) / (22 : Int32) * (22 : Int32)) = (12 : Int32) then (if v14 = 0 then ((cp_gR L k0 6 3).bind fun r38 =>
  (cp_nz v3).bind fun u39 =>
  (cp_aS L D17 0 r38 (y1.1 + (4 : Int32)) ((y12.1 &&& (255 : Int32)) - (y12.1 &&& (255 : Int32)) / v3 * v3)).bind fun D40 =>
  if ((y7.1 &&& (255 : Int32)) - (y7.1 &&& (255 : Int32)) / (22 : Int32) * (22 : Int32)) ≤ (15 : Int32) then (some ((0 : Int32), D40))
  else (some ((1 : Int32), D40)))
  else ((cp_gR L k0 6 3).bind fun r33 =>
  (cp_gR L k0 6 3).bind fun r34 =>
  (cp_aI L D17 0 r34 (y1.1 + (4 : Int32))).bind fun v35 =>
  (cp_aS L D17 0 r33 (y1.1 + (4 : Int32)) v35).bind fun D36 =>
  if ((y7.1 &&& (255 : Int32)) - (y7.1 &&& (255 : Int32)) / (22 : Int32) * (22 : Int32)) ≤ (15 : Int32) then (some ((0 : Int32), D36))
  else (some ((1 : Int32), D36))))
  else (if 0 ≤ v14 then ((cp_gR L k0 6 3).bind fun r23 =>
  (cp_gR L k0 6 3).bind fun r24 =>
  (cp_aI L D17 0 r24 (y1.1 + (4 : Int32))).bind fun v25 =>
  (cp_aS L D17 0 r23 (y1.1 + (4 : Int32)) v25).bind fun D26 =>
  if ((y7.1 &&& (255 : Int32)) - (y7.1 &&& (255 : Int32)) / (22 : Int32) * (22 : Int32)) ≤ (15 : Int32) then (some ((0 : Int32), D26))
  else (some ((1 : Int32), D26)))
  else ((cp_gR L k0 6 3).bind fun r28 =>
  (cp_nz v3).bind fun u29 =>
  (cp_aS L D17 0 r28 (y1.1 + (4 : Int32)) ((y12.1 &&& (255 : Int32)) - (y12.1 &&& (255 : Int32)) / v3 * v3)).bind fun D30 =>
  if ((y7.1 &&& (255 : Int32)) - (y7.1 &&& (255 : Int32)) / (22 : Int32) * (22 : Int32)) ≤ (15 : Int32) then (some ((0 : Int32), D30))
  else (some ((1 : Int32), D30)))))
  else (if ((y7.1 &&& (255 : Int32)) - (y7.1 &&& (255 : Int32)) / (22 : Int32) * (22 : Int32)) = (13 : Int32) then (if ((y7.1 &&& (255 : Int32)) - (y7.1 &&& (255 : Int32)) / (22 : Int32) * (22 : Int32)) = (12 : Int32) then (if v14 = 0 then ((cp_gR L k0 6 3).bind fun r73 =>
  (cp_nz v3).bind fun u74 =>
  (cp_aS L D17 0 r73 (y1.1 + (4 : Int32)) ((y12.1 &&& (255 : Int32)) - (y12.1 &&& (255 : Int32)) / v3 * v3)).bind fun D75 =>
  if ((y7.1 &&& (255 : Int32)) - (y7.1 &&& (255 : Int32)) / (22 : Int32) * (22 : Int32)) ≤ (15 : Int32) then (some ((0 : Int32), D75))
  else (some ((1 : Int32), D75)))
  else ((cp_gR L k0 6 3).bind fun r68 =>
  (cp_gR L k0 6 3).bind fun r69 =>
  (cp_aI L D17 0 r69 (y1.1 + (4 : Int32))).bind fun v70 =>
  (cp_aS L D17 0 r68 (y1.1 + (4 : Int32)) v70).bind fun D71 =>
  if ((y7.1 &&& (255 : Int32)) - (y7.1 &&& (255 : Int32)) / (22 : Int32) * (22 : Int32)) ≤ (15 : Int32) then (some ((0 : Int32), D71))
  else (some ((1 : Int32), D71))))
  else (if 0 ≤ v14 then ((cp_gR L k0 6 3).bind fun r58 =>
  (cp_gR L k0 6 3).bind fun r59 =>
  (cp_aI L D17 0 r59 (y1.1 + (4 : Int32))).bind fun v60 =>
  (cp_aS L D17 0 r58 (y1.1 + (4 : Int32)) v60).bind fun D61 =>
  if ((y7.1 &&& (255 : Int32)) - (y7.1 &&& (255 : Int32)) / (22 : Int32) * (22 : Int32)) ≤ (15 : Int32) then (some ((0 : Int32), D61))
  else (some ((1 : Int32), D61)))
  else ((cp_gR L k0 6 3).bind fun r63 =>
  (cp_nz v3).bind fun u64 =>
  (cp_aS L D17 0 r63 (y1.1 + (4 : Int32)) ((y12.1 &&& (255 : Int32)) - (y12.1 &&& (255 : Int32)) / v3 * v3)).bind fun D65 =>
  if ((y7.1 &&& (255 : Int32)) - (y7.1 &&& (255 : Int32)) / (22 : Int32) * (22 : Int32)) ≤ (15 : Int32) then (some ((0 : Int32), D65))
  else (some ((1 : Int32), D65)))))
  else (if ((y7.1 &&& (255 : Int32)) - (y7.1 &&& (255 : Int32)) / (22 : Int32) * (22 : Int32)) = (10 : Int32) then ((cp_gR L k0 6 3).bind fun r51 =>
  (cp_gR L k0 6 3).bind fun r52 =>
  (cp_aI L D17 0 r52 ((y1.1 + (10 : Int32)) + (y12.1 &&& (7 : Int32)))).bind fun v53 =>
  (cp_aS L D17 0 r51 ((y1.1 + (18 : Int32)) + (v53 &&& (15 : Int32))) v14).bind fun D54 =>
  if ((y7.1 &&& (255 : Int32)) - (y7.1 &&& (255 : Int32)) / (22 : Int32) * (22 : Int32)) ≤ (15 : Int32) then (some ((0 : Int32), D54))
  else (some ((1 : Int32), D54)))
  else (if ((y7.1 &&& (255 : Int32)) - (y7.1 &&& (255 : Int32)) / (22 : Int32) * (22 : Int32)) ≤ 0 then (if ((y7.1 &&& (255 : Int32)) - (y7.1 &&& (255 : Int32)) / (22 : Int32) * (22 : Int32)) ≤ (15 : Int32) then (some ((0 : Int32), D17))
  else (some ((1 : Int32), D17)))
  else ((cp_fl L k0 6).bind fun f46 =>
  (fn_X6_reckon L q k0 x1 ((y7.1 &&& (255 : Int32)) - (y7.1 &&& (255 : Int32)) / (22 : Int32) * (22 : Int32)) y10.1 y12.1 D17).bind fun y47 =>
  (cp_gR L k0 6 3).bind fun r48 =>
  (cp_aS L y47.2 0 r48 ((y1.1 + (10 : Int32)) + (y10.1 &&& (7 : Int32))) y47.1.toInt8.toInt32).bind fun D49 =>
  if ((y7.1 &&& (255 : Int32)) - (y7.1 &&& (255 : Int32)) / (22 : Int32) * (22 : Int32)) ≤ (15 : Int32) then (some ((0 : Int32), D49))
  else (some ((1 : Int32), D49))))))))
  else ((cp_fl L k0 6).bind fun f81 =>
  (fn_X6_act L q k0 x1 ((y7.1 &&& (255 : Int32)) - (y7.1 &&& (255 : Int32)) / (22 : Int32) * (22 : Int32)) y10.1 D17).bind fun D82 =>
  if ((y7.1 &&& (255 : Int32)) - (y7.1 &&& (255 : Int32)) / (22 : Int32) * (22 : Int32)) ≤ (15 : Int32) then (some ((0 : Int32), D82))
  else (some ((1 : Int32), D82)))
set_option maxHeartbeats 4000000 in
set_option maxRecDepth 100000 in
theorem ct_X6_operate (l : Launch) (G : va_G) (L : cp_Lay) (hJ : cp_J L) (q : Nat) (k0 : Nat) (x1 : Int32) (D : cp_Dt) (res : Int32 × cp_Dt) (hF : fn_X6_operate L q k0 x1 D = some res) : cp_Met l G yX6_operate wsX6_operate ({ frames := 6, cells := 0, slots := 0, locals := 140 }) L ([.ref (L.2.1 k0), .int x1] : List Value) D res.2 (some (.int res.1)) := by
  refine Met.ofW (cc := cX6_operate) (maxL := 11) (ret := (some .boolean)) (by decide) rfl ?_
  intro p e s m args below meth c s₁ B hml hv
  obtain ⟨rfl, hP, hK, hN, hZ⟩ := hv
  have hx := B.exec
  have hb := B.bytes
  have hr := B.returns
  have hts := atoms_spec (ws := wsX6_operate) B.pre
  have hown : s.vm.findClass "CreaturePondModel" = some m.cls := findClass_of_methodNamed B.named
  have hlocks := B.notSynchronized
  have hS : va_S (cp_A L) s.heap s.heap [] := va_S.rf
  have htT : ∀ w ∈ cp_T, w.before ([.ref (L.2.1 k0), .int x1] : List Value).toArray s = true := fun w h => hts w (List.mem_cons_of_mem _ h)
  have hl := lv_entry (([.ref (L.2.1 k0), .int x1] : List Value)) (n := 11) (Nat.le_of_ble_eq_true rfl)
  rw [lg_entry_eq]
  generalize (lg_sl (([.ref (L.2.1 k0), .int x1] : List Value)) ++ List.replicate (11 - (lg_sl (([.ref (L.2.1 k0), .int x1] : List Value))).length) Slot.unset).toArray = ls at hl ⊢
  have hl : lv_has ls 11 [(0, .ref (L.2.1 k0)), (1, .int x1)] := hl
  unfold fn_X6_operate at hF
  refine lv_iload_n hx hb dX6_operate_0 rfl (lv_at hl 1 rfl) ?_
  obtain ⟨y1, ey1, hF⟩ := cp_bind hF
  refine cp_call (st1 := [.int y1.1]) (va_runS (As := [.int x1]) (rest := []) ⟨hx, hb, hml, hown, htT⟩ (ct_X6_at l G L hJ q x1 D y1 ey1) ⟨callB_of 1 htT gdX6_at rfl rfl rfl (htT _ tw_8) (htT _ tw_417) hdX6_at ⟨Nat.le_of_ble_eq_true rfl, Nat.le_of_ble_eq_true rfl⟩, (htT _ tw_418)⟩ ⟨cp_blind, cp_pre hP hK hN hZ hS⟩ rfl rfl hl.1 rfl (lv_room (Nat.le_of_ble_eq_true rfl)) dX6_operate_1 ⟨Nat.zero_le _, Nat.zero_le _⟩) hS (fun H locs hP hS => ?_)
  refine lv_istore_n (lv' := [(2, .int y1.1), (0, .ref (L.2.1 k0)), (1, .int x1)]) hx hb dX6_operate_4 rfl hl (by decide) rfl (fun ls hl => ?_)
  refine lv_aload_n hx hb dX6_operate_5 rfl (lv_at hl 1 rfl) ?_
  obtain ⟨r2, er2, hF⟩ := cp_bind hF
  refine cp_getR (T := TX6) (N := 6) (ci := 6) (j := 3) hx hb htT hinX6 hown hK hP rfl (by decide) rfl (htT _ tw_378) er2 dX6_operate_6 ?_
  refine lv_iload_n hx hb dX6_operate_9 rfl (lv_at hl 0 rfl) ?_
  refine lv_iconst (v := (5 : Int32)) hx hb dX6_operate_10 (by decide) ?_
  refine lv_iadd hx hb dX6_operate_11 ?_
  obtain ⟨v3, ev3, hF⟩ := cp_bind hF
  refine cp_iald hx hb hK hP ev3 dX6_operate_12 ?_
  refine lv_istore_n (lv' := [(3, .int v3), (2, .int y1.1), (0, .ref (L.2.1 k0)), (1, .int x1)]) hx hb dX6_operate_13 rfl hl (by decide) rfl (fun ls hl => ?_)
  refine lv_aload_n hx hb dX6_operate_14 rfl (lv_at hl 2 rfl) ?_
  obtain ⟨r4, er4, hF⟩ := cp_bind hF
  refine cp_getR (T := TX6) (N := 6) (ci := 6) (j := 3) hx hb htT hinX6 hown hK hP rfl (by decide) rfl (htT _ tw_378) er4 dX6_operate_15 ?_
  refine lv_iload_n hx hb dX6_operate_18 rfl (lv_at hl 1 rfl) ?_
  refine lv_iconst (v := (4 : Int32)) hx hb dX6_operate_19 (by decide) ?_
  refine lv_iadd hx hb dX6_operate_20 ?_
  obtain ⟨v5, ev5, hF⟩ := cp_bind hF
  refine cp_iald hx hb hK hP ev5 dX6_operate_21 ?_
  refine lv_istore (lv' := [(4, .int v5), (3, .int v3), (2, .int y1.1), (0, .ref (L.2.1 k0)), (1, .int x1)]) hx hb dX6_operate_22 hl (by decide) rfl (fun ls hl => ?_)
  refine lv_aload_n hx hb dX6_operate_24 rfl (lv_at hl 3 rfl) ?_
  refine lv_iload_n hx hb dX6_operate_25 rfl (lv_at hl 4 rfl) ?_
  refine lv_iload hx hb dX6_operate_26 (lv_at hl 0 rfl) ?_
  obtain ⟨f6, ef6, hF⟩ := cp_bind hF
  obtain ⟨y7, ey7, hF⟩ := cp_bind hF
  refine cp_call (st1 := [.int y7.1]) (va_runV (As := [.int x1, .int v5]) (rest := []) ⟨hx, hb, hml, hown, htT⟩ (ct_X6_codeAt l G L hJ q k0 x1 v5 y1.2 y7 ey7) ⟨callB_of 2 htT gdX6_codeAt rfl rfl rfl (htT _ tw_8) (htT _ tw_455) hdX6_codeAt ⟨Nat.le_of_ble_eq_true rfl, Nat.le_of_ble_eq_true rfl⟩, (htT _ tw_456), (htT _ tw_583)⟩ ⟨cp_blind, cp_recv hK hP rfl ef6, cp_pre hP hK hN hZ hS⟩ rfl rfl hl.1 rfl (lv_room (Nat.le_of_ble_eq_true rfl)) dX6_operate_28 ⟨Nat.zero_le _, Nat.zero_le _⟩) hS (fun H locs hP hS => ?_)
  refine lv_sipush (v := (255 : Int32)) hx hb dX6_operate_31 (by decide) ?_
  refine lv_iand hx hb dX6_operate_34 ?_
  refine lv_bipush (v := (22 : Int32)) hx hb dX6_operate_35 (by decide) ?_
  refine lv_irem hx hb dX6_operate_37 (by decide) ?_
  refine lv_istore (lv' := [(5, .int ((y7.1 &&& (255 : Int32)) - (y7.1 &&& (255 : Int32)) / (22 : Int32) * (22 : Int32))), (4, .int v5), (3, .int v3), (2, .int y1.1), (0, .ref (L.2.1 k0)), (1, .int x1)]) hx hb dX6_operate_38 hl (by decide) rfl (fun ls hl => ?_)
  refine lv_iload hx hb dX6_operate_40 (lv_at hl 0 rfl) ?_
  obtain ⟨y8, ey8, hF⟩ := cp_bind hF
  refine cp_call (st1 := [.int y8.1]) (va_runS (As := [.int ((y7.1 &&& (255 : Int32)) - (y7.1 &&& (255 : Int32)) / (22 : Int32) * (22 : Int32))]) (rest := []) ⟨hx, hb, hml, hown, htT⟩ (ct_X6_operands l G L hJ q ((y7.1 &&& (255 : Int32)) - (y7.1 &&& (255 : Int32)) / (22 : Int32) * (22 : Int32)) y7.2 y8 ey8) ⟨callB_of 1 htT gdX6_operands rfl rfl rfl (htT _ tw_8) (htT _ tw_458) hdX6_operands ⟨Nat.le_of_ble_eq_true rfl, Nat.le_of_ble_eq_true rfl⟩, (htT _ tw_459)⟩ ⟨cp_blind, cp_pre hP hK hN hZ hS⟩ rfl rfl hl.1 rfl (lv_room (Nat.le_of_ble_eq_true rfl)) dX6_operate_42 ⟨Nat.zero_le _, Nat.zero_le _⟩) hS (fun H locs hP hS => ?_)
  refine lv_istore (lv' := [(6, .int y8.1), (5, .int ((y7.1 &&& (255 : Int32)) - (y7.1 &&& (255 : Int32)) / (22 : Int32) * (22 : Int32))), (4, .int v5), (3, .int v3), (2, .int y1.1), (0, .ref (L.2.1 k0)), (1, .int x1)]) hx hb dX6_operate_45 hl (by decide) rfl (fun ls hl => ?_)
  refine lv_aload_n hx hb dX6_operate_47 rfl (lv_at hl 5 rfl) ?_
  refine lv_iload_n hx hb dX6_operate_48 rfl (lv_at hl 6 rfl) ?_
  refine lv_iload hx hb dX6_operate_49 (lv_at hl 2 rfl) ?_
  refine lv_iconst (v := (1 : Int32)) hx hb dX6_operate_51 (by decide) ?_
  refine lv_iadd hx hb dX6_operate_52 ?_
  obtain ⟨f9, ef9, hF⟩ := cp_bind hF
  obtain ⟨y10, ey10, hF⟩ := cp_bind hF
  refine cp_call (st1 := [.int y10.1]) (va_runV (As := [.int x1, .int (v5 + (1 : Int32))]) (rest := []) ⟨hx, hb, hml, hown, htT⟩ (ct_X6_codeAt l G L hJ q k0 x1 (v5 + (1 : Int32)) y8.2 y10 ey10) ⟨callB_of 2 htT gdX6_codeAt rfl rfl rfl (htT _ tw_8) (htT _ tw_455) hdX6_codeAt ⟨Nat.le_of_ble_eq_true rfl, Nat.le_of_ble_eq_true rfl⟩, (htT _ tw_456), (htT _ tw_583)⟩ ⟨cp_blind, cp_recv hK hP rfl ef9, cp_pre hP hK hN hZ hS⟩ rfl rfl hl.1 rfl (lv_room (Nat.le_of_ble_eq_true rfl)) dX6_operate_53 ⟨Nat.zero_le _, Nat.zero_le _⟩) hS (fun H locs hP hS => ?_)
  refine lv_istore (lv' := [(7, .int y10.1), (6, .int y8.1), (5, .int ((y7.1 &&& (255 : Int32)) - (y7.1 &&& (255 : Int32)) / (22 : Int32) * (22 : Int32))), (4, .int v5), (3, .int v3), (2, .int y1.1), (0, .ref (L.2.1 k0)), (1, .int x1)]) hx hb dX6_operate_56 hl (by decide) rfl (fun ls hl => ?_)
  refine lv_aload_n hx hb dX6_operate_58 rfl (lv_at hl 6 rfl) ?_
  refine lv_iload_n hx hb dX6_operate_59 rfl (lv_at hl 7 rfl) ?_
  refine lv_iload hx hb dX6_operate_60 (lv_at hl 3 rfl) ?_
  refine lv_iconst (v := (2 : Int32)) hx hb dX6_operate_62 (by decide) ?_
  refine lv_iadd hx hb dX6_operate_63 ?_
  obtain ⟨f11, ef11, hF⟩ := cp_bind hF
  obtain ⟨y12, ey12, hF⟩ := cp_bind hF
  refine cp_call (st1 := [.int y12.1]) (va_runV (As := [.int x1, .int (v5 + (2 : Int32))]) (rest := []) ⟨hx, hb, hml, hown, htT⟩ (ct_X6_codeAt l G L hJ q k0 x1 (v5 + (2 : Int32)) y10.2 y12 ey12) ⟨callB_of 2 htT gdX6_codeAt rfl rfl rfl (htT _ tw_8) (htT _ tw_455) hdX6_codeAt ⟨Nat.le_of_ble_eq_true rfl, Nat.le_of_ble_eq_true rfl⟩, (htT _ tw_456), (htT _ tw_583)⟩ ⟨cp_blind, cp_recv hK hP rfl ef11, cp_pre hP hK hN hZ hS⟩ rfl rfl hl.1 rfl (lv_room (Nat.le_of_ble_eq_true rfl)) dX6_operate_64 ⟨Nat.zero_le _, Nat.zero_le _⟩) hS (fun H locs hP hS => ?_)
  refine lv_istore (lv' := [(8, .int y12.1), (7, .int y10.1), (6, .int y8.1), (5, .int ((y7.1 &&& (255 : Int32)) - (y7.1 &&& (255 : Int32)) / (22 : Int32) * (22 : Int32))), (4, .int v5), (3, .int v3), (2, .int y1.1), (0, .ref (L.2.1 k0)), (1, .int x1)]) hx hb dX6_operate_67 hl (by decide) rfl (fun ls hl => ?_)
  refine lv_aload_n hx hb dX6_operate_69 rfl (lv_at hl 7 rfl) ?_
  obtain ⟨r13, er13, hF⟩ := cp_bind hF
  refine cp_getR (T := TX6) (N := 6) (ci := 6) (j := 3) hx hb htT hinX6 hown hK hP rfl (by decide) rfl (htT _ tw_378) er13 dX6_operate_70 ?_
  refine lv_iload_n hx hb dX6_operate_73 rfl (lv_at hl 6 rfl) ?_
  refine lv_bipush (v := (10 : Int32)) hx hb dX6_operate_74 (by decide) ?_
  refine lv_iadd hx hb dX6_operate_76 ?_
  refine lv_iload hx hb dX6_operate_77 (lv_at hl 1 rfl) ?_
  refine lv_bipush (v := (7 : Int32)) hx hb dX6_operate_79 (by decide) ?_
  refine lv_iand hx hb dX6_operate_81 ?_
  refine lv_iadd hx hb dX6_operate_82 ?_
  obtain ⟨v14, ev14, hF⟩ := cp_bind hF
  refine cp_iald hx hb hK hP ev14 dX6_operate_83 ?_
  refine lv_istore (lv' := [(9, .int v14), (8, .int y12.1), (7, .int y10.1), (6, .int y8.1), (5, .int ((y7.1 &&& (255 : Int32)) - (y7.1 &&& (255 : Int32)) / (22 : Int32) * (22 : Int32))), (4, .int v5), (3, .int v3), (2, .int y1.1), (0, .ref (L.2.1 k0)), (1, .int x1)]) hx hb dX6_operate_84 hl (by decide) rfl (fun ls hl => ?_)
  refine lv_aload_n hx hb dX6_operate_86 rfl (lv_at hl 8 rfl) ?_
  obtain ⟨r15, er15, hF⟩ := cp_bind hF
  refine cp_getR (T := TX6) (N := 6) (ci := 6) (j := 3) hx hb htT hinX6 hown hK hP rfl (by decide) rfl (htT _ tw_378) er15 dX6_operate_87 ?_
  refine lv_iload_n hx hb dX6_operate_90 rfl (lv_at hl 7 rfl) ?_
  refine lv_iconst (v := (4 : Int32)) hx hb dX6_operate_91 (by decide) ?_
  refine lv_iadd hx hb dX6_operate_92 ?_
  refine lv_iload hx hb dX6_operate_93 (lv_at hl 5 rfl) ?_
  refine lv_iconst (v := (1 : Int32)) hx hb dX6_operate_95 (by decide) ?_
  refine lv_iadd hx hb dX6_operate_96 ?_
  refine lv_iload hx hb dX6_operate_97 (lv_at hl 3 rfl) ?_
  refine lv_iadd hx hb dX6_operate_99 ?_
  refine lv_iload_n hx hb dX6_operate_100 rfl (lv_at hl 6 rfl) ?_
  obtain ⟨u16, eu16, hF⟩ := cp_bind hF
  refine lv_irem hx hb dX6_operate_101 (cp_nz_ne eu16) ?_
  obtain ⟨D17, eD17, hF⟩ := cp_bind hF
  refine cp_iast hx hb hK hJ hP hS eD17 dX6_operate_102 (fun H locs hP hS => ?_)
  refine lv_iload hx hb dX6_operate_103 (lv_at hl 4 rfl) ?_
  refine lv_bipush (v := (15 : Int32)) hx hb dX6_operate_105 (by decide) ?_
  refine lv_icmp_le (tgt := 122) hx hb dX6_operate_107 (by decide) (fun hc18 => ?_) (fun hc18 => ?_)
  · rw [if_pos hc18] at hF
    refine lv_iload hx hb dX6_operate_122 (lv_at hl 4 rfl) ?_
    refine lv_bipush (v := (11 : Int32)) hx hb dX6_operate_124 (by decide) ?_
    refine lv_icmp_ne (tgt := 148) hx hb dX6_operate_126 (by decide) (fun hc19 => ?_) (fun hc19 => ?_)
    · rw [if_neg hc19] at hF
      refine lv_iload hx hb dX6_operate_148 (lv_at hl 4 rfl) ?_
      refine lv_bipush (v := (12 : Int32)) hx hb dX6_operate_150 (by decide) ?_
      refine lv_icmp_eq (tgt := 162) hx hb dX6_operate_152 (by decide) (fun hc20 => ?_) (fun hc20 => ?_)
      · rw [if_pos hc20] at hF
        refine lv_iload hx hb dX6_operate_162 (lv_at hl 4 rfl) ?_
        refine lv_bipush (v := (12 : Int32)) hx hb dX6_operate_164 (by decide) ?_
        refine lv_icmp_ne (tgt := 182) hx hb dX6_operate_166 (by decide) (fun hc21 => ?_) (fun hc21 => ?_)
        · rw [if_neg hc21] at hF
          refine lv_iload hx hb dX6_operate_182 (lv_at hl 0 rfl) ?_
          refine lv_if_ge (tgt := 191) hx hb dX6_operate_184 (by decide) (fun hc22 => ?_) (fun hc22 => ?_)
          · rw [if_pos hc22] at hF
            refine lv_iconst (v := (0 : Int32)) hx hb dX6_operate_191 (by decide) ?_
            refine lv_istore (lv' := [(10, .int (0 : Int32)), (9, .int v14), (8, .int y12.1), (7, .int y10.1), (6, .int y8.1), (5, .int ((y7.1 &&& (255 : Int32)) - (y7.1 &&& (255 : Int32)) / (22 : Int32) * (22 : Int32))), (4, .int v5), (3, .int v3), (2, .int y1.1), (0, .ref (L.2.1 k0)), (1, .int x1)]) hx hb dX6_operate_192 hl (by decide) rfl (fun ls hl => ?_)
            refine lv_aload_n hx hb dX6_operate_194 rfl (lv_at hl 9 rfl) ?_
            obtain ⟨r23, er23, hF⟩ := cp_bind hF
            refine cp_getR (T := TX6) (N := 6) (ci := 6) (j := 3) hx hb htT hinX6 hown hK hP rfl (by decide) rfl (htT _ tw_378) er23 dX6_operate_195 ?_
            refine lv_iload_n hx hb dX6_operate_198 rfl (lv_at hl 8 rfl) ?_
            refine lv_iconst (v := (4 : Int32)) hx hb dX6_operate_199 (by decide) ?_
            refine lv_iadd hx hb dX6_operate_200 ?_
            refine lv_iload hx hb dX6_operate_201 (lv_at hl 0 rfl) ?_
            refine lv_if_eq (tgt := 217) hx hb dX6_operate_203 (by decide) (fun _ => ?_) (fun hc => absurd hc (by decide))
            refine lv_aload_n hx hb dX6_operate_217 rfl (lv_at hl 9 rfl) ?_
            obtain ⟨r24, er24, hF⟩ := cp_bind hF
            refine cp_getR (T := TX6) (N := 6) (ci := 6) (j := 3) hx hb htT hinX6 hown hK hP rfl (by decide) rfl (htT _ tw_378) er24 dX6_operate_218 ?_
            refine lv_iload_n hx hb dX6_operate_221 rfl (lv_at hl 8 rfl) ?_
            refine lv_iconst (v := (4 : Int32)) hx hb dX6_operate_222 (by decide) ?_
            refine lv_iadd hx hb dX6_operate_223 ?_
            obtain ⟨v25, ev25, hF⟩ := cp_bind hF
            refine cp_iald hx hb hK hP ev25 dX6_operate_224 ?_
            obtain ⟨D26, eD26, hF⟩ := cp_bind hF
            refine cp_iast hx hb hK hJ hP hS eD26 dX6_operate_225 (fun H locs hP hS => ?_)
            refine lv_goto (tgt := 305) hx hb dX6_operate_226 (by decide) ?_
            refine lv_iload hx hb dX6_operate_305 (lv_at hl 5 rfl) ?_
            refine lv_bipush (v := (15 : Int32)) hx hb dX6_operate_307 (by decide) ?_
            refine lv_icmp_le (tgt := 316) hx hb dX6_operate_309 (by decide) (fun hc27 => ?_) (fun hc27 => ?_)
            · rw [if_pos hc27] at hF
              refine lv_iconst (v := (0 : Int32)) hx hb dX6_operate_316 (by decide) ?_
              exact cp_zret hx hb hr hlocks (by decide) hF hP hS dX6_operate_317
            · rw [if_neg hc27] at hF
              refine lv_iconst (v := (1 : Int32)) hx hb dX6_operate_312 (by decide) ?_
              refine lv_goto (tgt := 317) hx hb dX6_operate_313 (by decide) ?_
              exact cp_zret hx hb hr hlocks (by decide) hF hP hS dX6_operate_317
          · rw [if_neg hc22] at hF
            refine lv_iconst (v := (1 : Int32)) hx hb dX6_operate_187 (by decide) ?_
            refine lv_goto (tgt := 192) hx hb dX6_operate_188 (by decide) ?_
            refine lv_istore (lv' := [(10, .int (1 : Int32)), (9, .int v14), (8, .int y12.1), (7, .int y10.1), (6, .int y8.1), (5, .int ((y7.1 &&& (255 : Int32)) - (y7.1 &&& (255 : Int32)) / (22 : Int32) * (22 : Int32))), (4, .int v5), (3, .int v3), (2, .int y1.1), (0, .ref (L.2.1 k0)), (1, .int x1)]) hx hb dX6_operate_192 hl (by decide) rfl (fun ls hl => ?_)
            refine lv_aload_n hx hb dX6_operate_194 rfl (lv_at hl 9 rfl) ?_
            obtain ⟨r28, er28, hF⟩ := cp_bind hF
            refine cp_getR (T := TX6) (N := 6) (ci := 6) (j := 3) hx hb htT hinX6 hown hK hP rfl (by decide) rfl (htT _ tw_378) er28 dX6_operate_195 ?_
            refine lv_iload_n hx hb dX6_operate_198 rfl (lv_at hl 8 rfl) ?_
            refine lv_iconst (v := (4 : Int32)) hx hb dX6_operate_199 (by decide) ?_
            refine lv_iadd hx hb dX6_operate_200 ?_
            refine lv_iload hx hb dX6_operate_201 (lv_at hl 0 rfl) ?_
            refine lv_if_eq (tgt := 217) hx hb dX6_operate_203 (by decide) (fun hc => absurd hc (by decide)) (fun _ => ?_)
            refine lv_iload hx hb dX6_operate_206 (lv_at hl 2 rfl) ?_
            refine lv_sipush (v := (255 : Int32)) hx hb dX6_operate_208 (by decide) ?_
            refine lv_iand hx hb dX6_operate_211 ?_
            refine lv_iload_n hx hb dX6_operate_212 rfl (lv_at hl 7 rfl) ?_
            obtain ⟨u29, eu29, hF⟩ := cp_bind hF
            refine lv_irem hx hb dX6_operate_213 (cp_nz_ne eu29) ?_
            refine lv_goto (tgt := 225) hx hb dX6_operate_214 (by decide) ?_
            obtain ⟨D30, eD30, hF⟩ := cp_bind hF
            refine cp_iast hx hb hK hJ hP hS eD30 dX6_operate_225 (fun H locs hP hS => ?_)
            refine lv_goto (tgt := 305) hx hb dX6_operate_226 (by decide) ?_
            refine lv_iload hx hb dX6_operate_305 (lv_at hl 5 rfl) ?_
            refine lv_bipush (v := (15 : Int32)) hx hb dX6_operate_307 (by decide) ?_
            refine lv_icmp_le (tgt := 316) hx hb dX6_operate_309 (by decide) (fun hc31 => ?_) (fun hc31 => ?_)
            · rw [if_pos hc31] at hF
              refine lv_iconst (v := (0 : Int32)) hx hb dX6_operate_316 (by decide) ?_
              exact cp_zret hx hb hr hlocks (by decide) hF hP hS dX6_operate_317
            · rw [if_neg hc31] at hF
              refine lv_iconst (v := (1 : Int32)) hx hb dX6_operate_312 (by decide) ?_
              refine lv_goto (tgt := 317) hx hb dX6_operate_313 (by decide) ?_
              exact cp_zret hx hb hr hlocks (by decide) hF hP hS dX6_operate_317
        · rw [if_pos hc21] at hF
          refine lv_iload hx hb dX6_operate_169 (lv_at hl 0 rfl) ?_
          refine lv_if_ne (tgt := 178) hx hb dX6_operate_171 (by decide) (fun hc32 => ?_) (fun hc32 => ?_)
          · rw [if_neg hc32] at hF
            refine lv_iconst (v := (0 : Int32)) hx hb dX6_operate_178 (by decide) ?_
            refine lv_goto (tgt := 192) hx hb dX6_operate_179 (by decide) ?_
            refine lv_istore (lv' := [(10, .int (0 : Int32)), (9, .int v14), (8, .int y12.1), (7, .int y10.1), (6, .int y8.1), (5, .int ((y7.1 &&& (255 : Int32)) - (y7.1 &&& (255 : Int32)) / (22 : Int32) * (22 : Int32))), (4, .int v5), (3, .int v3), (2, .int y1.1), (0, .ref (L.2.1 k0)), (1, .int x1)]) hx hb dX6_operate_192 hl (by decide) rfl (fun ls hl => ?_)
            refine lv_aload_n hx hb dX6_operate_194 rfl (lv_at hl 9 rfl) ?_
            obtain ⟨r33, er33, hF⟩ := cp_bind hF
            refine cp_getR (T := TX6) (N := 6) (ci := 6) (j := 3) hx hb htT hinX6 hown hK hP rfl (by decide) rfl (htT _ tw_378) er33 dX6_operate_195 ?_
            refine lv_iload_n hx hb dX6_operate_198 rfl (lv_at hl 8 rfl) ?_
            refine lv_iconst (v := (4 : Int32)) hx hb dX6_operate_199 (by decide) ?_
            refine lv_iadd hx hb dX6_operate_200 ?_
            refine lv_iload hx hb dX6_operate_201 (lv_at hl 0 rfl) ?_
            refine lv_if_eq (tgt := 217) hx hb dX6_operate_203 (by decide) (fun _ => ?_) (fun hc => absurd hc (by decide))
            refine lv_aload_n hx hb dX6_operate_217 rfl (lv_at hl 9 rfl) ?_
            obtain ⟨r34, er34, hF⟩ := cp_bind hF
            refine cp_getR (T := TX6) (N := 6) (ci := 6) (j := 3) hx hb htT hinX6 hown hK hP rfl (by decide) rfl (htT _ tw_378) er34 dX6_operate_218 ?_
            refine lv_iload_n hx hb dX6_operate_221 rfl (lv_at hl 8 rfl) ?_
            refine lv_iconst (v := (4 : Int32)) hx hb dX6_operate_222 (by decide) ?_
            refine lv_iadd hx hb dX6_operate_223 ?_
            obtain ⟨v35, ev35, hF⟩ := cp_bind hF
            refine cp_iald hx hb hK hP ev35 dX6_operate_224 ?_
            obtain ⟨D36, eD36, hF⟩ := cp_bind hF
            refine cp_iast hx hb hK hJ hP hS eD36 dX6_operate_225 (fun H locs hP hS => ?_)
            refine lv_goto (tgt := 305) hx hb dX6_operate_226 (by decide) ?_
            refine lv_iload hx hb dX6_operate_305 (lv_at hl 5 rfl) ?_
            refine lv_bipush (v := (15 : Int32)) hx hb dX6_operate_307 (by decide) ?_
            refine lv_icmp_le (tgt := 316) hx hb dX6_operate_309 (by decide) (fun hc37 => ?_) (fun hc37 => ?_)
            · rw [if_pos hc37] at hF
              refine lv_iconst (v := (0 : Int32)) hx hb dX6_operate_316 (by decide) ?_
              exact cp_zret hx hb hr hlocks (by decide) hF hP hS dX6_operate_317
            · rw [if_neg hc37] at hF
              refine lv_iconst (v := (1 : Int32)) hx hb dX6_operate_312 (by decide) ?_
              refine lv_goto (tgt := 317) hx hb dX6_operate_313 (by decide) ?_
              exact cp_zret hx hb hr hlocks (by decide) hF hP hS dX6_operate_317
          · rw [if_pos hc32] at hF
            refine lv_iconst (v := (1 : Int32)) hx hb dX6_operate_174 (by decide) ?_
            refine lv_goto (tgt := 192) hx hb dX6_operate_175 (by decide) ?_
            refine lv_istore (lv' := [(10, .int (1 : Int32)), (9, .int v14), (8, .int y12.1), (7, .int y10.1), (6, .int y8.1), (5, .int ((y7.1 &&& (255 : Int32)) - (y7.1 &&& (255 : Int32)) / (22 : Int32) * (22 : Int32))), (4, .int v5), (3, .int v3), (2, .int y1.1), (0, .ref (L.2.1 k0)), (1, .int x1)]) hx hb dX6_operate_192 hl (by decide) rfl (fun ls hl => ?_)
            refine lv_aload_n hx hb dX6_operate_194 rfl (lv_at hl 9 rfl) ?_
            obtain ⟨r38, er38, hF⟩ := cp_bind hF
            refine cp_getR (T := TX6) (N := 6) (ci := 6) (j := 3) hx hb htT hinX6 hown hK hP rfl (by decide) rfl (htT _ tw_378) er38 dX6_operate_195 ?_
            refine lv_iload_n hx hb dX6_operate_198 rfl (lv_at hl 8 rfl) ?_
            refine lv_iconst (v := (4 : Int32)) hx hb dX6_operate_199 (by decide) ?_
            refine lv_iadd hx hb dX6_operate_200 ?_
            refine lv_iload hx hb dX6_operate_201 (lv_at hl 0 rfl) ?_
            refine lv_if_eq (tgt := 217) hx hb dX6_operate_203 (by decide) (fun hc => absurd hc (by decide)) (fun _ => ?_)
            refine lv_iload hx hb dX6_operate_206 (lv_at hl 2 rfl) ?_
            refine lv_sipush (v := (255 : Int32)) hx hb dX6_operate_208 (by decide) ?_
            refine lv_iand hx hb dX6_operate_211 ?_
            refine lv_iload_n hx hb dX6_operate_212 rfl (lv_at hl 7 rfl) ?_
            obtain ⟨u39, eu39, hF⟩ := cp_bind hF
            refine lv_irem hx hb dX6_operate_213 (cp_nz_ne eu39) ?_
            refine lv_goto (tgt := 225) hx hb dX6_operate_214 (by decide) ?_
            obtain ⟨D40, eD40, hF⟩ := cp_bind hF
            refine cp_iast hx hb hK hJ hP hS eD40 dX6_operate_225 (fun H locs hP hS => ?_)
            refine lv_goto (tgt := 305) hx hb dX6_operate_226 (by decide) ?_
            refine lv_iload hx hb dX6_operate_305 (lv_at hl 5 rfl) ?_
            refine lv_bipush (v := (15 : Int32)) hx hb dX6_operate_307 (by decide) ?_
            refine lv_icmp_le (tgt := 316) hx hb dX6_operate_309 (by decide) (fun hc41 => ?_) (fun hc41 => ?_)
            · rw [if_pos hc41] at hF
              refine lv_iconst (v := (0 : Int32)) hx hb dX6_operate_316 (by decide) ?_
              exact cp_zret hx hb hr hlocks (by decide) hF hP hS dX6_operate_317
            · rw [if_neg hc41] at hF
              refine lv_iconst (v := (1 : Int32)) hx hb dX6_operate_312 (by decide) ?_
              refine lv_goto (tgt := 317) hx hb dX6_operate_313 (by decide) ?_
              exact cp_zret hx hb hr hlocks (by decide) hF hP hS dX6_operate_317
      · rw [if_neg hc20] at hF
        refine lv_iload hx hb dX6_operate_155 (lv_at hl 4 rfl) ?_
        refine lv_bipush (v := (13 : Int32)) hx hb dX6_operate_157 (by decide) ?_
        refine lv_icmp_ne (tgt := 229) hx hb dX6_operate_159 (by decide) (fun hc42 => ?_) (fun hc42 => ?_)
        · rw [if_neg hc42] at hF
          refine lv_iload hx hb dX6_operate_229 (lv_at hl 4 rfl) ?_
          refine lv_bipush (v := (10 : Int32)) hx hb dX6_operate_231 (by decide) ?_
          refine lv_icmp_ne (tgt := 269) hx hb dX6_operate_233 (by decide) (fun hc43 => ?_) (fun hc43 => ?_)
          · rw [if_neg hc43] at hF
            refine lv_iload hx hb dX6_operate_269 (lv_at hl 4 rfl) ?_
            refine lv_if_le (tgt := 305) hx hb dX6_operate_271 (by decide) (fun hc44 => ?_) (fun hc44 => ?_)
            · rw [if_pos hc44] at hF
              refine lv_iload hx hb dX6_operate_305 (lv_at hl 4 rfl) ?_
              refine lv_bipush (v := (15 : Int32)) hx hb dX6_operate_307 (by decide) ?_
              refine lv_icmp_le (tgt := 316) hx hb dX6_operate_309 (by decide) (fun hc45 => ?_) (fun hc45 => ?_)
              · rw [if_pos hc45] at hF
                refine lv_iconst (v := (0 : Int32)) hx hb dX6_operate_316 (by decide) ?_
                exact cp_zret hx hb hr hlocks (by decide) hF hP hS dX6_operate_317
              · rw [if_neg hc45] at hF
                refine lv_iconst (v := (1 : Int32)) hx hb dX6_operate_312 (by decide) ?_
                refine lv_goto (tgt := 317) hx hb dX6_operate_313 (by decide) ?_
                exact cp_zret hx hb hr hlocks (by decide) hF hP hS dX6_operate_317
            · rw [if_neg hc44] at hF
              refine lv_aload_n hx hb dX6_operate_274 rfl (lv_at hl 8 rfl) ?_
              refine lv_iload_n hx hb dX6_operate_275 rfl (lv_at hl 9 rfl) ?_
              refine lv_iload hx hb dX6_operate_276 (lv_at hl 4 rfl) ?_
              refine lv_iload hx hb dX6_operate_278 (lv_at hl 2 rfl) ?_
              refine lv_iload hx hb dX6_operate_280 (lv_at hl 1 rfl) ?_
              obtain ⟨f46, ef46, hF⟩ := cp_bind hF
              obtain ⟨y47, ey47, hF⟩ := cp_bind hF
              refine cp_call (st1 := [.int y47.1]) (va_runV (As := [.int x1, .int ((y7.1 &&& (255 : Int32)) - (y7.1 &&& (255 : Int32)) / (22 : Int32) * (22 : Int32)), .int y10.1, .int y12.1]) (rest := []) ⟨hx, hb, hml, hown, htT⟩ (ct_X6_reckon l G L hJ q k0 x1 ((y7.1 &&& (255 : Int32)) - (y7.1 &&& (255 : Int32)) / (22 : Int32) * (22 : Int32)) y10.1 y12.1 D17 y47 ey47) ⟨callB_of 4 htT gdX6_reckon rfl rfl rfl (htT _ tw_8) (htT _ tw_470) hdX6_reckon ⟨Nat.le_of_ble_eq_true rfl, Nat.le_of_ble_eq_true rfl⟩, (htT _ tw_471), (htT _ tw_587)⟩ ⟨cp_blind, cp_recv hK hP rfl ef46, cp_pre hP hK hN hZ hS⟩ rfl rfl hl.1 rfl (lv_room (Nat.le_of_ble_eq_true rfl)) dX6_operate_282 ⟨Nat.zero_le _, Nat.zero_le _⟩) hS (fun H locs hP hS => ?_)
              refine lv_i2b hx hb dX6_operate_285 rfl ?_
              refine lv_istore (lv' := [(10, .int y47.1.toInt8.toInt32), (9, .int v14), (8, .int y12.1), (7, .int y10.1), (6, .int y8.1), (5, .int ((y7.1 &&& (255 : Int32)) - (y7.1 &&& (255 : Int32)) / (22 : Int32) * (22 : Int32))), (4, .int v5), (3, .int v3), (2, .int y1.1), (0, .ref (L.2.1 k0)), (1, .int x1)]) hx hb dX6_operate_286 hl (by decide) rfl (fun ls hl => ?_)
              refine lv_aload_n hx hb dX6_operate_288 rfl (lv_at hl 9 rfl) ?_
              obtain ⟨r48, er48, hF⟩ := cp_bind hF
              refine cp_getR (T := TX6) (N := 6) (ci := 6) (j := 3) hx hb htT hinX6 hown hK hP rfl (by decide) rfl (htT _ tw_378) er48 dX6_operate_289 ?_
              refine lv_iload_n hx hb dX6_operate_292 rfl (lv_at hl 8 rfl) ?_
              refine lv_bipush (v := (10 : Int32)) hx hb dX6_operate_293 (by decide) ?_
              refine lv_iadd hx hb dX6_operate_295 ?_
              refine lv_iload hx hb dX6_operate_296 (lv_at hl 3 rfl) ?_
              refine lv_bipush (v := (7 : Int32)) hx hb dX6_operate_298 (by decide) ?_
              refine lv_iand hx hb dX6_operate_300 ?_
              refine lv_iadd hx hb dX6_operate_301 ?_
              refine lv_iload hx hb dX6_operate_302 (lv_at hl 0 rfl) ?_
              obtain ⟨D49, eD49, hF⟩ := cp_bind hF
              refine cp_iast hx hb hK hJ hP hS eD49 dX6_operate_304 (fun H locs hP hS => ?_)
              refine lv_iload hx hb dX6_operate_305 (lv_at hl 5 rfl) ?_
              refine lv_bipush (v := (15 : Int32)) hx hb dX6_operate_307 (by decide) ?_
              refine lv_icmp_le (tgt := 316) hx hb dX6_operate_309 (by decide) (fun hc50 => ?_) (fun hc50 => ?_)
              · rw [if_pos hc50] at hF
                refine lv_iconst (v := (0 : Int32)) hx hb dX6_operate_316 (by decide) ?_
                exact cp_zret hx hb hr hlocks (by decide) hF hP hS dX6_operate_317
              · rw [if_neg hc50] at hF
                refine lv_iconst (v := (1 : Int32)) hx hb dX6_operate_312 (by decide) ?_
                refine lv_goto (tgt := 317) hx hb dX6_operate_313 (by decide) ?_
                exact cp_zret hx hb hr hlocks (by decide) hF hP hS dX6_operate_317
          · rw [if_pos hc43] at hF
            refine lv_aload_n hx hb dX6_operate_236 rfl (lv_at hl 8 rfl) ?_
            obtain ⟨r51, er51, hF⟩ := cp_bind hF
            refine cp_getR (T := TX6) (N := 6) (ci := 6) (j := 3) hx hb htT hinX6 hown hK hP rfl (by decide) rfl (htT _ tw_378) er51 dX6_operate_237 ?_
            refine lv_iload_n hx hb dX6_operate_240 rfl (lv_at hl 7 rfl) ?_
            refine lv_bipush (v := (18 : Int32)) hx hb dX6_operate_241 (by decide) ?_
            refine lv_iadd hx hb dX6_operate_243 ?_
            refine lv_aload_n hx hb dX6_operate_244 rfl (lv_at hl 8 rfl) ?_
            obtain ⟨r52, er52, hF⟩ := cp_bind hF
            refine cp_getR (T := TX6) (N := 6) (ci := 6) (j := 3) hx hb htT hinX6 hown hK hP rfl (by decide) rfl (htT _ tw_378) er52 dX6_operate_245 ?_
            refine lv_iload_n hx hb dX6_operate_248 rfl (lv_at hl 7 rfl) ?_
            refine lv_bipush (v := (10 : Int32)) hx hb dX6_operate_249 (by decide) ?_
            refine lv_iadd hx hb dX6_operate_251 ?_
            refine lv_iload hx hb dX6_operate_252 (lv_at hl 1 rfl) ?_
            refine lv_bipush (v := (7 : Int32)) hx hb dX6_operate_254 (by decide) ?_
            refine lv_iand hx hb dX6_operate_256 ?_
            refine lv_iadd hx hb dX6_operate_257 ?_
            obtain ⟨v53, ev53, hF⟩ := cp_bind hF
            refine cp_iald hx hb hK hP ev53 dX6_operate_258 ?_
            refine lv_bipush (v := (15 : Int32)) hx hb dX6_operate_259 (by decide) ?_
            refine lv_iand hx hb dX6_operate_261 ?_
            refine lv_iadd hx hb dX6_operate_262 ?_
            refine lv_iload hx hb dX6_operate_263 (lv_at hl 0 rfl) ?_
            obtain ⟨D54, eD54, hF⟩ := cp_bind hF
            refine cp_iast hx hb hK hJ hP hS eD54 dX6_operate_265 (fun H locs hP hS => ?_)
            refine lv_goto (tgt := 305) hx hb dX6_operate_266 (by decide) ?_
            refine lv_iload hx hb dX6_operate_305 (lv_at hl 4 rfl) ?_
            refine lv_bipush (v := (15 : Int32)) hx hb dX6_operate_307 (by decide) ?_
            refine lv_icmp_le (tgt := 316) hx hb dX6_operate_309 (by decide) (fun hc55 => ?_) (fun hc55 => ?_)
            · rw [if_pos hc55] at hF
              refine lv_iconst (v := (0 : Int32)) hx hb dX6_operate_316 (by decide) ?_
              exact cp_zret hx hb hr hlocks (by decide) hF hP hS dX6_operate_317
            · rw [if_neg hc55] at hF
              refine lv_iconst (v := (1 : Int32)) hx hb dX6_operate_312 (by decide) ?_
              refine lv_goto (tgt := 317) hx hb dX6_operate_313 (by decide) ?_
              exact cp_zret hx hb hr hlocks (by decide) hF hP hS dX6_operate_317
        · rw [if_pos hc42] at hF
          refine lv_iload hx hb dX6_operate_162 (lv_at hl 4 rfl) ?_
          refine lv_bipush (v := (12 : Int32)) hx hb dX6_operate_164 (by decide) ?_
          refine lv_icmp_ne (tgt := 182) hx hb dX6_operate_166 (by decide) (fun hc56 => ?_) (fun hc56 => ?_)
          · rw [if_neg hc56] at hF
            refine lv_iload hx hb dX6_operate_182 (lv_at hl 0 rfl) ?_
            refine lv_if_ge (tgt := 191) hx hb dX6_operate_184 (by decide) (fun hc57 => ?_) (fun hc57 => ?_)
            · rw [if_pos hc57] at hF
              refine lv_iconst (v := (0 : Int32)) hx hb dX6_operate_191 (by decide) ?_
              refine lv_istore (lv' := [(10, .int (0 : Int32)), (9, .int v14), (8, .int y12.1), (7, .int y10.1), (6, .int y8.1), (5, .int ((y7.1 &&& (255 : Int32)) - (y7.1 &&& (255 : Int32)) / (22 : Int32) * (22 : Int32))), (4, .int v5), (3, .int v3), (2, .int y1.1), (0, .ref (L.2.1 k0)), (1, .int x1)]) hx hb dX6_operate_192 hl (by decide) rfl (fun ls hl => ?_)
              refine lv_aload_n hx hb dX6_operate_194 rfl (lv_at hl 9 rfl) ?_
              obtain ⟨r58, er58, hF⟩ := cp_bind hF
              refine cp_getR (T := TX6) (N := 6) (ci := 6) (j := 3) hx hb htT hinX6 hown hK hP rfl (by decide) rfl (htT _ tw_378) er58 dX6_operate_195 ?_
              refine lv_iload_n hx hb dX6_operate_198 rfl (lv_at hl 8 rfl) ?_
              refine lv_iconst (v := (4 : Int32)) hx hb dX6_operate_199 (by decide) ?_
              refine lv_iadd hx hb dX6_operate_200 ?_
              refine lv_iload hx hb dX6_operate_201 (lv_at hl 0 rfl) ?_
              refine lv_if_eq (tgt := 217) hx hb dX6_operate_203 (by decide) (fun _ => ?_) (fun hc => absurd hc (by decide))
              refine lv_aload_n hx hb dX6_operate_217 rfl (lv_at hl 9 rfl) ?_
              obtain ⟨r59, er59, hF⟩ := cp_bind hF
              refine cp_getR (T := TX6) (N := 6) (ci := 6) (j := 3) hx hb htT hinX6 hown hK hP rfl (by decide) rfl (htT _ tw_378) er59 dX6_operate_218 ?_
              refine lv_iload_n hx hb dX6_operate_221 rfl (lv_at hl 8 rfl) ?_
              refine lv_iconst (v := (4 : Int32)) hx hb dX6_operate_222 (by decide) ?_
              refine lv_iadd hx hb dX6_operate_223 ?_
              obtain ⟨v60, ev60, hF⟩ := cp_bind hF
              refine cp_iald hx hb hK hP ev60 dX6_operate_224 ?_
              obtain ⟨D61, eD61, hF⟩ := cp_bind hF
              refine cp_iast hx hb hK hJ hP hS eD61 dX6_operate_225 (fun H locs hP hS => ?_)
              refine lv_goto (tgt := 305) hx hb dX6_operate_226 (by decide) ?_
              refine lv_iload hx hb dX6_operate_305 (lv_at hl 5 rfl) ?_
              refine lv_bipush (v := (15 : Int32)) hx hb dX6_operate_307 (by decide) ?_
              refine lv_icmp_le (tgt := 316) hx hb dX6_operate_309 (by decide) (fun hc62 => ?_) (fun hc62 => ?_)
              · rw [if_pos hc62] at hF
                refine lv_iconst (v := (0 : Int32)) hx hb dX6_operate_316 (by decide) ?_
                exact cp_zret hx hb hr hlocks (by decide) hF hP hS dX6_operate_317
              · rw [if_neg hc62] at hF
                refine lv_iconst (v := (1 : Int32)) hx hb dX6_operate_312 (by decide) ?_
                refine lv_goto (tgt := 317) hx hb dX6_operate_313 (by decide) ?_
                exact cp_zret hx hb hr hlocks (by decide) hF hP hS dX6_operate_317
            · rw [if_neg hc57] at hF
              refine lv_iconst (v := (1 : Int32)) hx hb dX6_operate_187 (by decide) ?_
              refine lv_goto (tgt := 192) hx hb dX6_operate_188 (by decide) ?_
              refine lv_istore (lv' := [(10, .int (1 : Int32)), (9, .int v14), (8, .int y12.1), (7, .int y10.1), (6, .int y8.1), (5, .int ((y7.1 &&& (255 : Int32)) - (y7.1 &&& (255 : Int32)) / (22 : Int32) * (22 : Int32))), (4, .int v5), (3, .int v3), (2, .int y1.1), (0, .ref (L.2.1 k0)), (1, .int x1)]) hx hb dX6_operate_192 hl (by decide) rfl (fun ls hl => ?_)
              refine lv_aload_n hx hb dX6_operate_194 rfl (lv_at hl 9 rfl) ?_
              obtain ⟨r63, er63, hF⟩ := cp_bind hF
              refine cp_getR (T := TX6) (N := 6) (ci := 6) (j := 3) hx hb htT hinX6 hown hK hP rfl (by decide) rfl (htT _ tw_378) er63 dX6_operate_195 ?_
              refine lv_iload_n hx hb dX6_operate_198 rfl (lv_at hl 8 rfl) ?_
              refine lv_iconst (v := (4 : Int32)) hx hb dX6_operate_199 (by decide) ?_
              refine lv_iadd hx hb dX6_operate_200 ?_
              refine lv_iload hx hb dX6_operate_201 (lv_at hl 0 rfl) ?_
              refine lv_if_eq (tgt := 217) hx hb dX6_operate_203 (by decide) (fun hc => absurd hc (by decide)) (fun _ => ?_)
              refine lv_iload hx hb dX6_operate_206 (lv_at hl 2 rfl) ?_
              refine lv_sipush (v := (255 : Int32)) hx hb dX6_operate_208 (by decide) ?_
              refine lv_iand hx hb dX6_operate_211 ?_
              refine lv_iload_n hx hb dX6_operate_212 rfl (lv_at hl 7 rfl) ?_
              obtain ⟨u64, eu64, hF⟩ := cp_bind hF
              refine lv_irem hx hb dX6_operate_213 (cp_nz_ne eu64) ?_
              refine lv_goto (tgt := 225) hx hb dX6_operate_214 (by decide) ?_
              obtain ⟨D65, eD65, hF⟩ := cp_bind hF
              refine cp_iast hx hb hK hJ hP hS eD65 dX6_operate_225 (fun H locs hP hS => ?_)
              refine lv_goto (tgt := 305) hx hb dX6_operate_226 (by decide) ?_
              refine lv_iload hx hb dX6_operate_305 (lv_at hl 5 rfl) ?_
              refine lv_bipush (v := (15 : Int32)) hx hb dX6_operate_307 (by decide) ?_
              refine lv_icmp_le (tgt := 316) hx hb dX6_operate_309 (by decide) (fun hc66 => ?_) (fun hc66 => ?_)
              · rw [if_pos hc66] at hF
                refine lv_iconst (v := (0 : Int32)) hx hb dX6_operate_316 (by decide) ?_
                exact cp_zret hx hb hr hlocks (by decide) hF hP hS dX6_operate_317
              · rw [if_neg hc66] at hF
                refine lv_iconst (v := (1 : Int32)) hx hb dX6_operate_312 (by decide) ?_
                refine lv_goto (tgt := 317) hx hb dX6_operate_313 (by decide) ?_
                exact cp_zret hx hb hr hlocks (by decide) hF hP hS dX6_operate_317
          · rw [if_pos hc56] at hF
            refine lv_iload hx hb dX6_operate_169 (lv_at hl 0 rfl) ?_
            refine lv_if_ne (tgt := 178) hx hb dX6_operate_171 (by decide) (fun hc67 => ?_) (fun hc67 => ?_)
            · rw [if_neg hc67] at hF
              refine lv_iconst (v := (0 : Int32)) hx hb dX6_operate_178 (by decide) ?_
              refine lv_goto (tgt := 192) hx hb dX6_operate_179 (by decide) ?_
              refine lv_istore (lv' := [(10, .int (0 : Int32)), (9, .int v14), (8, .int y12.1), (7, .int y10.1), (6, .int y8.1), (5, .int ((y7.1 &&& (255 : Int32)) - (y7.1 &&& (255 : Int32)) / (22 : Int32) * (22 : Int32))), (4, .int v5), (3, .int v3), (2, .int y1.1), (0, .ref (L.2.1 k0)), (1, .int x1)]) hx hb dX6_operate_192 hl (by decide) rfl (fun ls hl => ?_)
              refine lv_aload_n hx hb dX6_operate_194 rfl (lv_at hl 9 rfl) ?_
              obtain ⟨r68, er68, hF⟩ := cp_bind hF
              refine cp_getR (T := TX6) (N := 6) (ci := 6) (j := 3) hx hb htT hinX6 hown hK hP rfl (by decide) rfl (htT _ tw_378) er68 dX6_operate_195 ?_
              refine lv_iload_n hx hb dX6_operate_198 rfl (lv_at hl 8 rfl) ?_
              refine lv_iconst (v := (4 : Int32)) hx hb dX6_operate_199 (by decide) ?_
              refine lv_iadd hx hb dX6_operate_200 ?_
              refine lv_iload hx hb dX6_operate_201 (lv_at hl 0 rfl) ?_
              refine lv_if_eq (tgt := 217) hx hb dX6_operate_203 (by decide) (fun _ => ?_) (fun hc => absurd hc (by decide))
              refine lv_aload_n hx hb dX6_operate_217 rfl (lv_at hl 9 rfl) ?_
              obtain ⟨r69, er69, hF⟩ := cp_bind hF
              refine cp_getR (T := TX6) (N := 6) (ci := 6) (j := 3) hx hb htT hinX6 hown hK hP rfl (by decide) rfl (htT _ tw_378) er69 dX6_operate_218 ?_
              refine lv_iload_n hx hb dX6_operate_221 rfl (lv_at hl 8 rfl) ?_
              refine lv_iconst (v := (4 : Int32)) hx hb dX6_operate_222 (by decide) ?_
              refine lv_iadd hx hb dX6_operate_223 ?_
              obtain ⟨v70, ev70, hF⟩ := cp_bind hF
              refine cp_iald hx hb hK hP ev70 dX6_operate_224 ?_
              obtain ⟨D71, eD71, hF⟩ := cp_bind hF
              refine cp_iast hx hb hK hJ hP hS eD71 dX6_operate_225 (fun H locs hP hS => ?_)
              refine lv_goto (tgt := 305) hx hb dX6_operate_226 (by decide) ?_
              refine lv_iload hx hb dX6_operate_305 (lv_at hl 5 rfl) ?_
              refine lv_bipush (v := (15 : Int32)) hx hb dX6_operate_307 (by decide) ?_
              refine lv_icmp_le (tgt := 316) hx hb dX6_operate_309 (by decide) (fun hc72 => ?_) (fun hc72 => ?_)
              · rw [if_pos hc72] at hF
                refine lv_iconst (v := (0 : Int32)) hx hb dX6_operate_316 (by decide) ?_
                exact cp_zret hx hb hr hlocks (by decide) hF hP hS dX6_operate_317
              · rw [if_neg hc72] at hF
                refine lv_iconst (v := (1 : Int32)) hx hb dX6_operate_312 (by decide) ?_
                refine lv_goto (tgt := 317) hx hb dX6_operate_313 (by decide) ?_
                exact cp_zret hx hb hr hlocks (by decide) hF hP hS dX6_operate_317
            · rw [if_pos hc67] at hF
              refine lv_iconst (v := (1 : Int32)) hx hb dX6_operate_174 (by decide) ?_
              refine lv_goto (tgt := 192) hx hb dX6_operate_175 (by decide) ?_
              refine lv_istore (lv' := [(10, .int (1 : Int32)), (9, .int v14), (8, .int y12.1), (7, .int y10.1), (6, .int y8.1), (5, .int ((y7.1 &&& (255 : Int32)) - (y7.1 &&& (255 : Int32)) / (22 : Int32) * (22 : Int32))), (4, .int v5), (3, .int v3), (2, .int y1.1), (0, .ref (L.2.1 k0)), (1, .int x1)]) hx hb dX6_operate_192 hl (by decide) rfl (fun ls hl => ?_)
              refine lv_aload_n hx hb dX6_operate_194 rfl (lv_at hl 9 rfl) ?_
              obtain ⟨r73, er73, hF⟩ := cp_bind hF
              refine cp_getR (T := TX6) (N := 6) (ci := 6) (j := 3) hx hb htT hinX6 hown hK hP rfl (by decide) rfl (htT _ tw_378) er73 dX6_operate_195 ?_
              refine lv_iload_n hx hb dX6_operate_198 rfl (lv_at hl 8 rfl) ?_
              refine lv_iconst (v := (4 : Int32)) hx hb dX6_operate_199 (by decide) ?_
              refine lv_iadd hx hb dX6_operate_200 ?_
              refine lv_iload hx hb dX6_operate_201 (lv_at hl 0 rfl) ?_
              refine lv_if_eq (tgt := 217) hx hb dX6_operate_203 (by decide) (fun hc => absurd hc (by decide)) (fun _ => ?_)
              refine lv_iload hx hb dX6_operate_206 (lv_at hl 2 rfl) ?_
              refine lv_sipush (v := (255 : Int32)) hx hb dX6_operate_208 (by decide) ?_
              refine lv_iand hx hb dX6_operate_211 ?_
              refine lv_iload_n hx hb dX6_operate_212 rfl (lv_at hl 7 rfl) ?_
              obtain ⟨u74, eu74, hF⟩ := cp_bind hF
              refine lv_irem hx hb dX6_operate_213 (cp_nz_ne eu74) ?_
              refine lv_goto (tgt := 225) hx hb dX6_operate_214 (by decide) ?_
              obtain ⟨D75, eD75, hF⟩ := cp_bind hF
              refine cp_iast hx hb hK hJ hP hS eD75 dX6_operate_225 (fun H locs hP hS => ?_)
              refine lv_goto (tgt := 305) hx hb dX6_operate_226 (by decide) ?_
              refine lv_iload hx hb dX6_operate_305 (lv_at hl 5 rfl) ?_
              refine lv_bipush (v := (15 : Int32)) hx hb dX6_operate_307 (by decide) ?_
              refine lv_icmp_le (tgt := 316) hx hb dX6_operate_309 (by decide) (fun hc76 => ?_) (fun hc76 => ?_)
              · rw [if_pos hc76] at hF
                refine lv_iconst (v := (0 : Int32)) hx hb dX6_operate_316 (by decide) ?_
                exact cp_zret hx hb hr hlocks (by decide) hF hP hS dX6_operate_317
              · rw [if_neg hc76] at hF
                refine lv_iconst (v := (1 : Int32)) hx hb dX6_operate_312 (by decide) ?_
                refine lv_goto (tgt := 317) hx hb dX6_operate_313 (by decide) ?_
                exact cp_zret hx hb hr hlocks (by decide) hF hP hS dX6_operate_317
    · rw [if_pos hc19] at hF
      refine lv_aload_n hx hb dX6_operate_129 rfl (lv_at hl 8 rfl) ?_
      obtain ⟨r77, er77, hF⟩ := cp_bind hF
      refine cp_getR (T := TX6) (N := 6) (ci := 6) (j := 3) hx hb htT hinX6 hown hK hP rfl (by decide) rfl (htT _ tw_378) er77 dX6_operate_130 ?_
      refine lv_iload_n hx hb dX6_operate_133 rfl (lv_at hl 7 rfl) ?_
      refine lv_iconst (v := (4 : Int32)) hx hb dX6_operate_134 (by decide) ?_
      refine lv_iadd hx hb dX6_operate_135 ?_
      refine lv_iload hx hb dX6_operate_136 (lv_at hl 2 rfl) ?_
      refine lv_sipush (v := (255 : Int32)) hx hb dX6_operate_138 (by decide) ?_
      refine lv_iand hx hb dX6_operate_141 ?_
      refine lv_iload_n hx hb dX6_operate_142 rfl (lv_at hl 6 rfl) ?_
      obtain ⟨u78, eu78, hF⟩ := cp_bind hF
      refine lv_irem hx hb dX6_operate_143 (cp_nz_ne eu78) ?_
      obtain ⟨D79, eD79, hF⟩ := cp_bind hF
      refine cp_iast hx hb hK hJ hP hS eD79 dX6_operate_144 (fun H locs hP hS => ?_)
      refine lv_goto (tgt := 305) hx hb dX6_operate_145 (by decide) ?_
      refine lv_iload hx hb dX6_operate_305 (lv_at hl 4 rfl) ?_
      refine lv_bipush (v := (15 : Int32)) hx hb dX6_operate_307 (by decide) ?_
      refine lv_icmp_le (tgt := 316) hx hb dX6_operate_309 (by decide) (fun hc80 => ?_) (fun hc80 => ?_)
      · rw [if_pos hc80] at hF
        refine lv_iconst (v := (0 : Int32)) hx hb dX6_operate_316 (by decide) ?_
        exact cp_zret hx hb hr hlocks (by decide) hF hP hS dX6_operate_317
      · rw [if_neg hc80] at hF
        refine lv_iconst (v := (1 : Int32)) hx hb dX6_operate_312 (by decide) ?_
        refine lv_goto (tgt := 317) hx hb dX6_operate_313 (by decide) ?_
        exact cp_zret hx hb hr hlocks (by decide) hF hP hS dX6_operate_317
  · rw [if_neg hc18] at hF
    refine lv_aload_n hx hb dX6_operate_110 rfl (lv_at hl 8 rfl) ?_
    refine lv_iload_n hx hb dX6_operate_111 rfl (lv_at hl 9 rfl) ?_
    refine lv_iload hx hb dX6_operate_112 (lv_at hl 4 rfl) ?_
    refine lv_iload hx hb dX6_operate_114 (lv_at hl 2 rfl) ?_
    obtain ⟨f81, ef81, hF⟩ := cp_bind hF
    obtain ⟨D82, eD82, hF⟩ := cp_bind hF
    refine cp_call (st1 := []) (va_runV (As := [.int x1, .int ((y7.1 &&& (255 : Int32)) - (y7.1 &&& (255 : Int32)) / (22 : Int32) * (22 : Int32)), .int y10.1]) (rest := []) ⟨hx, hb, hml, hown, htT⟩ (ct_X6_act l G L hJ q k0 x1 ((y7.1 &&& (255 : Int32)) - (y7.1 &&& (255 : Int32)) / (22 : Int32) * (22 : Int32)) y10.1 D17 D82 eD82) ⟨callB_of 3 htT gdX6_act rfl rfl rfl (htT _ tw_8) (htT _ tw_461) hdX6_act ⟨Nat.le_of_ble_eq_true rfl, Nat.le_of_ble_eq_true rfl⟩, (htT _ tw_462), (htT _ tw_584)⟩ ⟨cp_blind, cp_recv hK hP rfl ef81, cp_pre hP hK hN hZ hS⟩ rfl rfl hl.1 rfl (lv_room (Nat.le_of_ble_eq_true rfl)) dX6_operate_116 ⟨Nat.zero_le _, Nat.zero_le _⟩) hS (fun H locs hP hS => ?_)
    refine lv_goto (tgt := 305) hx hb dX6_operate_119 (by decide) ?_
    refine lv_iload hx hb dX6_operate_305 (lv_at hl 4 rfl) ?_
    refine lv_bipush (v := (15 : Int32)) hx hb dX6_operate_307 (by decide) ?_
    refine lv_icmp_le (tgt := 316) hx hb dX6_operate_309 (by decide) (fun hc83 => ?_) (fun hc83 => ?_)
    · rw [if_pos hc83] at hF
      refine lv_iconst (v := (0 : Int32)) hx hb dX6_operate_316 (by decide) ?_
      exact cp_zret hx hb hr hlocks (by decide) hF hP hS dX6_operate_317
    · rw [if_neg hc83] at hF
      refine lv_iconst (v := (1 : Int32)) hx hb dX6_operate_312 (by decide) ?_
      refine lv_goto (tgt := 317) hx hb dX6_operate_313 (by decide) ?_
      exact cp_zret hx hb hr hlocks (by decide) hF hP hS dX6_operate_317
