theorem dX3_move_0 : decode cX3_move 0 = .ok (.aload_n 1, 1) := by decide +kernel
theorem dX3_move_1 : decode cX3_move 1 = .ok (.iconst 0, 1) := by decide +kernel
theorem dX3_move_2 : decode cX3_move 2 = .ok (.putfield 31, 3) := by decide +kernel
theorem dX3_move_5 : decode cX3_move 5 = .ok (.aload_n 1, 1) := by decide +kernel
theorem dX3_move_6 : decode cX3_move 6 = .ok (.dup, 1) := by decide +kernel
theorem dX3_move_7 : decode cX3_move 7 = .ok (.getfield 34, 3) := by decide +kernel
theorem dX3_move_10 : decode cX3_move 10 = .ok (.iconst 1, 1) := by decide +kernel
theorem dX3_move_11 : decode cX3_move 11 = .ok (.iadd, 1) := by decide +kernel
theorem dX3_move_12 : decode cX3_move 12 = .ok (.putfield 34, 3) := by decide +kernel
theorem dX3_move_15 : decode cX3_move 15 = .ok (.aload_n 0, 1) := by decide +kernel
theorem dX3_move_16 : decode cX3_move 16 = .ok (.getfield 11, 3) := by decide +kernel
theorem dX3_move_19 : decode cX3_move 19 = .ok (.aload_n 1, 1) := by decide +kernel
theorem dX3_move_20 : decode cX3_move 20 = .ok (.iconst 1, 1) := by decide +kernel
theorem dX3_move_21 : decode cX3_move 21 = .ok (.invokevirtual 38, 3) := by decide +kernel
theorem dX3_move_24 : decode cX3_move 24 = .ok (.aload_n 1, 1) := by decide +kernel
theorem dX3_move_25 : decode cX3_move 25 = .ok (.getfield 42, 3) := by decide +kernel
theorem dX3_move_28 : decode cX3_move 28 = .ok (.ifCond .eq 10, 3) := by decide +kernel
theorem dX3_move_31 : decode cX3_move 31 = .ok (.aload_n 1, 1) := by decide +kernel
theorem dX3_move_32 : decode cX3_move 32 = .ok (.getfield 45, 3) := by decide +kernel
theorem dX3_move_35 : decode cX3_move 35 = .ok (.ifCond .ne 4, 3) := by decide +kernel
theorem dX3_move_38 : decode cX3_move 38 = .ok (.return_, 1) := by decide +kernel
theorem dX3_move_39 : decode cX3_move 39 = .ok (.iconst 0, 1) := by decide +kernel
theorem dX3_move_40 : decode cX3_move 40 = .ok (.istore_n 2, 1) := by decide +kernel
theorem dX3_move_41 : decode cX3_move 41 = .ok (.iconst 0, 1) := by decide +kernel
theorem dX3_move_42 : decode cX3_move 42 = .ok (.istore_n 3, 1) := by decide +kernel
theorem dX3_move_43 : decode cX3_move 43 = .ok (.iload_n 3, 1) := by decide +kernel
theorem dX3_move_44 : decode cX3_move 44 = .ok (.bipush 8, 2) := by decide +kernel
theorem dX3_move_46 : decode cX3_move 46 = .ok (.if_icmp .ge 19, 3) := by decide +kernel
theorem dX3_move_49 : decode cX3_move 49 = .ok (.iload_n 2, 1) := by decide +kernel
theorem dX3_move_50 : decode cX3_move 50 = .ok (.ifCond .ne 15, 3) := by decide +kernel
theorem dX3_move_53 : decode cX3_move 53 = .ok (.aload_n 0, 1) := by decide +kernel
theorem dX3_move_54 : decode cX3_move 54 = .ok (.aload_n 1, 1) := by decide +kernel
theorem dX3_move_55 : decode cX3_move 55 = .ok (.invokevirtual 48, 3) := by decide +kernel
theorem dX3_move_58 : decode cX3_move 58 = .ok (.istore_n 2, 1) := by decide +kernel
theorem dX3_move_59 : decode cX3_move 59 = .ok (.iinc 3 1, 3) := by decide +kernel
theorem dX3_move_62 : decode cX3_move 62 = .ok (.goto (-19), 3) := by decide +kernel
theorem dX3_move_65 : decode cX3_move 65 = .ok (.return_, 1) := by decide +kernel
def fn_X3_move_L43 (L : cp_Lay) (q : Nat) : Nat → Nat → Nat → Int32 → Int32 → cp_Dt → Option (cp_Dt)
  | 0, _, _, _, _, _ => none
  | n + 1, a0, a1, i2, i3, D =>
    if (8 : Int32) ≤ i3 then (some D)
    else (if i2 = 0 then ((cp_fl L a0 3).bind fun f13 =>
    (fn_X3_operate L q a0 a1 D).bind fun y14 =>
    fn_X3_move_L43 L q n a0 a1 y14.1 (i3 + 1) y14.2)
    else (some D))
def fn_X3_move (L : cp_Lay) (q : Nat) (k0 : Nat) (k1 : Nat) (D : cp_Dt) : Option (cp_Dt) :=
  (cp_pZ L D k1 1 4 (0 : Int32)).bind fun D1 =>
  (cp_gI L D1 k1 1 8).bind fun v2 =>
  (cp_pI L D1 k1 1 8 (v2 + (1 : Int32))).bind fun D3 =>
  (cp_gR L k0 3 0).bind fun r4 =>
  (cp_fl L r4 4).bind fun f5 =>
  (fn_X4_pay L q r4 k1 (1 : Int32) D3).bind fun D6 =>
  (cp_gI L D6 k1 1 7).bind fun v7 =>
  if v7 = 0 then (some D6)
  else ((cp_gI L D6 k1 1 9).bind fun v9 =>
  if v9 = 0 then (some D6)
  else (fn_X3_move_L43 L q q k0 k1 (0 : Int32) (0 : Int32) D6))
set_option maxHeartbeats 4000000 in
set_option maxRecDepth 100000 in
theorem ct_X3_move (l : Launch) (G : va_G) (L : cp_Lay) (hJ : cp_J L) (q : Nat) (k0 : Nat) (k1 : Nat) (D : cp_Dt) (res : cp_Dt) (hF : fn_X3_move L q k0 k1 D = some res) : cp_Met l G yX3_move wsX3_move ({ frames := 4, cells := 0, slots := 0, locals := 95 }) L ([.ref (L.2.1 k0), .ref (L.2.1 k1)] : List Value) D res none := by
  refine Met.ofW (cc := cX3_move) (maxL := 4) (ret := none) (by decide) rfl ?_
  intro p e s m args below meth c s₁ B hml hv
  obtain ⟨rfl, hP, hK, hN, hZ⟩ := hv
  have hx := B.exec
  have hb := B.bytes
  have hr := B.returns
  have hts := atoms_spec (ws := wsX3_move) B.pre
  have hown : s.vm.findClass "CreaturePond$Mind" = some m.cls := findClass_of_methodNamed B.named
  have hlocks := B.notSynchronized
  have hS : va_S (cp_A L) s.heap s.heap [] := va_S.rf
  have htT : ∀ w ∈ cp_T, w.before ([.ref (L.2.1 k0), .ref (L.2.1 k1)] : List Value).toArray s = true := fun w h => hts w (List.mem_cons_of_mem _ h)
  have hl := lv_entry (([.ref (L.2.1 k0), .ref (L.2.1 k1)] : List Value)) (n := 4) (Nat.le_of_ble_eq_true rfl)
  rw [lg_entry_eq]
  generalize (lg_sl (([.ref (L.2.1 k0), .ref (L.2.1 k1)] : List Value)) ++ List.replicate (4 - (lg_sl (([.ref (L.2.1 k0), .ref (L.2.1 k1)] : List Value))).length) Slot.unset).toArray = ls at hl ⊢
  have hl : lv_has ls 4 [(0, .ref (L.2.1 k0)), (1, .ref (L.2.1 k1))] := hl
  have hL43 : ∀ (n : Nat) (a0 : Nat) (a1 : Nat) (i2 : Int32) (i3 : Int32) (D : cp_Dt) (H : Heap) (locs : List Loc) (ls : Array Slot), fn_X3_move_L43 L q n a0 a1 i2 i3 D = some res → va_P G vwCl (cp_ws L D) H → va_S (cp_A L) s.heap H locs → lv_has ls 4 [(0, .ref (L.2.1 a0)), (1, .ref (L.2.1 a1)), (2, .int i2), (3, .int i3)] → W p l e (headSpec wsX3_move ({ frames := 4, cells := 0, slots := 0, locals := 95 })).room s m ([.ref (L.2.1 k0), .ref (L.2.1 k1)] : List Value).toArray below meth c H locs 0 0 (MQ below (cp_Q G L res none) ([.ref (L.2.1 k0), .ref (L.2.1 k1)] : List Value).toArray s 0 0 (cp_A L)) (F0 m 43 ls []) := by
    intro n
    induction n with
    | zero =>
      intro a0 a1 i2 i3 D H locs ls hF
      cases hF
    | succ n ih =>
      intro a0 a1 i2 i3 D H locs ls hF hP hS hl
      unfold fn_X3_move_L43 at hF
      refine lv_iload_n hx hb dX3_move_43 rfl (lv_at hl 3 rfl) ?_
      refine lv_bipush (v := (8 : Int32)) hx hb dX3_move_44 (by decide) ?_
      refine lv_icmp_ge (tgt := 65) hx hb dX3_move_46 (by decide) (fun hc11 => ?_) (fun hc11 => ?_)
      · rw [if_pos hc11] at hF
        exact cp_vret hx hb hr hlocks hF hP hS dX3_move_65
      · rw [if_neg hc11] at hF
        refine lv_iload_n hx hb dX3_move_49 rfl (lv_at hl 2 rfl) ?_
        refine lv_if_ne (tgt := 65) hx hb dX3_move_50 (by decide) (fun hc12 => ?_) (fun hc12 => ?_)
        · rw [if_neg hc12] at hF
          exact cp_vret hx hb hr hlocks hF hP hS dX3_move_65
        · rw [if_pos hc12] at hF
          refine lv_aload_n hx hb dX3_move_53 rfl (lv_at hl 0 rfl) ?_
          refine lv_aload_n hx hb dX3_move_54 rfl (lv_at hl 1 rfl) ?_
          obtain ⟨f13, ef13, hF⟩ := cp_bind hF
          obtain ⟨y14, ey14, hF⟩ := cp_bind hF
          refine cp_call (st1 := [.int y14.1]) (va_runV (As := [.ref (L.2.1 a1)]) (rest := []) ⟨hx, hb, hml, hown, htT⟩ (ct_X3_operate l G L hJ q a0 a1 D y14 ey14) ⟨callB_of 1 htT gdX3_operate rfl rfl rfl (htT _ tw_6) (htT _ tw_269) hdX3_operate ⟨Nat.le_of_ble_eq_true rfl, Nat.le_of_ble_eq_true rfl⟩, (htT _ tw_270), (htT _ tw_546)⟩ ⟨cp_blind, cp_recv hK hP rfl ef13, cp_pre hP hK hN hZ hS⟩ rfl rfl hl.1 rfl (lv_room (Nat.le_of_ble_eq_true rfl)) dX3_move_55 ⟨Nat.zero_le _, Nat.zero_le _⟩) hS (fun H locs hP hS => ?_)
          refine lv_istore_n (lv' := [(2, .int y14.1), (0, .ref (L.2.1 a0)), (1, .ref (L.2.1 a1)), (3, .int i3)]) hx hb dX3_move_58 rfl hl (by decide) rfl (fun ls hl => ?_)
          refine lv_iinc (k := 3) (v := (i3 + 1)) (lv' := [(3, .int (i3 + 1)), (2, .int y14.1), (0, .ref (L.2.1 a0)), (1, .ref (L.2.1 a1))]) hx hb dX3_move_59 hl rfl (congrArg (fun z => i3 + z) (by decide)) (by decide) rfl (fun ls hl => ?_)
          refine lv_goto (tgt := 43) hx hb dX3_move_62 (by decide) ?_
          exact ih a0 a1 y14.1 (i3 + 1) y14.2 _ _ _ hF hP hS (lv_sub hl [2, 3, 1, 0] rfl)
  unfold fn_X3_move at hF
  refine lv_aload_n hx hb dX3_move_0 rfl (lv_at hl 1 rfl) ?_
  refine lv_iconst (v := (0 : Int32)) hx hb dX3_move_1 (by decide) ?_
  obtain ⟨D1, eD1, hF⟩ := cp_bind hF
  refine cp_putN (T := TX1) (N := 14) (ci := 1) (j := 4) hx hb htT hinX1 tyX1 tyX1_ok nmX1 hown hK hJ hP hS rfl (by decide) rfl (hN _ (List.mem_of_getElem? (i := 14) rfl)) rfl (cp_pZ_spec eD1).2.1 (cp_pZ_spec eD1).2.2 (cp_pZ_spec eD1).1 dX3_move_2 (fun H locs hP hS => ?_)
  refine lv_aload_n hx hb dX3_move_5 rfl (lv_at hl 1 rfl) ?_
  refine lv_dup hx hb dX3_move_6 rfl ?_
  obtain ⟨v2, ev2, hF⟩ := cp_bind hF
  refine cp_getIN (T := TX1) (N := 14) (ci := 1) (j := 8) hx hb htT hinX1 hown hK hP rfl (by decide) rfl (hN _ (List.mem_of_getElem? (i := 26) rfl)) ev2 dX3_move_7 ?_
  refine lv_iconst (v := (1 : Int32)) hx hb dX3_move_10 (by decide) ?_
  refine lv_iadd hx hb dX3_move_11 ?_
  obtain ⟨D3, eD3, hF⟩ := cp_bind hF
  refine cp_putN (T := TX1) (N := 14) (ci := 1) (j := 8) hx hb htT hinX1 tyX1 tyX1_ok nmX1 hown hK hJ hP hS rfl (by decide) rfl (hN _ (List.mem_of_getElem? (i := 26) rfl)) rfl rfl rfl eD3 dX3_move_12 (fun H locs hP hS => ?_)
  refine lv_aload_n hx hb dX3_move_15 rfl (lv_at hl 0 rfl) ?_
  obtain ⟨r4, er4, hF⟩ := cp_bind hF
  refine cp_getR (T := TX3) (N := 1) (ci := 3) (j := 0) hx hb htT hinX3 hown hK hP rfl (by decide) rfl (htT _ tw_126) er4 dX3_move_16 ?_
  refine lv_aload_n hx hb dX3_move_19 rfl (lv_at hl 1 rfl) ?_
  refine lv_iconst (v := (1 : Int32)) hx hb dX3_move_20 (by decide) ?_
  obtain ⟨f5, ef5, hF⟩ := cp_bind hF
  obtain ⟨D6, eD6, hF⟩ := cp_bind hF
  refine cp_call (st1 := []) (va_runVN (As := [.ref (L.2.1 k1), .int (1 : Int32)]) (rest := []) ⟨hx, hb, hml, hown, htT⟩ (ct_X4_pay l G L hJ q r4 k1 (1 : Int32) D3 D6 eD6) ⟨va_cnB 2 htT gdX4_pay rfl rfl rfl (hN _ (List.mem_of_getElem? (i := 72) rfl)) (htT _ tw_4) hdX4_pay ⟨Nat.le_of_ble_eq_true rfl, Nat.le_of_ble_eq_true rfl⟩, (htT _ tw_266), (htT _ tw_545)⟩ ⟨cp_blind, cp_recv hK hP rfl ef5, cp_pre hP hK hN hZ hS⟩ rfl rfl hl.1 rfl (lv_room (Nat.le_of_ble_eq_true rfl)) dX3_move_21 ⟨Nat.zero_le _, Nat.zero_le _⟩) hS (fun H locs hP hS => ?_)
  refine lv_aload_n hx hb dX3_move_24 rfl (lv_at hl 1 rfl) ?_
  obtain ⟨v7, ev7, hF⟩ := cp_bind hF
  refine cp_getIN (T := TX1) (N := 14) (ci := 1) (j := 7) hx hb htT hinX1 hown hK hP rfl (by decide) rfl (hN _ (List.mem_of_getElem? (i := 23) rfl)) ev7 dX3_move_25 ?_
  refine lv_if_eq (tgt := 38) hx hb dX3_move_28 (by decide) (fun hc8 => ?_) (fun hc8 => ?_)
  · rw [if_pos hc8] at hF
    exact cp_vret hx hb hr hlocks hF hP hS dX3_move_38
  · rw [if_neg hc8] at hF
    refine lv_aload_n hx hb dX3_move_31 rfl (lv_at hl 1 rfl) ?_
    obtain ⟨v9, ev9, hF⟩ := cp_bind hF
    refine cp_getIN (T := TX1) (N := 14) (ci := 1) (j := 9) hx hb htT hinX1 hown hK hP rfl (by decide) rfl (hN _ (List.mem_of_getElem? (i := 28) rfl)) ev9 dX3_move_32 ?_
    refine lv_if_ne (tgt := 39) hx hb dX3_move_35 (by decide) (fun hc10 => ?_) (fun hc10 => ?_)
    · rw [if_neg hc10] at hF
      refine lv_iconst (v := (0 : Int32)) hx hb dX3_move_39 (by decide) ?_
      refine lv_istore_n (lv' := [(2, .int (0 : Int32)), (0, .ref (L.2.1 k0)), (1, .ref (L.2.1 k1))]) hx hb dX3_move_40 rfl hl (by decide) rfl (fun ls hl => ?_)
      refine lv_iconst (v := (0 : Int32)) hx hb dX3_move_41 (by decide) ?_
      refine lv_istore_n (lv' := [(3, .int (0 : Int32)), (2, .int (0 : Int32)), (0, .ref (L.2.1 k0)), (1, .ref (L.2.1 k1))]) hx hb dX3_move_42 rfl hl (by decide) rfl (fun ls hl => ?_)
      exact hL43 q k0 k1 (0 : Int32) (0 : Int32) D6 _ _ _ hF hP hS (lv_sub hl [2, 3, 1, 0] rfl)
    · rw [if_pos hc10] at hF
      exact cp_vret hx hb hr hlocks hF hP hS dX3_move_38
theorem dX2_breedAll_0 : decode cX2_breedAll 0 = .ok (.iconst 0, 1) := by decide +kernel
theorem dX2_breedAll_1 : decode cX2_breedAll 1 = .ok (.istore_n 1, 1) := by decide +kernel
theorem dX2_breedAll_2 : decode cX2_breedAll 2 = .ok (.iload_n 1, 1) := by decide +kernel
theorem dX2_breedAll_3 : decode cX2_breedAll 3 = .ok (.bipush 16, 2) := by decide +kernel
theorem dX2_breedAll_5 : decode cX2_breedAll 5 = .ok (.if_icmp .ge 26, 3) := by decide +kernel
theorem dX2_breedAll_8 : decode cX2_breedAll 8 = .ok (.aload_n 0, 1) := by decide +kernel
theorem dX2_breedAll_9 : decode cX2_breedAll 9 = .ok (.iload_n 1, 1) := by decide +kernel
theorem dX2_breedAll_10 : decode cX2_breedAll 10 = .ok (.invokevirtual 15, 3) := by decide +kernel
theorem dX2_breedAll_13 : decode cX2_breedAll 13 = .ok (.istore_n 2, 1) := by decide +kernel
theorem dX2_breedAll_14 : decode cX2_breedAll 14 = .ok (.iload_n 2, 1) := by decide +kernel
theorem dX2_breedAll_15 : decode cX2_breedAll 15 = .ok (.iconst (-1), 1) := by decide +kernel
theorem dX2_breedAll_16 : decode cX2_breedAll 16 = .ok (.if_icmp .eq 9, 3) := by decide +kernel
theorem dX2_breedAll_19 : decode cX2_breedAll 19 = .ok (.aload_n 0, 1) := by decide +kernel
theorem dX2_breedAll_20 : decode cX2_breedAll 20 = .ok (.iload_n 1, 1) := by decide +kernel
theorem dX2_breedAll_21 : decode cX2_breedAll 21 = .ok (.iload_n 2, 1) := by decide +kernel
theorem dX2_breedAll_22 : decode cX2_breedAll 22 = .ok (.invokevirtual 19, 3) := by decide +kernel
theorem dX2_breedAll_25 : decode cX2_breedAll 25 = .ok (.iinc 1 1, 3) := by decide +kernel
theorem dX2_breedAll_28 : decode cX2_breedAll 28 = .ok (.goto (-26), 3) := by decide +kernel
theorem dX2_breedAll_31 : decode cX2_breedAll 31 = .ok (.return_, 1) := by decide +kernel
def fn_X2_breedAll_L2 (L : cp_Lay) (q : Nat) : Nat → Nat → Int32 → cp_Dt → Option (cp_Dt)
  | 0, _, _, _ => none
  | n + 1, a0, i1, D =>
    if (16 : Int32) ≤ i1 then (some D)
    else ((cp_fl L a0 2).bind fun f2 =>
    (fn_X2_greaterOfPair L q a0 i1 D).bind fun y3 =>
    if y3.1 = (-1 : Int32) then (fn_X2_breedAll_L2 L q n a0 (i1 + 1) y3.2)
    else ((cp_fl L a0 2).bind fun f5 =>
    (fn_X2_breed L q a0 i1 y3.1 y3.2).bind fun D6 =>
    fn_X2_breedAll_L2 L q n a0 (i1 + 1) D6))
def fn_X2_breedAll (L : cp_Lay) (q : Nat) (k0 : Nat) (D : cp_Dt) : Option (cp_Dt) :=
  fn_X2_breedAll_L2 L q q k0 (0 : Int32) D
set_option maxHeartbeats 4000000 in
set_option maxRecDepth 100000 in
theorem ct_X2_breedAll (l : Launch) (G : va_G) (L : cp_Lay) (hJ : cp_J L) (q : Nat) (k0 : Nat) (D : cp_Dt) (res : cp_Dt) (hF : fn_X2_breedAll L q k0 D = some res) : cp_Met l G yX2_breedAll wsX2_breedAll ({ frames := 4, cells := 0, slots := 0, locals := 99 }) L ([.ref (L.2.1 k0)] : List Value) D res none := by
  refine Met.ofW (cc := cX2_breedAll) (maxL := 3) (ret := none) (by decide) rfl ?_
  intro p e s m args below meth c s₁ B hml hv
  obtain ⟨rfl, hP, hK, hN, hZ⟩ := hv
  have hx := B.exec
  have hb := B.bytes
  have hr := B.returns
  have hts := atoms_spec (ws := wsX2_breedAll) B.pre
  have hown : s.vm.findClass "CreaturePond$Breeding" = some m.cls := findClass_of_methodNamed B.named
  have hlocks := B.notSynchronized
  have hS : va_S (cp_A L) s.heap s.heap [] := va_S.rf
  have htT : ∀ w ∈ cp_T, w.before ([.ref (L.2.1 k0)] : List Value).toArray s = true := fun w h => hts w (List.mem_cons_of_mem _ h)
  have hl := lv_entry (([.ref (L.2.1 k0)] : List Value)) (n := 3) (Nat.le_of_ble_eq_true rfl)
  rw [lg_entry_eq]
  generalize (lg_sl (([.ref (L.2.1 k0)] : List Value)) ++ List.replicate (3 - (lg_sl (([.ref (L.2.1 k0)] : List Value))).length) Slot.unset).toArray = ls at hl ⊢
  have hl : lv_has ls 3 [(0, .ref (L.2.1 k0))] := hl
  have hL2 : ∀ (n : Nat) (a0 : Nat) (i1 : Int32) (D : cp_Dt) (H : Heap) (locs : List Loc) (ls : Array Slot), fn_X2_breedAll_L2 L q n a0 i1 D = some res → va_P G vwCl (cp_ws L D) H → va_S (cp_A L) s.heap H locs → lv_has ls 3 [(0, .ref (L.2.1 a0)), (1, .int i1)] → W p l e (headSpec wsX2_breedAll ({ frames := 4, cells := 0, slots := 0, locals := 99 })).room s m ([.ref (L.2.1 k0)] : List Value).toArray below meth c H locs 0 0 (MQ below (cp_Q G L res none) ([.ref (L.2.1 k0)] : List Value).toArray s 0 0 (cp_A L)) (F0 m 2 ls []) := by
    intro n
    induction n with
    | zero =>
      intro a0 i1 D H locs ls hF
      cases hF
    | succ n ih =>
      intro a0 i1 D H locs ls hF hP hS hl
      unfold fn_X2_breedAll_L2 at hF
      refine lv_iload_n hx hb dX2_breedAll_2 rfl (lv_at hl 1 rfl) ?_
      refine lv_bipush (v := (16 : Int32)) hx hb dX2_breedAll_3 (by decide) ?_
      refine lv_icmp_ge (tgt := 31) hx hb dX2_breedAll_5 (by decide) (fun hc1 => ?_) (fun hc1 => ?_)
      · rw [if_pos hc1] at hF
        exact cp_vret hx hb hr hlocks hF hP hS dX2_breedAll_31
      · rw [if_neg hc1] at hF
        refine lv_aload_n hx hb dX2_breedAll_8 rfl (lv_at hl 0 rfl) ?_
        refine lv_iload_n hx hb dX2_breedAll_9 rfl (lv_at hl 1 rfl) ?_
        obtain ⟨f2, ef2, hF⟩ := cp_bind hF
        obtain ⟨y3, ey3, hF⟩ := cp_bind hF
        refine cp_call (st1 := [.int y3.1]) (va_runV (As := [.int i1]) (rest := []) ⟨hx, hb, hml, hown, htT⟩ (ct_X2_greaterOfPair l G L hJ q a0 i1 D y3 ey3) ⟨callB_of 1 htT gdX2_greaterOfPair rfl rfl rfl (htT _ tw_7) (htT _ tw_310) hdX2_greaterOfPair ⟨Nat.le_of_ble_eq_true rfl, Nat.le_of_ble_eq_true rfl⟩, (htT _ tw_311), (htT _ tw_560)⟩ ⟨cp_blind, cp_recv hK hP rfl ef2, cp_pre hP hK hN hZ hS⟩ rfl rfl hl.1 rfl (lv_room (Nat.le_of_ble_eq_true rfl)) dX2_breedAll_10 ⟨Nat.zero_le _, Nat.zero_le _⟩) hS (fun H locs hP hS => ?_)
        refine lv_istore_n (lv' := [(2, .int y3.1), (0, .ref (L.2.1 a0)), (1, .int i1)]) hx hb dX2_breedAll_13 rfl hl (by decide) rfl (fun ls hl => ?_)
        refine lv_iload_n hx hb dX2_breedAll_14 rfl (lv_at hl 0 rfl) ?_
        refine lv_iconst (v := (-1 : Int32)) hx hb dX2_breedAll_15 (by decide) ?_
        refine lv_icmp_eq (tgt := 25) hx hb dX2_breedAll_16 (by decide) (fun hc4 => ?_) (fun hc4 => ?_)
        · rw [if_pos hc4] at hF
          refine lv_iinc (k := 2) (v := (i1 + 1)) (lv' := [(1, .int (i1 + 1)), (2, .int y3.1), (0, .ref (L.2.1 a0))]) hx hb dX2_breedAll_25 hl rfl (congrArg (fun z => i1 + z) (by decide)) (by decide) rfl (fun ls hl => ?_)
          refine lv_goto (tgt := 2) hx hb dX2_breedAll_28 (by decide) ?_
          exact ih a0 (i1 + 1) y3.2 _ _ _ hF hP hS (lv_sub hl [2, 0] rfl)
        · rw [if_neg hc4] at hF
          refine lv_aload_n hx hb dX2_breedAll_19 rfl (lv_at hl 1 rfl) ?_
          refine lv_iload_n hx hb dX2_breedAll_20 rfl (lv_at hl 2 rfl) ?_
          refine lv_iload_n hx hb dX2_breedAll_21 rfl (lv_at hl 0 rfl) ?_
          obtain ⟨f5, ef5, hF⟩ := cp_bind hF
          obtain ⟨D6, eD6, hF⟩ := cp_bind hF
          refine cp_call (st1 := []) (va_runV (As := [.int i1, .int y3.1]) (rest := []) ⟨hx, hb, hml, hown, htT⟩ (ct_X2_breed l G L hJ q a0 i1 y3.1 y3.2 D6 eD6) ⟨callB_of 2 htT gdX2_breed rfl rfl rfl (htT _ tw_7) (htT _ tw_313) hdX2_breed ⟨Nat.le_of_ble_eq_true rfl, Nat.le_of_ble_eq_true rfl⟩, (htT _ tw_314), (htT _ tw_561)⟩ ⟨cp_blind, cp_recv hK hP rfl ef5, cp_pre hP hK hN hZ hS⟩ rfl rfl hl.1 rfl (lv_room (Nat.le_of_ble_eq_true rfl)) dX2_breedAll_22 ⟨Nat.zero_le _, Nat.zero_le _⟩) hS (fun H locs hP hS => ?_)
          refine lv_iinc (k := 2) (v := (i1 + 1)) (lv' := [(1, .int (i1 + 1)), (2, .int y3.1), (0, .ref (L.2.1 a0))]) hx hb dX2_breedAll_25 hl rfl (congrArg (fun z => i1 + z) (by decide)) (by decide) rfl (fun ls hl => ?_)
          refine lv_goto (tgt := 2) hx hb dX2_breedAll_28 (by decide) ?_
          exact ih a0 (i1 + 1) D6 _ _ _ hF hP hS (lv_sub hl [2, 0] rfl)
  unfold fn_X2_breedAll at hF
  refine lv_iconst (v := (0 : Int32)) hx hb dX2_breedAll_0 (by decide) ?_
  refine lv_istore_n (lv' := [(1, .int (0 : Int32)), (0, .ref (L.2.1 k0))]) hx hb dX2_breedAll_1 rfl hl (by decide) rfl (fun ls hl => ?_)
  exact hL2 q k0 (0 : Int32) D _ _ _ hF hP hS (lv_sub hl [1, 0] rfl)
theorem dX6_act_0 : decode cX6_act 0 = .ok (.iload_n 1, 1) := by decide +kernel
theorem dX6_act_1 : decode cX6_act 1 = .ok (.invokestatic 30, 3) := by decide +kernel
theorem dX6_act_4 : decode cX6_act 4 = .ok (.istore 4, 2) := by decide +kernel
theorem dX6_act_6 : decode cX6_act 6 = .ok (.aload_n 0, 1) := by decide +kernel
theorem dX6_act_7 : decode cX6_act 7 = .ok (.getfield 7, 3) := by decide +kernel
theorem dX6_act_10 : decode cX6_act 10 = .ok (.iload 4, 2) := by decide +kernel
theorem dX6_act_12 : decode cX6_act 12 = .ok (.iaload, 1) := by decide +kernel
theorem dX6_act_13 : decode cX6_act 13 = .ok (.istore 5, 2) := by decide +kernel
theorem dX6_act_15 : decode cX6_act 15 = .ok (.iload_n 2, 1) := by decide +kernel
theorem dX6_act_16 : decode cX6_act 16 = .ok (.bipush 16, 2) := by decide +kernel
theorem dX6_act_18 : decode cX6_act 18 = .ok (.if_icmp .ne 28, 3) := by decide +kernel
theorem dX6_act_21 : decode cX6_act 21 = .ok (.aload_n 0, 1) := by decide +kernel
theorem dX6_act_22 : decode cX6_act 22 = .ok (.getfield 7, 3) := by decide +kernel
theorem dX6_act_25 : decode cX6_act 25 = .ok (.iload 4, 2) := by decide +kernel
theorem dX6_act_27 : decode cX6_act 27 = .ok (.iconst 1, 1) := by decide +kernel
theorem dX6_act_28 : decode cX6_act 28 = .ok (.iadd, 1) := by decide +kernel
theorem dX6_act_29 : decode cX6_act 29 = .ok (.aload_n 0, 1) := by decide +kernel
theorem dX6_act_30 : decode cX6_act 30 = .ok (.getfield 7, 3) := by decide +kernel
theorem dX6_act_33 : decode cX6_act 33 = .ok (.iload 4, 2) := by decide +kernel
theorem dX6_act_35 : decode cX6_act 35 = .ok (.iconst 1, 1) := by decide +kernel
theorem dX6_act_36 : decode cX6_act 36 = .ok (.iadd, 1) := by decide +kernel
theorem dX6_act_37 : decode cX6_act 37 = .ok (.iaload, 1) := by decide +kernel
theorem dX6_act_38 : decode cX6_act 38 = .ok (.iload_n 3, 1) := by decide +kernel
theorem dX6_act_39 : decode cX6_act 39 = .ok (.iadd, 1) := by decide +kernel
theorem dX6_act_40 : decode cX6_act 40 = .ok (.iconst 3, 1) := by decide +kernel
theorem dX6_act_41 : decode cX6_act 41 = .ok (.iand, 1) := by decide +kernel
theorem dX6_act_42 : decode cX6_act 42 = .ok (.iastore, 1) := by decide +kernel
theorem dX6_act_43 : decode cX6_act 43 = .ok (.goto 225, 3) := by decide +kernel
theorem dX6_act_46 : decode cX6_act 46 = .ok (.iload_n 2, 1) := by decide +kernel
theorem dX6_act_47 : decode cX6_act 47 = .ok (.bipush 17, 2) := by decide +kernel
theorem dX6_act_49 : decode cX6_act 49 = .ok (.if_icmp .ne 42, 3) := by decide +kernel
theorem dX6_act_52 : decode cX6_act 52 = .ok (.aload_n 0, 1) := by decide +kernel
theorem dX6_act_53 : decode cX6_act 53 = .ok (.iload_n 1, 1) := by decide +kernel
theorem dX6_act_54 : decode cX6_act 54 = .ok (.iconst 2, 1) := by decide +kernel
theorem dX6_act_55 : decode cX6_act 55 = .ok (.invokevirtual 60, 3) := by decide +kernel
theorem dX6_act_58 : decode cX6_act 58 = .ok (.aload_n 0, 1) := by decide +kernel
theorem dX6_act_59 : decode cX6_act 59 = .ok (.iload_n 1, 1) := by decide +kernel
theorem dX6_act_60 : decode cX6_act 60 = .ok (.invokevirtual 48, 3) := by decide +kernel
theorem dX6_act_63 : decode cX6_act 63 = .ok (.istore 6, 2) := by decide +kernel
theorem dX6_act_65 : decode cX6_act 65 = .ok (.aload_n 0, 1) := by decide +kernel
theorem dX6_act_66 : decode cX6_act 66 = .ok (.getfield 7, 3) := by decide +kernel
theorem dX6_act_69 : decode cX6_act 69 = .ok (.iload 4, 2) := by decide +kernel
theorem dX6_act_71 : decode cX6_act 71 = .ok (.aload_n 0, 1) := by decide +kernel
theorem dX6_act_72 : decode cX6_act 72 = .ok (.iload 6, 2) := by decide +kernel
theorem dX6_act_74 : decode cX6_act 74 = .ok (.invokevirtual 51, 3) := by decide +kernel
theorem dX6_act_77 : decode cX6_act 77 = .ok (.ifCond .ge 8, 3) := by decide +kernel
theorem dX6_act_80 : decode cX6_act 80 = .ok (.iload 6, 2) := by decide +kernel
theorem dX6_act_82 : decode cX6_act 82 = .ok (.goto 5, 3) := by decide +kernel
theorem dX6_act_85 : decode cX6_act 85 = .ok (.iload 5, 2) := by decide +kernel
theorem dX6_act_87 : decode cX6_act 87 = .ok (.iastore, 1) := by decide +kernel
theorem dX6_act_88 : decode cX6_act 88 = .ok (.goto 180, 3) := by decide +kernel
theorem dX6_act_91 : decode cX6_act 91 = .ok (.iload_n 2, 1) := by decide +kernel
theorem dX6_act_92 : decode cX6_act 92 = .ok (.bipush 18, 2) := by decide +kernel
theorem dX6_act_94 : decode cX6_act 94 = .ok (.if_icmp .ne 46, 3) := by decide +kernel
theorem dX6_act_97 : decode cX6_act 97 = .ok (.bipush 30, 2) := by decide +kernel
theorem dX6_act_99 : decode cX6_act 99 = .ok (.aload_n 0, 1) := by decide +kernel
theorem dX6_act_100 : decode cX6_act 100 = .ok (.getfield 7, 3) := by decide +kernel
theorem dX6_act_103 : decode cX6_act 103 = .ok (.iload 5, 2) := by decide +kernel
theorem dX6_act_105 : decode cX6_act 105 = .ok (.iaload, 1) := by decide +kernel
theorem dX6_act_106 : decode cX6_act 106 = .ok (.invokestatic 45, 3) := by decide +kernel
theorem dX6_act_109 : decode cX6_act 109 = .ok (.istore 6, 2) := by decide +kernel
theorem dX6_act_111 : decode cX6_act 111 = .ok (.aload_n 0, 1) := by decide +kernel
theorem dX6_act_112 : decode cX6_act 112 = .ok (.getfield 7, 3) := by decide +kernel
theorem dX6_act_115 : decode cX6_act 115 = .ok (.iload 5, 2) := by decide +kernel
theorem dX6_act_117 : decode cX6_act 117 = .ok (.dup2, 1) := by decide +kernel
theorem dX6_act_118 : decode cX6_act 118 = .ok (.iaload, 1) := by decide +kernel
theorem dX6_act_119 : decode cX6_act 119 = .ok (.iload 6, 2) := by decide +kernel
theorem dX6_act_121 : decode cX6_act 121 = .ok (.isub, 1) := by decide +kernel
theorem dX6_act_122 : decode cX6_act 122 = .ok (.iastore, 1) := by decide +kernel
theorem dX6_act_123 : decode cX6_act 123 = .ok (.aload_n 0, 1) := by decide +kernel
theorem dX6_act_124 : decode cX6_act 124 = .ok (.getfield 7, 3) := by decide +kernel
theorem dX6_act_127 : decode cX6_act 127 = .ok (.iload 4, 2) := by decide +kernel
theorem dX6_act_129 : decode cX6_act 129 = .ok (.iconst 2, 1) := by decide +kernel
theorem dX6_act_130 : decode cX6_act 130 = .ok (.iadd, 1) := by decide +kernel
theorem dX6_act_131 : decode cX6_act 131 = .ok (.dup2, 1) := by decide +kernel
theorem dX6_act_132 : decode cX6_act 132 = .ok (.iaload, 1) := by decide +kernel
theorem dX6_act_133 : decode cX6_act 133 = .ok (.iload 6, 2) := by decide +kernel
theorem dX6_act_135 : decode cX6_act 135 = .ok (.iadd, 1) := by decide +kernel
theorem dX6_act_136 : decode cX6_act 136 = .ok (.iastore, 1) := by decide +kernel
theorem dX6_act_137 : decode cX6_act 137 = .ok (.goto 131, 3) := by decide +kernel
theorem dX6_act_140 : decode cX6_act 140 = .ok (.iload_n 2, 1) := by decide +kernel
theorem dX6_act_141 : decode cX6_act 141 = .ok (.bipush 19, 2) := by decide +kernel
theorem dX6_act_143 : decode cX6_act 143 = .ok (.if_icmp .ne 80, 3) := by decide +kernel
theorem dX6_act_146 : decode cX6_act 146 = .ok (.aload_n 0, 1) := by decide +kernel
theorem dX6_act_147 : decode cX6_act 147 = .ok (.aload_n 0, 1) := by decide +kernel
theorem dX6_act_148 : decode cX6_act 148 = .ok (.iload_n 1, 1) := by decide +kernel
theorem dX6_act_149 : decode cX6_act 149 = .ok (.invokevirtual 48, 3) := by decide +kernel
theorem dX6_act_152 : decode cX6_act 152 = .ok (.invokevirtual 51, 3) := by decide +kernel
theorem dX6_act_155 : decode cX6_act 155 = .ok (.istore 6, 2) := by decide +kernel
theorem dX6_act_157 : decode cX6_act 157 = .ok (.iload 6, 2) := by decide +kernel
theorem dX6_act_159 : decode cX6_act 159 = .ok (.ifCond .ge 7, 3) := by decide +kernel
theorem dX6_act_162 : decode cX6_act 162 = .ok (.iconst 0, 1) := by decide +kernel
theorem dX6_act_163 : decode cX6_act 163 = .ok (.goto 19, 3) := by decide +kernel
theorem dX6_act_166 : decode cX6_act 166 = .ok (.iload_n 3, 1) := by decide +kernel
theorem dX6_act_167 : decode cX6_act 167 = .ok (.bipush 63, 2) := by decide +kernel
theorem dX6_act_169 : decode cX6_act 169 = .ok (.iand, 1) := by decide +kernel
theorem dX6_act_170 : decode cX6_act 170 = .ok (.aload_n 0, 1) := by decide +kernel
theorem dX6_act_171 : decode cX6_act 171 = .ok (.getfield 7, 3) := by decide +kernel
theorem dX6_act_174 : decode cX6_act 174 = .ok (.iload 4, 2) := by decide +kernel
theorem dX6_act_176 : decode cX6_act 176 = .ok (.iconst 2, 1) := by decide +kernel
theorem dX6_act_177 : decode cX6_act 177 = .ok (.iadd, 1) := by decide +kernel
theorem dX6_act_178 : decode cX6_act 178 = .ok (.iaload, 1) := by decide +kernel
theorem dX6_act_179 : decode cX6_act 179 = .ok (.invokestatic 45, 3) := by decide +kernel
theorem dX6_act_182 : decode cX6_act 182 = .ok (.istore 7, 2) := by decide +kernel
theorem dX6_act_184 : decode cX6_act 184 = .ok (.aload_n 0, 1) := by decide +kernel
theorem dX6_act_185 : decode cX6_act 185 = .ok (.getfield 7, 3) := by decide +kernel
theorem dX6_act_188 : decode cX6_act 188 = .ok (.iload 4, 2) := by decide +kernel
theorem dX6_act_190 : decode cX6_act 190 = .ok (.iconst 2, 1) := by decide +kernel
theorem dX6_act_191 : decode cX6_act 191 = .ok (.iadd, 1) := by decide +kernel
theorem dX6_act_192 : decode cX6_act 192 = .ok (.dup2, 1) := by decide +kernel
theorem dX6_act_193 : decode cX6_act 193 = .ok (.iaload, 1) := by decide +kernel
theorem dX6_act_194 : decode cX6_act 194 = .ok (.iload 7, 2) := by decide +kernel
theorem dX6_act_196 : decode cX6_act 196 = .ok (.isub, 1) := by decide +kernel
theorem dX6_act_197 : decode cX6_act 197 = .ok (.iastore, 1) := by decide +kernel
theorem dX6_act_198 : decode cX6_act 198 = .ok (.iload 6, 2) := by decide +kernel
theorem dX6_act_200 : decode cX6_act 200 = .ok (.ifCond .lt 20, 3) := by decide +kernel
theorem dX6_act_203 : decode cX6_act 203 = .ok (.aload_n 0, 1) := by decide +kernel
theorem dX6_act_204 : decode cX6_act 204 = .ok (.getfield 7, 3) := by decide +kernel
theorem dX6_act_207 : decode cX6_act 207 = .ok (.iload 6, 2) := by decide +kernel
theorem dX6_act_209 : decode cX6_act 209 = .ok (.invokestatic 30, 3) := by decide +kernel
theorem dX6_act_212 : decode cX6_act 212 = .ok (.iconst 2, 1) := by decide +kernel
theorem dX6_act_213 : decode cX6_act 213 = .ok (.iadd, 1) := by decide +kernel
theorem dX6_act_214 : decode cX6_act 214 = .ok (.dup2, 1) := by decide +kernel
theorem dX6_act_215 : decode cX6_act 215 = .ok (.iaload, 1) := by decide +kernel
theorem dX6_act_216 : decode cX6_act 216 = .ok (.iload 7, 2) := by decide +kernel
theorem dX6_act_218 : decode cX6_act 218 = .ok (.iadd, 1) := by decide +kernel
theorem dX6_act_219 : decode cX6_act 219 = .ok (.iastore, 1) := by decide +kernel
theorem dX6_act_220 : decode cX6_act 220 = .ok (.goto 48, 3) := by decide +kernel
theorem dX6_act_223 : decode cX6_act 223 = .ok (.iload_n 2, 1) := by decide +kernel
theorem dX6_act_224 : decode cX6_act 224 = .ok (.bipush 20, 2) := by decide +kernel
theorem dX6_act_226 : decode cX6_act 226 = .ok (.if_icmp .ne 31, 3) := by decide +kernel
theorem dX6_act_229 : decode cX6_act 229 = .ok (.aload_n 0, 1) := by decide +kernel
theorem dX6_act_230 : decode cX6_act 230 = .ok (.getfield 7, 3) := by decide +kernel
theorem dX6_act_233 : decode cX6_act 233 = .ok (.bipush 100, 2) := by decide +kernel
theorem dX6_act_235 : decode cX6_act 235 = .ok (.iload 5, 2) := by decide +kernel
theorem dX6_act_237 : decode cX6_act 237 = .ok (.iadd, 1) := by decide +kernel
theorem dX6_act_238 : decode cX6_act 238 = .ok (.aload_n 0, 1) := by decide +kernel
theorem dX6_act_239 : decode cX6_act 239 = .ok (.getfield 7, 3) := by decide +kernel
theorem dX6_act_242 : decode cX6_act 242 = .ok (.iload 4, 2) := by decide +kernel
theorem dX6_act_244 : decode cX6_act 244 = .ok (.bipush 10, 2) := by decide +kernel
theorem dX6_act_246 : decode cX6_act 246 = .ok (.iadd, 1) := by decide +kernel
theorem dX6_act_247 : decode cX6_act 247 = .ok (.iload_n 3, 1) := by decide +kernel
theorem dX6_act_248 : decode cX6_act 248 = .ok (.bipush 7, 2) := by decide +kernel
theorem dX6_act_250 : decode cX6_act 250 = .ok (.iand, 1) := by decide +kernel
theorem dX6_act_251 : decode cX6_act 251 = .ok (.iadd, 1) := by decide +kernel
theorem dX6_act_252 : decode cX6_act 252 = .ok (.iaload, 1) := by decide +kernel
theorem dX6_act_253 : decode cX6_act 253 = .ok (.iastore, 1) := by decide +kernel
theorem dX6_act_254 : decode cX6_act 254 = .ok (.goto 14, 3) := by decide +kernel
theorem dX6_act_257 : decode cX6_act 257 = .ok (.aload_n 0, 1) := by decide +kernel
theorem dX6_act_258 : decode cX6_act 258 = .ok (.getfield 7, 3) := by decide +kernel
theorem dX6_act_261 : decode cX6_act 261 = .ok (.iload 4, 2) := by decide +kernel
theorem dX6_act_263 : decode cX6_act 263 = .ok (.bipush 9, 2) := by decide +kernel
theorem dX6_act_265 : decode cX6_act 265 = .ok (.iadd, 1) := by decide +kernel
theorem dX6_act_266 : decode cX6_act 266 = .ok (.iconst 1, 1) := by decide +kernel
theorem dX6_act_267 : decode cX6_act 267 = .ok (.iastore, 1) := by decide +kernel
theorem dX6_act_268 : decode cX6_act 268 = .ok (.return_, 1) := by decide +kernel
def fn_X6_act (L : cp_Lay) (q : Nat) (k0 : Nat) (x1 : Int32) (x2 : Int32) (x3 : Int32) (D : cp_Dt) : Option (cp_Dt) :=
  (fn_X6_at L q x1 D).bind fun y1 =>
  (cp_gR L k0 6 3).bind fun r2 =>
  (cp_aI L y1.2 0 r2 y1.1).bind fun v3 =>
  if x2 = (16 : Int32) then ((cp_gR L k0 6 3).bind fun r58 =>
  (cp_gR L k0 6 3).bind fun r59 =>
  (cp_aI L y1.2 0 r59 (y1.1 + (1 : Int32))).bind fun v60 =>
  (cp_aS L y1.2 0 r58 (y1.1 + (1 : Int32)) ((v60 + x3) &&& (3 : Int32))).bind fun D61 =>
  some D61)
  else (if x2 = (17 : Int32) then ((cp_fl L k0 6).bind fun f48 =>
  (fn_X6_pay L q k0 x1 (2 : Int32) y1.2).bind fun D49 =>
  (cp_fl L k0 6).bind fun f50 =>
  (fn_X6_ahead L q k0 x1 D49).bind fun y51 =>
  (cp_gR L k0 6 3).bind fun r52 =>
  (cp_fl L k0 6).bind fun f53 =>
  (fn_X6_inCell L q k0 y51.1 y51.2).bind fun y54 =>
  if 0 ≤ y54.1 then ((cp_aS L y54.2 0 r52 y1.1 v3).bind fun D56 =>
  some D56)
  else ((cp_aS L y54.2 0 r52 y1.1 y51.1).bind fun D57 =>
  some D57))
  else (if x2 = (18 : Int32) then ((cp_gR L k0 6 3).bind fun r39 =>
  (cp_aI L y1.2 0 r39 v3).bind fun v40 =>
  (fn_X6_least L q (30 : Int32) v40 y1.2).bind fun y41 =>
  (cp_gR L k0 6 3).bind fun r42 =>
  (cp_aI L y41.2 0 r42 v3).bind fun v43 =>
  (cp_aS L y41.2 0 r42 v3 (v43 - y41.1)).bind fun D44 =>
  (cp_gR L k0 6 3).bind fun r45 =>
  (cp_aI L D44 0 r45 (y1.1 + (2 : Int32))).bind fun v46 =>
  (cp_aS L D44 0 r45 (y1.1 + (2 : Int32)) (v46 + y41.1)).bind fun D47 =>
  some D47)
  else (if x2 = (19 : Int32) then ((cp_fl L k0 6).bind fun f15 =>
  (fn_X6_ahead L q k0 x1 y1.2).bind fun y16 =>
  (cp_fl L k0 6).bind fun f17 =>
  (fn_X6_inCell L q k0 y16.1 y16.2).bind fun y18 =>
  if 0 ≤ y18.1 then ((cp_gR L k0 6 3).bind fun r20 =>
  (cp_aI L y18.2 0 r20 (y1.1 + (2 : Int32))).bind fun v21 =>
  (fn_X6_least L q (x3 &&& (63 : Int32)) v21 y18.2).bind fun y22 =>
  (cp_gR L k0 6 3).bind fun r23 =>
  (cp_aI L y22.2 0 r23 (y1.1 + (2 : Int32))).bind fun v24 =>
  (cp_aS L y22.2 0 r23 (y1.1 + (2 : Int32)) (v24 - y22.1)).bind fun D25 =>
  if y18.1 < 0 then (some D25)
  else ((cp_gR L k0 6 3).bind fun r27 =>
  (fn_X6_at L q y18.1 D25).bind fun y28 =>
  (cp_aI L y28.2 0 r27 (y28.1 + (2 : Int32))).bind fun v29 =>
  (cp_aS L y28.2 0 r27 (y28.1 + (2 : Int32)) (v29 + y22.1)).bind fun D30 =>
  some D30))
  else ((cp_gR L k0 6 3).bind fun r31 =>
  (cp_aI L y18.2 0 r31 (y1.1 + (2 : Int32))).bind fun v32 =>
  (cp_aS L y18.2 0 r31 (y1.1 + (2 : Int32)) (v32 - (0 : Int32))).bind fun D33 =>
  if y18.1 < 0 then (some D33)
  else ((cp_gR L k0 6 3).bind fun r35 =>
  (fn_X6_at L q y18.1 D33).bind fun y36 =>
  (cp_aI L y36.2 0 r35 (y36.1 + (2 : Int32))).bind fun v37 =>
  (cp_aS L y36.2 0 r35 (y36.1 + (2 : Int32)) (v37 + (0 : Int32))).bind fun D38 =>
  some D38)))
  else (if x2 = (20 : Int32) then ((cp_gR L k0 6 3).bind fun r11 =>
  (cp_gR L k0 6 3).bind fun r12 =>
  (cp_aI L y1.2 0 r12 ((y1.1 + (10 : Int32)) + (x3 &&& (7 : Int32)))).bind fun v13 =>
  (cp_aS L y1.2 0 r11 ((100 : Int32) + v3) v13).bind fun D14 =>
  some D14)
  else ((cp_gR L k0 6 3).bind fun r9 =>
  (cp_aS L y1.2 0 r9 (y1.1 + (9 : Int32)) (1 : Int32)).bind fun D10 =>
  some D10)))))
set_option maxHeartbeats 4000000 in
set_option maxRecDepth 100000 in
theorem ct_X6_act (l : Launch) (G : va_G) (L : cp_Lay) (hJ : cp_J L) (q : Nat) (k0 : Nat) (x1 : Int32) (x2 : Int32) (x3 : Int32) (D : cp_Dt) (res : cp_Dt) (hF : fn_X6_act L q k0 x1 x2 x3 D = some res) : cp_Met l G yX6_act wsX6_act ({ frames := 4, cells := 0, slots := 0, locals := 89 }) L ([.ref (L.2.1 k0), .int x1, .int x2, .int x3] : List Value) D res none := by
  refine Met.ofW (cc := cX6_act) (maxL := 8) (ret := none) (by decide) rfl ?_
  intro p e s m args below meth c s₁ B hml hv
  obtain ⟨rfl, hP, hK, hN, hZ⟩ := hv
  have hx := B.exec
  have hb := B.bytes
  have hr := B.returns
  have hts := atoms_spec (ws := wsX6_act) B.pre
  have hown : s.vm.findClass "CreaturePondModel" = some m.cls := findClass_of_methodNamed B.named
  have hlocks := B.notSynchronized
  have hS : va_S (cp_A L) s.heap s.heap [] := va_S.rf
  have htT : ∀ w ∈ cp_T, w.before ([.ref (L.2.1 k0), .int x1, .int x2, .int x3] : List Value).toArray s = true := fun w h => hts w (List.mem_cons_of_mem _ h)
  have hl := lv_entry (([.ref (L.2.1 k0), .int x1, .int x2, .int x3] : List Value)) (n := 8) (Nat.le_of_ble_eq_true rfl)
  rw [lg_entry_eq]
  generalize (lg_sl (([.ref (L.2.1 k0), .int x1, .int x2, .int x3] : List Value)) ++ List.replicate (8 - (lg_sl (([.ref (L.2.1 k0), .int x1, .int x2, .int x3] : List Value))).length) Slot.unset).toArray = ls at hl ⊢
  have hl : lv_has ls 8 [(0, .ref (L.2.1 k0)), (1, .int x1), (2, .int x2), (3, .int x3)] := hl
  unfold fn_X6_act at hF
  refine lv_iload_n hx hb dX6_act_0 rfl (lv_at hl 1 rfl) ?_
  obtain ⟨y1, ey1, hF⟩ := cp_bind hF
  refine cp_call (st1 := [.int y1.1]) (va_runS (As := [.int x1]) (rest := []) ⟨hx, hb, hml, hown, htT⟩ (ct_X6_at l G L hJ q x1 D y1 ey1) ⟨callB_of 1 htT gdX6_at rfl rfl rfl (htT _ tw_8) (htT _ tw_417) hdX6_at ⟨Nat.le_of_ble_eq_true rfl, Nat.le_of_ble_eq_true rfl⟩, (htT _ tw_418)⟩ ⟨cp_blind, cp_pre hP hK hN hZ hS⟩ rfl rfl hl.1 rfl (lv_room (Nat.le_of_ble_eq_true rfl)) dX6_act_1 ⟨Nat.zero_le _, Nat.zero_le _⟩) hS (fun H locs hP hS => ?_)
  refine lv_istore (lv' := [(4, .int y1.1), (0, .ref (L.2.1 k0)), (1, .int x1), (2, .int x2), (3, .int x3)]) hx hb dX6_act_4 hl (by decide) rfl (fun ls hl => ?_)
  refine lv_aload_n hx hb dX6_act_6 rfl (lv_at hl 1 rfl) ?_
  obtain ⟨r2, er2, hF⟩ := cp_bind hF
  refine cp_getR (T := TX6) (N := 6) (ci := 6) (j := 3) hx hb htT hinX6 hown hK hP rfl (by decide) rfl (htT _ tw_378) er2 dX6_act_7 ?_
  refine lv_iload hx hb dX6_act_10 (lv_at hl 0 rfl) ?_
  obtain ⟨v3, ev3, hF⟩ := cp_bind hF
  refine cp_iald hx hb hK hP ev3 dX6_act_12 ?_
  refine lv_istore (lv' := [(5, .int v3), (4, .int y1.1), (0, .ref (L.2.1 k0)), (1, .int x1), (2, .int x2), (3, .int x3)]) hx hb dX6_act_13 hl (by decide) rfl (fun ls hl => ?_)
  refine lv_iload_n hx hb dX6_act_15 rfl (lv_at hl 4 rfl) ?_
  refine lv_bipush (v := (16 : Int32)) hx hb dX6_act_16 (by decide) ?_
  refine lv_icmp_ne (tgt := 46) hx hb dX6_act_18 (by decide) (fun hc4 => ?_) (fun hc4 => ?_)
  · rw [if_neg hc4] at hF
    refine lv_iload_n hx hb dX6_act_46 rfl (lv_at hl 4 rfl) ?_
    refine lv_bipush (v := (17 : Int32)) hx hb dX6_act_47 (by decide) ?_
    refine lv_icmp_ne (tgt := 91) hx hb dX6_act_49 (by decide) (fun hc5 => ?_) (fun hc5 => ?_)
    · rw [if_neg hc5] at hF
      refine lv_iload_n hx hb dX6_act_91 rfl (lv_at hl 4 rfl) ?_
      refine lv_bipush (v := (18 : Int32)) hx hb dX6_act_92 (by decide) ?_
      refine lv_icmp_ne (tgt := 140) hx hb dX6_act_94 (by decide) (fun hc6 => ?_) (fun hc6 => ?_)
      · rw [if_neg hc6] at hF
        refine lv_iload_n hx hb dX6_act_140 rfl (lv_at hl 4 rfl) ?_
        refine lv_bipush (v := (19 : Int32)) hx hb dX6_act_141 (by decide) ?_
        refine lv_icmp_ne (tgt := 223) hx hb dX6_act_143 (by decide) (fun hc7 => ?_) (fun hc7 => ?_)
        · rw [if_neg hc7] at hF
          refine lv_iload_n hx hb dX6_act_223 rfl (lv_at hl 4 rfl) ?_
          refine lv_bipush (v := (20 : Int32)) hx hb dX6_act_224 (by decide) ?_
          refine lv_icmp_ne (tgt := 257) hx hb dX6_act_226 (by decide) (fun hc8 => ?_) (fun hc8 => ?_)
          · rw [if_neg hc8] at hF
            refine lv_aload_n hx hb dX6_act_257 rfl (lv_at hl 2 rfl) ?_
            obtain ⟨r9, er9, hF⟩ := cp_bind hF
            refine cp_getR (T := TX6) (N := 6) (ci := 6) (j := 3) hx hb htT hinX6 hown hK hP rfl (by decide) rfl (htT _ tw_378) er9 dX6_act_258 ?_
            refine lv_iload hx hb dX6_act_261 (lv_at hl 1 rfl) ?_
            refine lv_bipush (v := (9 : Int32)) hx hb dX6_act_263 (by decide) ?_
            refine lv_iadd hx hb dX6_act_265 ?_
            refine lv_iconst (v := (1 : Int32)) hx hb dX6_act_266 (by decide) ?_
            obtain ⟨D10, eD10, hF⟩ := cp_bind hF
            refine cp_iast hx hb hK hJ hP hS eD10 dX6_act_267 (fun H locs hP hS => ?_)
            exact cp_vret hx hb hr hlocks hF hP hS dX6_act_268
          · rw [if_pos hc8] at hF
            refine lv_aload_n hx hb dX6_act_229 rfl (lv_at hl 2 rfl) ?_
            obtain ⟨r11, er11, hF⟩ := cp_bind hF
            refine cp_getR (T := TX6) (N := 6) (ci := 6) (j := 3) hx hb htT hinX6 hown hK hP rfl (by decide) rfl (htT _ tw_378) er11 dX6_act_230 ?_
            refine lv_bipush (v := (100 : Int32)) hx hb dX6_act_233 (by decide) ?_
            refine lv_iload hx hb dX6_act_235 (lv_at hl 0 rfl) ?_
            refine lv_iadd hx hb dX6_act_237 ?_
            refine lv_aload_n hx hb dX6_act_238 rfl (lv_at hl 2 rfl) ?_
            obtain ⟨r12, er12, hF⟩ := cp_bind hF
            refine cp_getR (T := TX6) (N := 6) (ci := 6) (j := 3) hx hb htT hinX6 hown hK hP rfl (by decide) rfl (htT _ tw_378) er12 dX6_act_239 ?_
            refine lv_iload hx hb dX6_act_242 (lv_at hl 1 rfl) ?_
            refine lv_bipush (v := (10 : Int32)) hx hb dX6_act_244 (by decide) ?_
            refine lv_iadd hx hb dX6_act_246 ?_
            refine lv_iload_n hx hb dX6_act_247 rfl (lv_at hl 5 rfl) ?_
            refine lv_bipush (v := (7 : Int32)) hx hb dX6_act_248 (by decide) ?_
            refine lv_iand hx hb dX6_act_250 ?_
            refine lv_iadd hx hb dX6_act_251 ?_
            obtain ⟨v13, ev13, hF⟩ := cp_bind hF
            refine cp_iald hx hb hK hP ev13 dX6_act_252 ?_
            obtain ⟨D14, eD14, hF⟩ := cp_bind hF
            refine cp_iast hx hb hK hJ hP hS eD14 dX6_act_253 (fun H locs hP hS => ?_)
            refine lv_goto (tgt := 268) hx hb dX6_act_254 (by decide) ?_
            exact cp_vret hx hb hr hlocks hF hP hS dX6_act_268
        · rw [if_pos hc7] at hF
          refine lv_aload_n hx hb dX6_act_146 rfl (lv_at hl 2 rfl) ?_
          refine lv_aload_n hx hb dX6_act_147 rfl (lv_at hl 2 rfl) ?_
          refine lv_iload_n hx hb dX6_act_148 rfl (lv_at hl 3 rfl) ?_
          obtain ⟨f15, ef15, hF⟩ := cp_bind hF
          obtain ⟨y16, ey16, hF⟩ := cp_bind hF
          refine cp_call (st1 := [.int y16.1, .ref (L.2.1 k0)]) (va_runV (As := [.int x1]) (rest := [.ref (L.2.1 k0)]) ⟨hx, hb, hml, hown, htT⟩ (ct_X6_ahead l G L hJ q k0 x1 y1.2 y16 ey16) ⟨callB_of 1 htT gdX6_ahead rfl rfl rfl (htT _ tw_8) (htT _ tw_464) hdX6_ahead ⟨Nat.le_of_ble_eq_true rfl, Nat.le_of_ble_eq_true rfl⟩, (htT _ tw_465), (htT _ tw_585)⟩ ⟨cp_blind, cp_recv hK hP rfl ef15, cp_pre hP hK hN hZ hS⟩ rfl rfl hl.1 rfl (lv_room (Nat.le_of_ble_eq_true rfl)) dX6_act_149 ⟨Nat.zero_le _, Nat.zero_le _⟩) hS (fun H locs hP hS => ?_)
          obtain ⟨f17, ef17, hF⟩ := cp_bind hF
          obtain ⟨y18, ey18, hF⟩ := cp_bind hF
          refine cp_call (st1 := [.int y18.1]) (va_runV (As := [.int y16.1]) (rest := []) ⟨hx, hb, hml, hown, htT⟩ (ct_X6_inCell l G L hJ q k0 y16.1 y16.2 y18 ey18) ⟨callB_of 1 htT gdX6_inCell rfl rfl rfl (htT _ tw_8) (htT _ tw_414) hdX6_inCell ⟨Nat.le_of_ble_eq_true rfl, Nat.le_of_ble_eq_true rfl⟩, (htT _ tw_415), (htT _ tw_574)⟩ ⟨cp_blind, cp_recv hK hP rfl ef17, cp_pre hP hK hN hZ hS⟩ rfl rfl hl.1 rfl (lv_room (Nat.le_of_ble_eq_true rfl)) dX6_act_152 ⟨Nat.zero_le _, Nat.zero_le _⟩) hS (fun H locs hP hS => ?_)
          refine lv_istore (lv' := [(6, .int y18.1), (5, .int v3), (4, .int y1.1), (0, .ref (L.2.1 k0)), (1, .int x1), (2, .int x2), (3, .int x3)]) hx hb dX6_act_155 hl (by decide) rfl (fun ls hl => ?_)
          refine lv_iload hx hb dX6_act_157 (lv_at hl 0 rfl) ?_
          refine lv_if_ge (tgt := 166) hx hb dX6_act_159 (by decide) (fun hc19 => ?_) (fun hc19 => ?_)
          · rw [if_pos hc19] at hF
            refine lv_iload_n hx hb dX6_act_166 rfl (lv_at hl 6 rfl) ?_
            refine lv_bipush (v := (63 : Int32)) hx hb dX6_act_167 (by decide) ?_
            refine lv_iand hx hb dX6_act_169 ?_
            refine lv_aload_n hx hb dX6_act_170 rfl (lv_at hl 3 rfl) ?_
            obtain ⟨r20, er20, hF⟩ := cp_bind hF
            refine cp_getR (T := TX6) (N := 6) (ci := 6) (j := 3) hx hb htT hinX6 hown hK hP rfl (by decide) rfl (htT _ tw_378) er20 dX6_act_171 ?_
            refine lv_iload hx hb dX6_act_174 (lv_at hl 2 rfl) ?_
            refine lv_iconst (v := (2 : Int32)) hx hb dX6_act_176 (by decide) ?_
            refine lv_iadd hx hb dX6_act_177 ?_
            obtain ⟨v21, ev21, hF⟩ := cp_bind hF
            refine cp_iald hx hb hK hP ev21 dX6_act_178 ?_
            obtain ⟨y22, ey22, hF⟩ := cp_bind hF
            refine cp_call (st1 := [.int y22.1]) (va_runS (As := [.int (x3 &&& (63 : Int32)), .int v21]) (rest := []) ⟨hx, hb, hml, hown, htT⟩ (ct_X6_least l G L hJ q (x3 &&& (63 : Int32)) v21 y18.2 y22 ey22) ⟨callB_of 2 htT gdX6_least rfl rfl rfl (htT _ tw_8) (htT _ tw_449) hdX6_least ⟨Nat.le_of_ble_eq_true rfl, Nat.le_of_ble_eq_true rfl⟩, (htT _ tw_450)⟩ ⟨cp_blind, cp_pre hP hK hN hZ hS⟩ rfl rfl hl.1 rfl (lv_room (Nat.le_of_ble_eq_true rfl)) dX6_act_179 ⟨Nat.zero_le _, Nat.zero_le _⟩) hS (fun H locs hP hS => ?_)
            refine lv_istore (lv' := [(7, .int y22.1), (6, .int y18.1), (5, .int v3), (4, .int y1.1), (0, .ref (L.2.1 k0)), (1, .int x1), (2, .int x2), (3, .int x3)]) hx hb dX6_act_182 hl (by decide) rfl (fun ls hl => ?_)
            refine lv_aload_n hx hb dX6_act_184 rfl (lv_at hl 4 rfl) ?_
            obtain ⟨r23, er23, hF⟩ := cp_bind hF
            refine cp_getR (T := TX6) (N := 6) (ci := 6) (j := 3) hx hb htT hinX6 hown hK hP rfl (by decide) rfl (htT _ tw_378) er23 dX6_act_185 ?_
            refine lv_iload hx hb dX6_act_188 (lv_at hl 3 rfl) ?_
            refine lv_iconst (v := (2 : Int32)) hx hb dX6_act_190 (by decide) ?_
            refine lv_iadd hx hb dX6_act_191 ?_
            refine lv_dup2_11 hx hb dX6_act_192 rfl rfl ?_
            obtain ⟨v24, ev24, hF⟩ := cp_bind hF
            refine cp_iald hx hb hK hP ev24 dX6_act_193 ?_
            refine lv_iload hx hb dX6_act_194 (lv_at hl 0 rfl) ?_
            refine lv_isub hx hb dX6_act_196 ?_
            obtain ⟨D25, eD25, hF⟩ := cp_bind hF
            refine cp_iast hx hb hK hJ hP hS eD25 dX6_act_197 (fun H locs hP hS => ?_)
            refine lv_iload hx hb dX6_act_198 (lv_at hl 1 rfl) ?_
            refine lv_if_lt (tgt := 220) hx hb dX6_act_200 (by decide) (fun hc26 => ?_) (fun hc26 => ?_)
            · rw [if_pos hc26] at hF
              refine lv_goto (tgt := 268) hx hb dX6_act_220 (by decide) ?_
              exact cp_vret hx hb hr hlocks hF hP hS dX6_act_268
            · rw [if_neg hc26] at hF
              refine lv_aload_n hx hb dX6_act_203 rfl (lv_at hl 4 rfl) ?_
              obtain ⟨r27, er27, hF⟩ := cp_bind hF
              refine cp_getR (T := TX6) (N := 6) (ci := 6) (j := 3) hx hb htT hinX6 hown hK hP rfl (by decide) rfl (htT _ tw_378) er27 dX6_act_204 ?_
              refine lv_iload hx hb dX6_act_207 (lv_at hl 1 rfl) ?_
              obtain ⟨y28, ey28, hF⟩ := cp_bind hF
              refine cp_call (st1 := [.int y28.1, .ref (L.2.1 r27)]) (va_runS (As := [.int y18.1]) (rest := [.ref (L.2.1 r27)]) ⟨hx, hb, hml, hown, htT⟩ (ct_X6_at l G L hJ q y18.1 D25 y28 ey28) ⟨callB_of 1 htT gdX6_at rfl rfl rfl (htT _ tw_8) (htT _ tw_417) hdX6_at ⟨Nat.le_of_ble_eq_true rfl, Nat.le_of_ble_eq_true rfl⟩, (htT _ tw_418)⟩ ⟨cp_blind, cp_pre hP hK hN hZ hS⟩ rfl rfl hl.1 rfl (lv_room (Nat.le_of_ble_eq_true rfl)) dX6_act_209 ⟨Nat.zero_le _, Nat.zero_le _⟩) hS (fun H locs hP hS => ?_)
              refine lv_iconst (v := (2 : Int32)) hx hb dX6_act_212 (by decide) ?_
              refine lv_iadd hx hb dX6_act_213 ?_
              refine lv_dup2_11 hx hb dX6_act_214 rfl rfl ?_
              obtain ⟨v29, ev29, hF⟩ := cp_bind hF
              refine cp_iald hx hb hK hP ev29 dX6_act_215 ?_
              refine lv_iload hx hb dX6_act_216 (lv_at hl 0 rfl) ?_
              refine lv_iadd hx hb dX6_act_218 ?_
              obtain ⟨D30, eD30, hF⟩ := cp_bind hF
              refine cp_iast hx hb hK hJ hP hS eD30 dX6_act_219 (fun H locs hP hS => ?_)
              refine lv_goto (tgt := 268) hx hb dX6_act_220 (by decide) ?_
              exact cp_vret hx hb hr hlocks hF hP hS dX6_act_268
          · rw [if_neg hc19] at hF
            refine lv_iconst (v := (0 : Int32)) hx hb dX6_act_162 (by decide) ?_
            refine lv_goto (tgt := 182) hx hb dX6_act_163 (by decide) ?_
            refine lv_istore (lv' := [(7, .int (0 : Int32)), (6, .int y18.1), (5, .int v3), (4, .int y1.1), (0, .ref (L.2.1 k0)), (1, .int x1), (2, .int x2), (3, .int x3)]) hx hb dX6_act_182 hl (by decide) rfl (fun ls hl => ?_)
            refine lv_aload_n hx hb dX6_act_184 rfl (lv_at hl 4 rfl) ?_
            obtain ⟨r31, er31, hF⟩ := cp_bind hF
            refine cp_getR (T := TX6) (N := 6) (ci := 6) (j := 3) hx hb htT hinX6 hown hK hP rfl (by decide) rfl (htT _ tw_378) er31 dX6_act_185 ?_
            refine lv_iload hx hb dX6_act_188 (lv_at hl 3 rfl) ?_
            refine lv_iconst (v := (2 : Int32)) hx hb dX6_act_190 (by decide) ?_
            refine lv_iadd hx hb dX6_act_191 ?_
            refine lv_dup2_11 hx hb dX6_act_192 rfl rfl ?_
            obtain ⟨v32, ev32, hF⟩ := cp_bind hF
            refine cp_iald hx hb hK hP ev32 dX6_act_193 ?_
            refine lv_iload hx hb dX6_act_194 (lv_at hl 0 rfl) ?_
            refine lv_isub hx hb dX6_act_196 ?_
            obtain ⟨D33, eD33, hF⟩ := cp_bind hF
            refine cp_iast hx hb hK hJ hP hS eD33 dX6_act_197 (fun H locs hP hS => ?_)
            refine lv_iload hx hb dX6_act_198 (lv_at hl 1 rfl) ?_
            refine lv_if_lt (tgt := 220) hx hb dX6_act_200 (by decide) (fun hc34 => ?_) (fun hc34 => ?_)
            · rw [if_pos hc34] at hF
              refine lv_goto (tgt := 268) hx hb dX6_act_220 (by decide) ?_
              exact cp_vret hx hb hr hlocks hF hP hS dX6_act_268
            · rw [if_neg hc34] at hF
              refine lv_aload_n hx hb dX6_act_203 rfl (lv_at hl 4 rfl) ?_
              obtain ⟨r35, er35, hF⟩ := cp_bind hF
              refine cp_getR (T := TX6) (N := 6) (ci := 6) (j := 3) hx hb htT hinX6 hown hK hP rfl (by decide) rfl (htT _ tw_378) er35 dX6_act_204 ?_
              refine lv_iload hx hb dX6_act_207 (lv_at hl 1 rfl) ?_
              obtain ⟨y36, ey36, hF⟩ := cp_bind hF
              refine cp_call (st1 := [.int y36.1, .ref (L.2.1 r35)]) (va_runS (As := [.int y18.1]) (rest := [.ref (L.2.1 r35)]) ⟨hx, hb, hml, hown, htT⟩ (ct_X6_at l G L hJ q y18.1 D33 y36 ey36) ⟨callB_of 1 htT gdX6_at rfl rfl rfl (htT _ tw_8) (htT _ tw_417) hdX6_at ⟨Nat.le_of_ble_eq_true rfl, Nat.le_of_ble_eq_true rfl⟩, (htT _ tw_418)⟩ ⟨cp_blind, cp_pre hP hK hN hZ hS⟩ rfl rfl hl.1 rfl (lv_room (Nat.le_of_ble_eq_true rfl)) dX6_act_209 ⟨Nat.zero_le _, Nat.zero_le _⟩) hS (fun H locs hP hS => ?_)
              refine lv_iconst (v := (2 : Int32)) hx hb dX6_act_212 (by decide) ?_
              refine lv_iadd hx hb dX6_act_213 ?_
              refine lv_dup2_11 hx hb dX6_act_214 rfl rfl ?_
              obtain ⟨v37, ev37, hF⟩ := cp_bind hF
              refine cp_iald hx hb hK hP ev37 dX6_act_215 ?_
              refine lv_iload hx hb dX6_act_216 (lv_at hl 0 rfl) ?_
              refine lv_iadd hx hb dX6_act_218 ?_
              obtain ⟨D38, eD38, hF⟩ := cp_bind hF
              refine cp_iast hx hb hK hJ hP hS eD38 dX6_act_219 (fun H locs hP hS => ?_)
              refine lv_goto (tgt := 268) hx hb dX6_act_220 (by decide) ?_
              exact cp_vret hx hb hr hlocks hF hP hS dX6_act_268
      · rw [if_pos hc6] at hF
        refine lv_bipush (v := (30 : Int32)) hx hb dX6_act_97 (by decide) ?_
        refine lv_aload_n hx hb dX6_act_99 rfl (lv_at hl 2 rfl) ?_
        obtain ⟨r39, er39, hF⟩ := cp_bind hF
        refine cp_getR (T := TX6) (N := 6) (ci := 6) (j := 3) hx hb htT hinX6 hown hK hP rfl (by decide) rfl (htT _ tw_378) er39 dX6_act_100 ?_
        refine lv_iload hx hb dX6_act_103 (lv_at hl 0 rfl) ?_
        obtain ⟨v40, ev40, hF⟩ := cp_bind hF
        refine cp_iald hx hb hK hP ev40 dX6_act_105 ?_
        obtain ⟨y41, ey41, hF⟩ := cp_bind hF
        refine cp_call (st1 := [.int y41.1]) (va_runS (As := [.int (30 : Int32), .int v40]) (rest := []) ⟨hx, hb, hml, hown, htT⟩ (ct_X6_least l G L hJ q (30 : Int32) v40 y1.2 y41 ey41) ⟨callB_of 2 htT gdX6_least rfl rfl rfl (htT _ tw_8) (htT _ tw_449) hdX6_least ⟨Nat.le_of_ble_eq_true rfl, Nat.le_of_ble_eq_true rfl⟩, (htT _ tw_450)⟩ ⟨cp_blind, cp_pre hP hK hN hZ hS⟩ rfl rfl hl.1 rfl (lv_room (Nat.le_of_ble_eq_true rfl)) dX6_act_106 ⟨Nat.zero_le _, Nat.zero_le _⟩) hS (fun H locs hP hS => ?_)
        refine lv_istore (lv' := [(6, .int y41.1), (5, .int v3), (4, .int y1.1), (0, .ref (L.2.1 k0)), (1, .int x1), (2, .int x2), (3, .int x3)]) hx hb dX6_act_109 hl (by decide) rfl (fun ls hl => ?_)
        refine lv_aload_n hx hb dX6_act_111 rfl (lv_at hl 3 rfl) ?_
        obtain ⟨r42, er42, hF⟩ := cp_bind hF
        refine cp_getR (T := TX6) (N := 6) (ci := 6) (j := 3) hx hb htT hinX6 hown hK hP rfl (by decide) rfl (htT _ tw_378) er42 dX6_act_112 ?_
        refine lv_iload hx hb dX6_act_115 (lv_at hl 1 rfl) ?_
        refine lv_dup2_11 hx hb dX6_act_117 rfl rfl ?_
        obtain ⟨v43, ev43, hF⟩ := cp_bind hF
        refine cp_iald hx hb hK hP ev43 dX6_act_118 ?_
        refine lv_iload hx hb dX6_act_119 (lv_at hl 0 rfl) ?_
        refine lv_isub hx hb dX6_act_121 ?_
        obtain ⟨D44, eD44, hF⟩ := cp_bind hF
        refine cp_iast hx hb hK hJ hP hS eD44 dX6_act_122 (fun H locs hP hS => ?_)
        refine lv_aload_n hx hb dX6_act_123 rfl (lv_at hl 3 rfl) ?_
        obtain ⟨r45, er45, hF⟩ := cp_bind hF
        refine cp_getR (T := TX6) (N := 6) (ci := 6) (j := 3) hx hb htT hinX6 hown hK hP rfl (by decide) rfl (htT _ tw_378) er45 dX6_act_124 ?_
        refine lv_iload hx hb dX6_act_127 (lv_at hl 2 rfl) ?_
        refine lv_iconst (v := (2 : Int32)) hx hb dX6_act_129 (by decide) ?_
        refine lv_iadd hx hb dX6_act_130 ?_
        refine lv_dup2_11 hx hb dX6_act_131 rfl rfl ?_
        obtain ⟨v46, ev46, hF⟩ := cp_bind hF
        refine cp_iald hx hb hK hP ev46 dX6_act_132 ?_
        refine lv_iload hx hb dX6_act_133 (lv_at hl 0 rfl) ?_
        refine lv_iadd hx hb dX6_act_135 ?_
        obtain ⟨D47, eD47, hF⟩ := cp_bind hF
        refine cp_iast hx hb hK hJ hP hS eD47 dX6_act_136 (fun H locs hP hS => ?_)
        refine lv_goto (tgt := 268) hx hb dX6_act_137 (by decide) ?_
        exact cp_vret hx hb hr hlocks hF hP hS dX6_act_268
    · rw [if_pos hc5] at hF
      refine lv_aload_n hx hb dX6_act_52 rfl (lv_at hl 2 rfl) ?_
      refine lv_iload_n hx hb dX6_act_53 rfl (lv_at hl 3 rfl) ?_
      refine lv_iconst (v := (2 : Int32)) hx hb dX6_act_54 (by decide) ?_
      obtain ⟨f48, ef48, hF⟩ := cp_bind hF
      obtain ⟨D49, eD49, hF⟩ := cp_bind hF
      refine cp_call (st1 := []) (va_runV (As := [.int x1, .int (2 : Int32)]) (rest := []) ⟨hx, hb, hml, hown, htT⟩ (ct_X6_pay l G L hJ q k0 x1 (2 : Int32) y1.2 D49 eD49) ⟨callB_of 2 htT gdX6_pay rfl rfl rfl (htT _ tw_8) (htT _ tw_446) hdX6_pay ⟨Nat.le_of_ble_eq_true rfl, Nat.le_of_ble_eq_true rfl⟩, (htT _ tw_447), (htT _ tw_581)⟩ ⟨cp_blind, cp_recv hK hP rfl ef48, cp_pre hP hK hN hZ hS⟩ rfl rfl hl.1 rfl (lv_room (Nat.le_of_ble_eq_true rfl)) dX6_act_55 ⟨Nat.zero_le _, Nat.zero_le _⟩) hS (fun H locs hP hS => ?_)
      refine lv_aload_n hx hb dX6_act_58 rfl (lv_at hl 2 rfl) ?_
      refine lv_iload_n hx hb dX6_act_59 rfl (lv_at hl 3 rfl) ?_
      obtain ⟨f50, ef50, hF⟩ := cp_bind hF
      obtain ⟨y51, ey51, hF⟩ := cp_bind hF
      refine cp_call (st1 := [.int y51.1]) (va_runV (As := [.int x1]) (rest := []) ⟨hx, hb, hml, hown, htT⟩ (ct_X6_ahead l G L hJ q k0 x1 D49 y51 ey51) ⟨callB_of 1 htT gdX6_ahead rfl rfl rfl (htT _ tw_8) (htT _ tw_464) hdX6_ahead ⟨Nat.le_of_ble_eq_true rfl, Nat.le_of_ble_eq_true rfl⟩, (htT _ tw_465), (htT _ tw_585)⟩ ⟨cp_blind, cp_recv hK hP rfl ef50, cp_pre hP hK hN hZ hS⟩ rfl rfl hl.1 rfl (lv_room (Nat.le_of_ble_eq_true rfl)) dX6_act_60 ⟨Nat.zero_le _, Nat.zero_le _⟩) hS (fun H locs hP hS => ?_)
      refine lv_istore (lv' := [(6, .int y51.1), (5, .int v3), (4, .int y1.1), (0, .ref (L.2.1 k0)), (1, .int x1), (2, .int x2), (3, .int x3)]) hx hb dX6_act_63 hl (by decide) rfl (fun ls hl => ?_)
      refine lv_aload_n hx hb dX6_act_65 rfl (lv_at hl 3 rfl) ?_
      obtain ⟨r52, er52, hF⟩ := cp_bind hF
      refine cp_getR (T := TX6) (N := 6) (ci := 6) (j := 3) hx hb htT hinX6 hown hK hP rfl (by decide) rfl (htT _ tw_378) er52 dX6_act_66 ?_
      refine lv_iload hx hb dX6_act_69 (lv_at hl 2 rfl) ?_
      refine lv_aload_n hx hb dX6_act_71 rfl (lv_at hl 3 rfl) ?_
      refine lv_iload hx hb dX6_act_72 (lv_at hl 0 rfl) ?_
      obtain ⟨f53, ef53, hF⟩ := cp_bind hF
      obtain ⟨y54, ey54, hF⟩ := cp_bind hF
      refine cp_call (st1 := [.int y54.1, .int y1.1, .ref (L.2.1 r52)]) (va_runV (As := [.int y51.1]) (rest := [.int y1.1, .ref (L.2.1 r52)]) ⟨hx, hb, hml, hown, htT⟩ (ct_X6_inCell l G L hJ q k0 y51.1 y51.2 y54 ey54) ⟨callB_of 1 htT gdX6_inCell rfl rfl rfl (htT _ tw_8) (htT _ tw_414) hdX6_inCell ⟨Nat.le_of_ble_eq_true rfl, Nat.le_of_ble_eq_true rfl⟩, (htT _ tw_415), (htT _ tw_574)⟩ ⟨cp_blind, cp_recv hK hP rfl ef53, cp_pre hP hK hN hZ hS⟩ rfl rfl hl.1 rfl (lv_room (Nat.le_of_ble_eq_true rfl)) dX6_act_74 ⟨Nat.zero_le _, Nat.zero_le _⟩) hS (fun H locs hP hS => ?_)
      refine lv_if_ge (tgt := 85) hx hb dX6_act_77 (by decide) (fun hc55 => ?_) (fun hc55 => ?_)
      · rw [if_pos hc55] at hF
        refine lv_iload hx hb dX6_act_85 (lv_at hl 1 rfl) ?_
        obtain ⟨D56, eD56, hF⟩ := cp_bind hF
        refine cp_iast hx hb hK hJ hP hS eD56 dX6_act_87 (fun H locs hP hS => ?_)
        refine lv_goto (tgt := 268) hx hb dX6_act_88 (by decide) ?_
        exact cp_vret hx hb hr hlocks hF hP hS dX6_act_268
      · rw [if_neg hc55] at hF
        refine lv_iload hx hb dX6_act_80 (lv_at hl 0 rfl) ?_
        refine lv_goto (tgt := 87) hx hb dX6_act_82 (by decide) ?_
        obtain ⟨D57, eD57, hF⟩ := cp_bind hF
        refine cp_iast hx hb hK hJ hP hS eD57 dX6_act_87 (fun H locs hP hS => ?_)
        refine lv_goto (tgt := 268) hx hb dX6_act_88 (by decide) ?_
        exact cp_vret hx hb hr hlocks hF hP hS dX6_act_268
  · rw [if_pos hc4] at hF
    refine lv_aload_n hx hb dX6_act_21 rfl (lv_at hl 2 rfl) ?_
    obtain ⟨r58, er58, hF⟩ := cp_bind hF
    refine cp_getR (T := TX6) (N := 6) (ci := 6) (j := 3) hx hb htT hinX6 hown hK hP rfl (by decide) rfl (htT _ tw_378) er58 dX6_act_22 ?_
    refine lv_iload hx hb dX6_act_25 (lv_at hl 1 rfl) ?_
    refine lv_iconst (v := (1 : Int32)) hx hb dX6_act_27 (by decide) ?_
    refine lv_iadd hx hb dX6_act_28 ?_
    refine lv_aload_n hx hb dX6_act_29 rfl (lv_at hl 2 rfl) ?_
    obtain ⟨r59, er59, hF⟩ := cp_bind hF
    refine cp_getR (T := TX6) (N := 6) (ci := 6) (j := 3) hx hb htT hinX6 hown hK hP rfl (by decide) rfl (htT _ tw_378) er59 dX6_act_30 ?_
    refine lv_iload hx hb dX6_act_33 (lv_at hl 1 rfl) ?_
    refine lv_iconst (v := (1 : Int32)) hx hb dX6_act_35 (by decide) ?_
    refine lv_iadd hx hb dX6_act_36 ?_
    obtain ⟨v60, ev60, hF⟩ := cp_bind hF
    refine cp_iald hx hb hK hP ev60 dX6_act_37 ?_
    refine lv_iload_n hx hb dX6_act_38 rfl (lv_at hl 5 rfl) ?_
    refine lv_iadd hx hb dX6_act_39 ?_
    refine lv_iconst (v := (3 : Int32)) hx hb dX6_act_40 (by decide) ?_
    refine lv_iand hx hb dX6_act_41 ?_
    obtain ⟨D61, eD61, hF⟩ := cp_bind hF
    refine cp_iast hx hb hK hJ hP hS eD61 dX6_act_42 (fun H locs hP hS => ?_)
    refine lv_goto (tgt := 268) hx hb dX6_act_43 (by decide) ?_
    exact cp_vret hx hb hr hlocks hF hP hS dX6_act_268
theorem dX6_reckon_0 : decode cX6_reckon 0 = .ok (.iload_n 1, 1) := by decide +kernel
theorem dX6_reckon_1 : decode cX6_reckon 1 = .ok (.invokestatic 30, 3) := by decide +kernel
theorem dX6_reckon_4 : decode cX6_reckon 4 = .ok (.bipush 10, 2) := by decide +kernel
theorem dX6_reckon_6 : decode cX6_reckon 6 = .ok (.iadd, 1) := by decide +kernel
theorem dX6_reckon_7 : decode cX6_reckon 7 = .ok (.istore 5, 2) := by decide +kernel
theorem dX6_reckon_9 : decode cX6_reckon 9 = .ok (.aload_n 0, 1) := by decide +kernel
theorem dX6_reckon_10 : decode cX6_reckon 10 = .ok (.getfield 7, 3) := by decide +kernel
theorem dX6_reckon_13 : decode cX6_reckon 13 = .ok (.iload 5, 2) := by decide +kernel
theorem dX6_reckon_15 : decode cX6_reckon 15 = .ok (.iload_n 3, 1) := by decide +kernel
theorem dX6_reckon_16 : decode cX6_reckon 16 = .ok (.bipush 7, 2) := by decide +kernel
theorem dX6_reckon_18 : decode cX6_reckon 18 = .ok (.iand, 1) := by decide +kernel
theorem dX6_reckon_19 : decode cX6_reckon 19 = .ok (.iadd, 1) := by decide +kernel
theorem dX6_reckon_20 : decode cX6_reckon 20 = .ok (.iaload, 1) := by decide +kernel
theorem dX6_reckon_21 : decode cX6_reckon 21 = .ok (.istore 6, 2) := by decide +kernel
theorem dX6_reckon_23 : decode cX6_reckon 23 = .ok (.aload_n 0, 1) := by decide +kernel
theorem dX6_reckon_24 : decode cX6_reckon 24 = .ok (.getfield 7, 3) := by decide +kernel
theorem dX6_reckon_27 : decode cX6_reckon 27 = .ok (.iload 5, 2) := by decide +kernel
theorem dX6_reckon_29 : decode cX6_reckon 29 = .ok (.iload 4, 2) := by decide +kernel
theorem dX6_reckon_31 : decode cX6_reckon 31 = .ok (.bipush 7, 2) := by decide +kernel
theorem dX6_reckon_33 : decode cX6_reckon 33 = .ok (.iand, 1) := by decide +kernel
theorem dX6_reckon_34 : decode cX6_reckon 34 = .ok (.iadd, 1) := by decide +kernel
theorem dX6_reckon_35 : decode cX6_reckon 35 = .ok (.iaload, 1) := by decide +kernel
theorem dX6_reckon_36 : decode cX6_reckon 36 = .ok (.istore 7, 2) := by decide +kernel
theorem dX6_reckon_38 : decode cX6_reckon 38 = .ok (.iload_n 2, 1) := by decide +kernel
theorem dX6_reckon_39 : decode cX6_reckon 39 = .ok (.iconst 5, 1) := by decide +kernel
theorem dX6_reckon_40 : decode cX6_reckon 40 = .ok (.if_icmp .ge 42, 3) := by decide +kernel
theorem dX6_reckon_43 : decode cX6_reckon 43 = .ok (.iload_n 2, 1) := by decide +kernel
theorem dX6_reckon_44 : decode cX6_reckon 44 = .ok (.iconst 1, 1) := by decide +kernel
theorem dX6_reckon_45 : decode cX6_reckon 45 = .ok (.if_icmp .ne 8, 3) := by decide +kernel
theorem dX6_reckon_48 : decode cX6_reckon 48 = .ok (.iload 4, 2) := by decide +kernel
theorem dX6_reckon_50 : decode cX6_reckon 50 = .ok (.goto 31, 3) := by decide +kernel
theorem dX6_reckon_53 : decode cX6_reckon 53 = .ok (.iload_n 2, 1) := by decide +kernel
theorem dX6_reckon_54 : decode cX6_reckon 54 = .ok (.iconst 2, 1) := by decide +kernel
theorem dX6_reckon_55 : decode cX6_reckon 55 = .ok (.if_icmp .ne 8, 3) := by decide +kernel
theorem dX6_reckon_58 : decode cX6_reckon 58 = .ok (.iload 7, 2) := by decide +kernel
theorem dX6_reckon_60 : decode cX6_reckon 60 = .ok (.goto 21, 3) := by decide +kernel
theorem dX6_reckon_63 : decode cX6_reckon 63 = .ok (.iload_n 2, 1) := by decide +kernel
theorem dX6_reckon_64 : decode cX6_reckon 64 = .ok (.iconst 3, 1) := by decide +kernel
theorem dX6_reckon_65 : decode cX6_reckon 65 = .ok (.if_icmp .ne 11, 3) := by decide +kernel
theorem dX6_reckon_68 : decode cX6_reckon 68 = .ok (.iload 6, 2) := by decide +kernel
theorem dX6_reckon_70 : decode cX6_reckon 70 = .ok (.iload 7, 2) := by decide +kernel
theorem dX6_reckon_72 : decode cX6_reckon 72 = .ok (.iadd, 1) := by decide +kernel
theorem dX6_reckon_73 : decode cX6_reckon 73 = .ok (.goto 8, 3) := by decide +kernel
theorem dX6_reckon_76 : decode cX6_reckon 76 = .ok (.iload 6, 2) := by decide +kernel
theorem dX6_reckon_78 : decode cX6_reckon 78 = .ok (.iload 7, 2) := by decide +kernel
theorem dX6_reckon_80 : decode cX6_reckon 80 = .ok (.isub, 1) := by decide +kernel
theorem dX6_reckon_81 : decode cX6_reckon 81 = .ok (.ireturn, 1) := by decide +kernel
theorem dX6_reckon_82 : decode cX6_reckon 82 = .ok (.iload_n 2, 1) := by decide +kernel
theorem dX6_reckon_83 : decode cX6_reckon 83 = .ok (.bipush 9, 2) := by decide +kernel
theorem dX6_reckon_85 : decode cX6_reckon 85 = .ok (.if_icmp .ge 52, 3) := by decide +kernel
theorem dX6_reckon_88 : decode cX6_reckon 88 = .ok (.iload_n 2, 1) := by decide +kernel
theorem dX6_reckon_89 : decode cX6_reckon 89 = .ok (.iconst 5, 1) := by decide +kernel
theorem dX6_reckon_90 : decode cX6_reckon 90 = .ok (.if_icmp .ne 11, 3) := by decide +kernel
theorem dX6_reckon_93 : decode cX6_reckon 93 = .ok (.iload 6, 2) := by decide +kernel
theorem dX6_reckon_95 : decode cX6_reckon 95 = .ok (.iload 7, 2) := by decide +kernel
theorem dX6_reckon_97 : decode cX6_reckon 97 = .ok (.iand, 1) := by decide +kernel
theorem dX6_reckon_98 : decode cX6_reckon 98 = .ok (.goto 38, 3) := by decide +kernel
theorem dX6_reckon_101 : decode cX6_reckon 101 = .ok (.iload_n 2, 1) := by decide +kernel
theorem dX6_reckon_102 : decode cX6_reckon 102 = .ok (.bipush 6, 2) := by decide +kernel
theorem dX6_reckon_104 : decode cX6_reckon 104 = .ok (.if_icmp .ne 11, 3) := by decide +kernel
theorem dX6_reckon_107 : decode cX6_reckon 107 = .ok (.iload 6, 2) := by decide +kernel
theorem dX6_reckon_109 : decode cX6_reckon 109 = .ok (.iload 7, 2) := by decide +kernel
theorem dX6_reckon_111 : decode cX6_reckon 111 = .ok (.ixor, 1) := by decide +kernel
theorem dX6_reckon_112 : decode cX6_reckon 112 = .ok (.goto 24, 3) := by decide +kernel
theorem dX6_reckon_115 : decode cX6_reckon 115 = .ok (.iload_n 2, 1) := by decide +kernel
theorem dX6_reckon_116 : decode cX6_reckon 116 = .ok (.bipush 7, 2) := by decide +kernel
theorem dX6_reckon_118 : decode cX6_reckon 118 = .ok (.if_icmp .ne 10, 3) := by decide +kernel
theorem dX6_reckon_121 : decode cX6_reckon 121 = .ok (.iconst 2, 1) := by decide +kernel
theorem dX6_reckon_122 : decode cX6_reckon 122 = .ok (.iload 6, 2) := by decide +kernel
theorem dX6_reckon_124 : decode cX6_reckon 124 = .ok (.imul, 1) := by decide +kernel
theorem dX6_reckon_125 : decode cX6_reckon 125 = .ok (.goto 11, 3) := by decide +kernel
theorem dX6_reckon_128 : decode cX6_reckon 128 = .ok (.iload 6, 2) := by decide +kernel
theorem dX6_reckon_130 : decode cX6_reckon 130 = .ok (.sipush 255, 3) := by decide +kernel
theorem dX6_reckon_133 : decode cX6_reckon 133 = .ok (.iand, 1) := by decide +kernel
theorem dX6_reckon_134 : decode cX6_reckon 134 = .ok (.iconst 1, 1) := by decide +kernel
theorem dX6_reckon_135 : decode cX6_reckon 135 = .ok (.ishr, 1) := by decide +kernel
theorem dX6_reckon_136 : decode cX6_reckon 136 = .ok (.ireturn, 1) := by decide +kernel
theorem dX6_reckon_137 : decode cX6_reckon 137 = .ok (.iload_n 2, 1) := by decide +kernel
theorem dX6_reckon_138 : decode cX6_reckon 138 = .ok (.bipush 9, 2) := by decide +kernel
theorem dX6_reckon_140 : decode cX6_reckon 140 = .ok (.if_icmp .ne 24, 3) := by decide +kernel
theorem dX6_reckon_143 : decode cX6_reckon 143 = .ok (.aload_n 0, 1) := by decide +kernel
theorem dX6_reckon_144 : decode cX6_reckon 144 = .ok (.getfield 7, 3) := by decide +kernel
theorem dX6_reckon_147 : decode cX6_reckon 147 = .ok (.iload_n 1, 1) := by decide +kernel
theorem dX6_reckon_148 : decode cX6_reckon 148 = .ok (.invokestatic 30, 3) := by decide +kernel
theorem dX6_reckon_151 : decode cX6_reckon 151 = .ok (.bipush 18, 2) := by decide +kernel
theorem dX6_reckon_153 : decode cX6_reckon 153 = .ok (.iadd, 1) := by decide +kernel
theorem dX6_reckon_154 : decode cX6_reckon 154 = .ok (.iload 7, 2) := by decide +kernel
theorem dX6_reckon_156 : decode cX6_reckon 156 = .ok (.bipush 15, 2) := by decide +kernel
theorem dX6_reckon_158 : decode cX6_reckon 158 = .ok (.iand, 1) := by decide +kernel
theorem dX6_reckon_159 : decode cX6_reckon 159 = .ok (.iadd, 1) := by decide +kernel
theorem dX6_reckon_160 : decode cX6_reckon 160 = .ok (.iaload, 1) := by decide +kernel
theorem dX6_reckon_161 : decode cX6_reckon 161 = .ok (.goto 30, 3) := by decide +kernel
theorem dX6_reckon_164 : decode cX6_reckon 164 = .ok (.iload_n 2, 1) := by decide +kernel
theorem dX6_reckon_165 : decode cX6_reckon 165 = .ok (.bipush 14, 2) := by decide +kernel
theorem dX6_reckon_167 : decode cX6_reckon 167 = .ok (.if_icmp .ne 15, 3) := by decide +kernel
theorem dX6_reckon_170 : decode cX6_reckon 170 = .ok (.aload_n 0, 1) := by decide +kernel
theorem dX6_reckon_171 : decode cX6_reckon 171 = .ok (.iload_n 1, 1) := by decide +kernel
theorem dX6_reckon_172 : decode cX6_reckon 172 = .ok (.iload 4, 2) := by decide +kernel
theorem dX6_reckon_174 : decode cX6_reckon 174 = .ok (.iconst 3, 1) := by decide +kernel
theorem dX6_reckon_175 : decode cX6_reckon 175 = .ok (.iand, 1) := by decide +kernel
theorem dX6_reckon_176 : decode cX6_reckon 176 = .ok (.invokevirtual 54, 3) := by decide +kernel
theorem dX6_reckon_179 : decode cX6_reckon 179 = .ok (.goto 12, 3) := by decide +kernel
theorem dX6_reckon_182 : decode cX6_reckon 182 = .ok (.aload_n 0, 1) := by decide +kernel
theorem dX6_reckon_183 : decode cX6_reckon 183 = .ok (.iload_n 1, 1) := by decide +kernel
theorem dX6_reckon_184 : decode cX6_reckon 184 = .ok (.iload 4, 2) := by decide +kernel
theorem dX6_reckon_186 : decode cX6_reckon 186 = .ok (.iconst 3, 1) := by decide +kernel
theorem dX6_reckon_187 : decode cX6_reckon 187 = .ok (.iand, 1) := by decide +kernel
theorem dX6_reckon_188 : decode cX6_reckon 188 = .ok (.invokevirtual 57, 3) := by decide +kernel
theorem dX6_reckon_191 : decode cX6_reckon 191 = .ok (.ireturn, 1) := by decide +kernel
def fn_X6_reckon (L : cp_Lay) (q : Nat) (k0 : Nat) (x1 : Int32) (x2 : Int32) (x3 : Int32) (x4 : Int32) (D : cp_Dt) : Option (Int32 × cp_Dt) :=
  (fn_X6_at L q x1 D).bind fun y1 =>
  (cp_gR L k0 6 3).bind fun r2 =>
  (cp_aI L y1.2 0 r2 ((y1.1 + (10 : Int32)) + (x3 &&& (7 : Int32)))).bind fun v3 =>
  (cp_gR L k0 6 3).bind fun r4 =>
  (cp_aI L y1.2 0 r4 ((y1.1 + (10 : Int32)) + (x4 &&& (7 : Int32)))).bind fun v5 =>
  if (5 : Int32) ≤ x2 then (if (9 : Int32) ≤ x2 then (if x2 = (9 : Int32) then ((cp_gR L k0 6 3).bind fun r14 =>
  (fn_X6_at L q x1 y1.2).bind fun y15 =>
  (cp_aI L y15.2 0 r14 ((y15.1 + (18 : Int32)) + (v5 &&& (15 : Int32)))).bind fun v16 =>
  some (v16, y15.2))
  else (if x2 = (14 : Int32) then ((cp_fl L k0 6).bind fun f12 =>
  (fn_X6_looks L q k0 x1 (x4 &&& (3 : Int32)) y1.2).bind fun y13 =>
  some (y13.1, y13.2))
  else ((cp_fl L k0 6).bind fun f10 =>
  (fn_X6_feels L q k0 x1 (x4 &&& (3 : Int32)) y1.2).bind fun y11 =>
  some (y11.1, y11.2))))
  else (if x2 = (5 : Int32) then (some ((v3 &&& v5), y1.2))
  else (if x2 = (6 : Int32) then (some ((v3 ^^^ v5), y1.2))
  else (if x2 = (7 : Int32) then (some (((2 : Int32) * v3), y1.2))
  else (some (((v3 &&& (255 : Int32)) >>> ((1 : Int32) &&& 31)), y1.2))))))
  else (if x2 = (1 : Int32) then (some (x4, y1.2))
  else (if x2 = (2 : Int32) then (some (v5, y1.2))
  else (if x2 = (3 : Int32) then (some ((v3 + v5), y1.2))
  else (some ((v3 - v5), y1.2)))))
set_option maxHeartbeats 4000000 in
set_option maxRecDepth 100000 in
theorem ct_X6_reckon (l : Launch) (G : va_G) (L : cp_Lay) (hJ : cp_J L) (q : Nat) (k0 : Nat) (x1 : Int32) (x2 : Int32) (x3 : Int32) (x4 : Int32) (D : cp_Dt) (res : Int32 × cp_Dt) (hF : fn_X6_reckon L q k0 x1 x2 x3 x4 D = some res) : cp_Met l G yX6_reckon wsX6_reckon ({ frames := 5, cells := 0, slots := 0, locals := 113 }) L ([.ref (L.2.1 k0), .int x1, .int x2, .int x3, .int x4] : List Value) D res.2 (some (.int res.1)) := by
  refine Met.ofW (cc := cX6_reckon) (maxL := 8) (ret := (some .int)) (by decide) rfl ?_
  intro p e s m args below meth c s₁ B hml hv
  obtain ⟨rfl, hP, hK, hN, hZ⟩ := hv
  have hx := B.exec
  have hb := B.bytes
  have hr := B.returns
  have hts := atoms_spec (ws := wsX6_reckon) B.pre
  have hown : s.vm.findClass "CreaturePondModel" = some m.cls := findClass_of_methodNamed B.named
  have hlocks := B.notSynchronized
  have hS : va_S (cp_A L) s.heap s.heap [] := va_S.rf
  have htT : ∀ w ∈ cp_T, w.before ([.ref (L.2.1 k0), .int x1, .int x2, .int x3, .int x4] : List Value).toArray s = true := fun w h => hts w (List.mem_cons_of_mem _ h)
  have hl := lv_entry (([.ref (L.2.1 k0), .int x1, .int x2, .int x3, .int x4] : List Value)) (n := 8) (Nat.le_of_ble_eq_true rfl)
  rw [lg_entry_eq]
  generalize (lg_sl (([.ref (L.2.1 k0), .int x1, .int x2, .int x3, .int x4] : List Value)) ++ List.replicate (8 - (lg_sl (([.ref (L.2.1 k0), .int x1, .int x2, .int x3, .int x4] : List Value))).length) Slot.unset).toArray = ls at hl ⊢
  have hl : lv_has ls 8 [(0, .ref (L.2.1 k0)), (1, .int x1), (2, .int x2), (3, .int x3), (4, .int x4)] := hl
  unfold fn_X6_reckon at hF
  refine lv_iload_n hx hb dX6_reckon_0 rfl (lv_at hl 1 rfl) ?_
  obtain ⟨y1, ey1, hF⟩ := cp_bind hF
  refine cp_call (st1 := [.int y1.1]) (va_runS (As := [.int x1]) (rest := []) ⟨hx, hb, hml, hown, htT⟩ (ct_X6_at l G L hJ q x1 D y1 ey1) ⟨callB_of 1 htT gdX6_at rfl rfl rfl (htT _ tw_8) (htT _ tw_417) hdX6_at ⟨Nat.le_of_ble_eq_true rfl, Nat.le_of_ble_eq_true rfl⟩, (htT _ tw_418)⟩ ⟨cp_blind, cp_pre hP hK hN hZ hS⟩ rfl rfl hl.1 rfl (lv_room (Nat.le_of_ble_eq_true rfl)) dX6_reckon_1 ⟨Nat.zero_le _, Nat.zero_le _⟩) hS (fun H locs hP hS => ?_)
  refine lv_bipush (v := (10 : Int32)) hx hb dX6_reckon_4 (by decide) ?_
  refine lv_iadd hx hb dX6_reckon_6 ?_
  refine lv_istore (lv' := [(5, .int (y1.1 + (10 : Int32))), (0, .ref (L.2.1 k0)), (1, .int x1), (2, .int x2), (3, .int x3), (4, .int x4)]) hx hb dX6_reckon_7 hl (by decide) rfl (fun ls hl => ?_)
  refine lv_aload_n hx hb dX6_reckon_9 rfl (lv_at hl 1 rfl) ?_
  obtain ⟨r2, er2, hF⟩ := cp_bind hF
  refine cp_getR (T := TX6) (N := 6) (ci := 6) (j := 3) hx hb htT hinX6 hown hK hP rfl (by decide) rfl (htT _ tw_378) er2 dX6_reckon_10 ?_
  refine lv_iload hx hb dX6_reckon_13 (lv_at hl 0 rfl) ?_
  refine lv_iload_n hx hb dX6_reckon_15 rfl (lv_at hl 4 rfl) ?_
  refine lv_bipush (v := (7 : Int32)) hx hb dX6_reckon_16 (by decide) ?_
  refine lv_iand hx hb dX6_reckon_18 ?_
  refine lv_iadd hx hb dX6_reckon_19 ?_
  obtain ⟨v3, ev3, hF⟩ := cp_bind hF
  refine cp_iald hx hb hK hP ev3 dX6_reckon_20 ?_
  refine lv_istore (lv' := [(6, .int v3), (5, .int (y1.1 + (10 : Int32))), (0, .ref (L.2.1 k0)), (1, .int x1), (2, .int x2), (3, .int x3), (4, .int x4)]) hx hb dX6_reckon_21 hl (by decide) rfl (fun ls hl => ?_)
  refine lv_aload_n hx hb dX6_reckon_23 rfl (lv_at hl 2 rfl) ?_
  obtain ⟨r4, er4, hF⟩ := cp_bind hF
  refine cp_getR (T := TX6) (N := 6) (ci := 6) (j := 3) hx hb htT hinX6 hown hK hP rfl (by decide) rfl (htT _ tw_378) er4 dX6_reckon_24 ?_
  refine lv_iload hx hb dX6_reckon_27 (lv_at hl 1 rfl) ?_
  refine lv_iload hx hb dX6_reckon_29 (lv_at hl 6 rfl) ?_
  refine lv_bipush (v := (7 : Int32)) hx hb dX6_reckon_31 (by decide) ?_
  refine lv_iand hx hb dX6_reckon_33 ?_
  refine lv_iadd hx hb dX6_reckon_34 ?_
  obtain ⟨v5, ev5, hF⟩ := cp_bind hF
  refine cp_iald hx hb hK hP ev5 dX6_reckon_35 ?_
  refine lv_istore (lv' := [(7, .int v5), (6, .int v3), (5, .int (y1.1 + (10 : Int32))), (0, .ref (L.2.1 k0)), (1, .int x1), (2, .int x2), (3, .int x3), (4, .int x4)]) hx hb dX6_reckon_36 hl (by decide) rfl (fun ls hl => ?_)
  refine lv_iload_n hx hb dX6_reckon_38 rfl (lv_at hl 5 rfl) ?_
  refine lv_iconst (v := (5 : Int32)) hx hb dX6_reckon_39 (by decide) ?_
  refine lv_icmp_ge (tgt := 82) hx hb dX6_reckon_40 (by decide) (fun hc6 => ?_) (fun hc6 => ?_)
  · rw [if_pos hc6] at hF
    refine lv_iload_n hx hb dX6_reckon_82 rfl (lv_at hl 5 rfl) ?_
    refine lv_bipush (v := (9 : Int32)) hx hb dX6_reckon_83 (by decide) ?_
    refine lv_icmp_ge (tgt := 137) hx hb dX6_reckon_85 (by decide) (fun hc7 => ?_) (fun hc7 => ?_)
    · rw [if_pos hc7] at hF
      refine lv_iload_n hx hb dX6_reckon_137 rfl (lv_at hl 5 rfl) ?_
      refine lv_bipush (v := (9 : Int32)) hx hb dX6_reckon_138 (by decide) ?_
      refine lv_icmp_ne (tgt := 164) hx hb dX6_reckon_140 (by decide) (fun hc8 => ?_) (fun hc8 => ?_)
      · rw [if_neg hc8] at hF
        refine lv_iload_n hx hb dX6_reckon_164 rfl (lv_at hl 5 rfl) ?_
        refine lv_bipush (v := (14 : Int32)) hx hb dX6_reckon_165 (by decide) ?_
        refine lv_icmp_ne (tgt := 182) hx hb dX6_reckon_167 (by decide) (fun hc9 => ?_) (fun hc9 => ?_)
        · rw [if_neg hc9] at hF
          refine lv_aload_n hx hb dX6_reckon_182 rfl (lv_at hl 3 rfl) ?_
          refine lv_iload_n hx hb dX6_reckon_183 rfl (lv_at hl 4 rfl) ?_
          refine lv_iload hx hb dX6_reckon_184 (lv_at hl 7 rfl) ?_
          refine lv_iconst (v := (3 : Int32)) hx hb dX6_reckon_186 (by decide) ?_
          refine lv_iand hx hb dX6_reckon_187 ?_
          obtain ⟨f10, ef10, hF⟩ := cp_bind hF
          obtain ⟨y11, ey11, hF⟩ := cp_bind hF
          refine cp_call (st1 := [.int y11.1]) (va_runV (As := [.int x1, .int (x4 &&& (3 : Int32))]) (rest := []) ⟨hx, hb, hml, hown, htT⟩ (ct_X6_feels l G L hJ q k0 x1 (x4 &&& (3 : Int32)) y1.2 y11 ey11) ⟨callB_of 2 htT gdX6_feels rfl rfl rfl (htT _ tw_8) (htT _ tw_476) hdX6_feels ⟨Nat.le_of_ble_eq_true rfl, Nat.le_of_ble_eq_true rfl⟩, (htT _ tw_477), (htT _ tw_589)⟩ ⟨cp_blind, cp_recv hK hP rfl ef10, cp_pre hP hK hN hZ hS⟩ rfl rfl hl.1 rfl (lv_room (Nat.le_of_ble_eq_true rfl)) dX6_reckon_188 ⟨Nat.zero_le _, Nat.zero_le _⟩) hS (fun H locs hP hS => ?_)
          exact cp_iret hx hb hr hlocks hF hP hS dX6_reckon_191
        · rw [if_pos hc9] at hF
          refine lv_aload_n hx hb dX6_reckon_170 rfl (lv_at hl 3 rfl) ?_
          refine lv_iload_n hx hb dX6_reckon_171 rfl (lv_at hl 4 rfl) ?_
          refine lv_iload hx hb dX6_reckon_172 (lv_at hl 7 rfl) ?_
          refine lv_iconst (v := (3 : Int32)) hx hb dX6_reckon_174 (by decide) ?_
          refine lv_iand hx hb dX6_reckon_175 ?_
          obtain ⟨f12, ef12, hF⟩ := cp_bind hF
          obtain ⟨y13, ey13, hF⟩ := cp_bind hF
          refine cp_call (st1 := [.int y13.1]) (va_runV (As := [.int x1, .int (x4 &&& (3 : Int32))]) (rest := []) ⟨hx, hb, hml, hown, htT⟩ (ct_X6_looks l G L hJ q k0 x1 (x4 &&& (3 : Int32)) y1.2 y13 ey13) ⟨callB_of 2 htT gdX6_looks rfl rfl rfl (htT _ tw_8) (htT _ tw_473) hdX6_looks ⟨Nat.le_of_ble_eq_true rfl, Nat.le_of_ble_eq_true rfl⟩, (htT _ tw_474), (htT _ tw_588)⟩ ⟨cp_blind, cp_recv hK hP rfl ef12, cp_pre hP hK hN hZ hS⟩ rfl rfl hl.1 rfl (lv_room (Nat.le_of_ble_eq_true rfl)) dX6_reckon_176 ⟨Nat.zero_le _, Nat.zero_le _⟩) hS (fun H locs hP hS => ?_)
          refine lv_goto (tgt := 191) hx hb dX6_reckon_179 (by decide) ?_
          exact cp_iret hx hb hr hlocks hF hP hS dX6_reckon_191
      · rw [if_pos hc8] at hF
        refine lv_aload_n hx hb dX6_reckon_143 rfl (lv_at hl 3 rfl) ?_
        obtain ⟨r14, er14, hF⟩ := cp_bind hF
        refine cp_getR (T := TX6) (N := 6) (ci := 6) (j := 3) hx hb htT hinX6 hown hK hP rfl (by decide) rfl (htT _ tw_378) er14 dX6_reckon_144 ?_
        refine lv_iload_n hx hb dX6_reckon_147 rfl (lv_at hl 4 rfl) ?_
        obtain ⟨y15, ey15, hF⟩ := cp_bind hF
        refine cp_call (st1 := [.int y15.1, .ref (L.2.1 r14)]) (va_runS (As := [.int x1]) (rest := [.ref (L.2.1 r14)]) ⟨hx, hb, hml, hown, htT⟩ (ct_X6_at l G L hJ q x1 y1.2 y15 ey15) ⟨callB_of 1 htT gdX6_at rfl rfl rfl (htT _ tw_8) (htT _ tw_417) hdX6_at ⟨Nat.le_of_ble_eq_true rfl, Nat.le_of_ble_eq_true rfl⟩, (htT _ tw_418)⟩ ⟨cp_blind, cp_pre hP hK hN hZ hS⟩ rfl rfl hl.1 rfl (lv_room (Nat.le_of_ble_eq_true rfl)) dX6_reckon_148 ⟨Nat.zero_le _, Nat.zero_le _⟩) hS (fun H locs hP hS => ?_)
        refine lv_bipush (v := (18 : Int32)) hx hb dX6_reckon_151 (by decide) ?_
        refine lv_iadd hx hb dX6_reckon_153 ?_
        refine lv_iload hx hb dX6_reckon_154 (lv_at hl 0 rfl) ?_
        refine lv_bipush (v := (15 : Int32)) hx hb dX6_reckon_156 (by decide) ?_
        refine lv_iand hx hb dX6_reckon_158 ?_
        refine lv_iadd hx hb dX6_reckon_159 ?_
        obtain ⟨v16, ev16, hF⟩ := cp_bind hF
        refine cp_iald hx hb hK hP ev16 dX6_reckon_160 ?_
        refine lv_goto (tgt := 191) hx hb dX6_reckon_161 (by decide) ?_
        exact cp_iret hx hb hr hlocks hF hP hS dX6_reckon_191
    · rw [if_neg hc7] at hF
      refine lv_iload_n hx hb dX6_reckon_88 rfl (lv_at hl 5 rfl) ?_
      refine lv_iconst (v := (5 : Int32)) hx hb dX6_reckon_89 (by decide) ?_
      refine lv_icmp_ne (tgt := 101) hx hb dX6_reckon_90 (by decide) (fun hc17 => ?_) (fun hc17 => ?_)
      · rw [if_neg hc17] at hF
        refine lv_iload_n hx hb dX6_reckon_101 rfl (lv_at hl 5 rfl) ?_
        refine lv_bipush (v := (6 : Int32)) hx hb dX6_reckon_102 (by decide) ?_
        refine lv_icmp_ne (tgt := 115) hx hb dX6_reckon_104 (by decide) (fun hc18 => ?_) (fun hc18 => ?_)
        · rw [if_neg hc18] at hF
          refine lv_iload_n hx hb dX6_reckon_115 rfl (lv_at hl 5 rfl) ?_
          refine lv_bipush (v := (7 : Int32)) hx hb dX6_reckon_116 (by decide) ?_
          refine lv_icmp_ne (tgt := 128) hx hb dX6_reckon_118 (by decide) (fun hc19 => ?_) (fun hc19 => ?_)
          · rw [if_neg hc19] at hF
            refine lv_iload hx hb dX6_reckon_128 (lv_at hl 1 rfl) ?_
            refine lv_sipush (v := (255 : Int32)) hx hb dX6_reckon_130 (by decide) ?_
            refine lv_iand hx hb dX6_reckon_133 ?_
            refine lv_iconst (v := (1 : Int32)) hx hb dX6_reckon_134 (by decide) ?_
            refine lv_ishr hx hb dX6_reckon_135 ?_
            exact cp_iret hx hb hr hlocks hF hP hS dX6_reckon_136
          · rw [if_pos hc19] at hF
            refine lv_iconst (v := (2 : Int32)) hx hb dX6_reckon_121 (by decide) ?_
            refine lv_iload hx hb dX6_reckon_122 (lv_at hl 1 rfl) ?_
            refine lv_imul hx hb dX6_reckon_124 ?_
            refine lv_goto (tgt := 136) hx hb dX6_reckon_125 (by decide) ?_
            exact cp_iret hx hb hr hlocks hF hP hS dX6_reckon_136
        · rw [if_pos hc18] at hF
          refine lv_iload hx hb dX6_reckon_107 (lv_at hl 1 rfl) ?_
          refine lv_iload hx hb dX6_reckon_109 (lv_at hl 0 rfl) ?_
          refine lv_ixor hx hb dX6_reckon_111 ?_
          refine lv_goto (tgt := 136) hx hb dX6_reckon_112 (by decide) ?_
          exact cp_iret hx hb hr hlocks hF hP hS dX6_reckon_136
      · rw [if_pos hc17] at hF
        refine lv_iload hx hb dX6_reckon_93 (lv_at hl 1 rfl) ?_
        refine lv_iload hx hb dX6_reckon_95 (lv_at hl 0 rfl) ?_
        refine lv_iand hx hb dX6_reckon_97 ?_
        refine lv_goto (tgt := 136) hx hb dX6_reckon_98 (by decide) ?_
        exact cp_iret hx hb hr hlocks hF hP hS dX6_reckon_136
  · rw [if_neg hc6] at hF
    refine lv_iload_n hx hb dX6_reckon_43 rfl (lv_at hl 5 rfl) ?_
    refine lv_iconst (v := (1 : Int32)) hx hb dX6_reckon_44 (by decide) ?_
    refine lv_icmp_ne (tgt := 53) hx hb dX6_reckon_45 (by decide) (fun hc20 => ?_) (fun hc20 => ?_)
    · rw [if_neg hc20] at hF
      refine lv_iload_n hx hb dX6_reckon_53 rfl (lv_at hl 5 rfl) ?_
      refine lv_iconst (v := (2 : Int32)) hx hb dX6_reckon_54 (by decide) ?_
      refine lv_icmp_ne (tgt := 63) hx hb dX6_reckon_55 (by decide) (fun hc21 => ?_) (fun hc21 => ?_)
      · rw [if_neg hc21] at hF
        refine lv_iload_n hx hb dX6_reckon_63 rfl (lv_at hl 5 rfl) ?_
        refine lv_iconst (v := (3 : Int32)) hx hb dX6_reckon_64 (by decide) ?_
        refine lv_icmp_ne (tgt := 76) hx hb dX6_reckon_65 (by decide) (fun hc22 => ?_) (fun hc22 => ?_)
        · rw [if_neg hc22] at hF
          refine lv_iload hx hb dX6_reckon_76 (lv_at hl 1 rfl) ?_
          refine lv_iload hx hb dX6_reckon_78 (lv_at hl 0 rfl) ?_
          refine lv_isub hx hb dX6_reckon_80 ?_
          exact cp_iret hx hb hr hlocks hF hP hS dX6_reckon_81
        · rw [if_pos hc22] at hF
          refine lv_iload hx hb dX6_reckon_68 (lv_at hl 1 rfl) ?_
          refine lv_iload hx hb dX6_reckon_70 (lv_at hl 0 rfl) ?_
          refine lv_iadd hx hb dX6_reckon_72 ?_
          refine lv_goto (tgt := 81) hx hb dX6_reckon_73 (by decide) ?_
          exact cp_iret hx hb hr hlocks hF hP hS dX6_reckon_81
      · rw [if_pos hc21] at hF
        refine lv_iload hx hb dX6_reckon_58 (lv_at hl 0 rfl) ?_
        refine lv_goto (tgt := 81) hx hb dX6_reckon_60 (by decide) ?_
        exact cp_iret hx hb hr hlocks hF hP hS dX6_reckon_81
    · rw [if_pos hc20] at hF
      refine lv_iload hx hb dX6_reckon_48 (lv_at hl 7 rfl) ?_
      refine lv_goto (tgt := 81) hx hb dX6_reckon_50 (by decide) ?_
      exact cp_iret hx hb hr hlocks hF hP hS dX6_reckon_81
