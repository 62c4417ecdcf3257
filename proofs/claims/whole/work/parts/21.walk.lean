theorem dX4_endDead_0 : decode cX4_endDead 0 = .ok (.iconst 0, 1) := by decide +kernel
theorem dX4_endDead_1 : decode cX4_endDead 1 = .ok (.istore_n 1, 1) := by decide +kernel
theorem dX4_endDead_2 : decode cX4_endDead 2 = .ok (.iload_n 1, 1) := by decide +kernel
theorem dX4_endDead_3 : decode cX4_endDead 3 = .ok (.bipush 16, 2) := by decide +kernel
theorem dX4_endDead_5 : decode cX4_endDead 5 = .ok (.if_icmp .ge 45, 3) := by decide +kernel
theorem dX4_endDead_8 : decode cX4_endDead 8 = .ok (.aload_n 0, 1) := by decide +kernel
theorem dX4_endDead_9 : decode cX4_endDead 9 = .ok (.getfield 11, 3) := by decide +kernel
theorem dX4_endDead_12 : decode cX4_endDead 12 = .ok (.iload_n 1, 1) := by decide +kernel
theorem dX4_endDead_13 : decode cX4_endDead 13 = .ok (.aaload, 1) := by decide +kernel
theorem dX4_endDead_14 : decode cX4_endDead 14 = .ok (.astore_n 2, 1) := by decide +kernel
theorem dX4_endDead_15 : decode cX4_endDead 15 = .ok (.aload_n 2, 1) := by decide +kernel
theorem dX4_endDead_16 : decode cX4_endDead 16 = .ok (.getfield 79, 3) := by decide +kernel
theorem dX4_endDead_19 : decode cX4_endDead 19 = .ok (.ifCond .eq 25, 3) := by decide +kernel
theorem dX4_endDead_22 : decode cX4_endDead 22 = .ok (.aload_n 2, 1) := by decide +kernel
theorem dX4_endDead_23 : decode cX4_endDead 23 = .ok (.getfield 83, 3) := by decide +kernel
theorem dX4_endDead_26 : decode cX4_endDead 26 = .ok (.ifCond .eq 13, 3) := by decide +kernel
theorem dX4_endDead_29 : decode cX4_endDead 29 = .ok (.aload_n 2, 1) := by decide +kernel
theorem dX4_endDead_30 : decode cX4_endDead 30 = .ok (.getfield 97, 3) := by decide +kernel
theorem dX4_endDead_33 : decode cX4_endDead 33 = .ok (.sipush 200, 3) := by decide +kernel
theorem dX4_endDead_36 : decode cX4_endDead 36 = .ok (.if_icmp .lt 8, 3) := by decide +kernel
theorem dX4_endDead_39 : decode cX4_endDead 39 = .ok (.aload_n 0, 1) := by decide +kernel
theorem dX4_endDead_40 : decode cX4_endDead 40 = .ok (.aload_n 2, 1) := by decide +kernel
theorem dX4_endDead_41 : decode cX4_endDead 41 = .ok (.invokevirtual 100, 3) := by decide +kernel
theorem dX4_endDead_44 : decode cX4_endDead 44 = .ok (.iinc 1 1, 3) := by decide +kernel
theorem dX4_endDead_47 : decode cX4_endDead 47 = .ok (.goto (-45), 3) := by decide +kernel
theorem dX4_endDead_50 : decode cX4_endDead 50 = .ok (.return_, 1) := by decide +kernel
def fn_X4_endDead_L2 (L : cp_Lay) (q : Nat) : Nat → Nat → Int32 → cp_Dt → Option (cp_Dt)
  | 0, _, _, _ => none
  | n + 1, a0, i1, D =>
    if (16 : Int32) ≤ i1 then (some D)
    else ((cp_gR L a0 4 4).bind fun r2 =>
    (cp_aR L r2 i1).bind fun r3 =>
    (cp_gI L D r3 1 3).bind fun v4 =>
    if v4 = 0 then (fn_X4_endDead_L2 L q n a0 (i1 + 1) D)
    else ((cp_gI L D r3 1 7).bind fun v6 =>
    if v6 = 0 then ((cp_fl L a0 4).bind fun f8 =>
    (fn_X4_end L q a0 r3 D).bind fun D9 =>
    fn_X4_endDead_L2 L q n a0 (i1 + 1) D9)
    else ((cp_gI L D r3 1 8).bind fun v10 =>
    if v10 < (200 : Int32) then (fn_X4_endDead_L2 L q n a0 (i1 + 1) D)
    else ((cp_fl L a0 4).bind fun f12 =>
    (fn_X4_end L q a0 r3 D).bind fun D13 =>
    fn_X4_endDead_L2 L q n a0 (i1 + 1) D13))))
def fn_X4_endDead (L : cp_Lay) (q : Nat) (k0 : Nat) (D : cp_Dt) : Option (cp_Dt) :=
  fn_X4_endDead_L2 L q q k0 (0 : Int32) D
set_option maxHeartbeats 4000000 in
set_option maxRecDepth 100000 in
theorem ct_X4_endDead (l : Launch) (G : va_G) (L : cp_Lay) (hJ : cp_J L) (q : Nat) (k0 : Nat) (D : cp_Dt) (res : cp_Dt) (hF : fn_X4_endDead L q k0 D = some res) : cp_Met l G yX4_endDead wsX4_endDead ({ frames := 2, cells := 0, slots := 0, locals := 44 }) L ([.ref (L.2.1 k0)] : List Value) D res none := by
  refine Met.ofW (cc := cX4_endDead) (maxL := 3) (ret := none) (by decide) rfl ?_
  intro p e s m args below meth c s₁ B hml hv
  obtain ⟨rfl, hP, hK, hN, hZ⟩ := hv
  have hx := B.exec
  have hb := B.bytes
  have hr := B.returns
  have hts := atoms_spec (ws := wsX4_endDead) B.pre
  have hown : s.vm.findClass "CreaturePond$Pond" = some m.cls := findClass_of_methodNamed B.named
  have hlocks := B.notSynchronized
  have hS : va_S (cp_A L) s.heap s.heap [] := va_S.rf
  have htT : ∀ w ∈ cp_T, w.before ([.ref (L.2.1 k0)] : List Value).toArray s = true := fun w h => hts w (List.mem_cons_of_mem _ h)
  have hl := lv_entry (([.ref (L.2.1 k0)] : List Value)) (n := 3) (Nat.le_of_ble_eq_true rfl)
  rw [lg_entry_eq]
  generalize (lg_sl (([.ref (L.2.1 k0)] : List Value)) ++ List.replicate (3 - (lg_sl (([.ref (L.2.1 k0)] : List Value))).length) Slot.unset).toArray = ls at hl ⊢
  have hl : lv_has ls 3 [(0, .ref (L.2.1 k0))] := hl
  have hL2 : ∀ (n : Nat) (a0 : Nat) (i1 : Int32) (D : cp_Dt) (H : Heap) (locs : List Loc) (ls : Array Slot), fn_X4_endDead_L2 L q n a0 i1 D = some res → va_P G vwCl (cp_ws L D) H → va_S (cp_A L) s.heap H locs → lv_has ls 3 [(0, .ref (L.2.1 a0)), (1, .int i1)] → W p l e (headSpec wsX4_endDead ({ frames := 2, cells := 0, slots := 0, locals := 44 })).room s m ([.ref (L.2.1 k0)] : List Value).toArray below meth c H locs 0 0 (MQ below (cp_Q G L res none) ([.ref (L.2.1 k0)] : List Value).toArray s 0 0 (cp_A L)) (F0 m 2 ls []) := by
    intro n
    induction n with
    | zero =>
      intro a0 i1 D H locs ls hF
      cases hF
    | succ n ih =>
      intro a0 i1 D H locs ls hF hP hS hl
      unfold fn_X4_endDead_L2 at hF
      refine lv_iload_n hx hb dX4_endDead_2 rfl (lv_at hl 1 rfl) ?_
      refine lv_bipush (v := (16 : Int32)) hx hb dX4_endDead_3 (by decide) ?_
      refine lv_icmp_ge (tgt := 50) hx hb dX4_endDead_5 (by decide) (fun hc1 => ?_) (fun hc1 => ?_)
      · rw [if_pos hc1] at hF
        exact cp_vret hx hb hr hlocks hF hP hS dX4_endDead_50
      · rw [if_neg hc1] at hF
        refine lv_aload_n hx hb dX4_endDead_8 rfl (lv_at hl 0 rfl) ?_
        obtain ⟨r2, er2, hF⟩ := cp_bind hF
        refine cp_getR (T := TX4) (N := 12) (ci := 4) (j := 4) hx hb htT hinX4 hown hK hP rfl (by decide) rfl (htT _ tw_101) er2 dX4_endDead_9 ?_
        refine lv_iload_n hx hb dX4_endDead_12 rfl (lv_at hl 1 rfl) ?_
        obtain ⟨r3, er3, hF⟩ := cp_bind hF
        refine cp_aald hx hb hK hP er3 dX4_endDead_13 ?_
        refine lv_astore_n (lv' := [(2, .ref (L.2.1 r3)), (0, .ref (L.2.1 a0)), (1, .int i1)]) hx hb dX4_endDead_14 rfl hl (by decide) rfl (fun ls hl => ?_)
        refine lv_aload_n hx hb dX4_endDead_15 rfl (lv_at hl 0 rfl) ?_
        obtain ⟨v4, ev4, hF⟩ := cp_bind hF
        refine cp_getIN (T := TX1) (N := 14) (ci := 1) (j := 3) hx hb htT hinX1 hown hK hP rfl (by decide) rfl (hN _ (List.mem_of_getElem? (i := 13) rfl)) ev4 dX4_endDead_16 ?_
        refine lv_if_eq (tgt := 44) hx hb dX4_endDead_19 (by decide) (fun hc5 => ?_) (fun hc5 => ?_)
        · rw [if_pos hc5] at hF
          refine lv_iinc (k := 2) (v := (i1 + 1)) (lv' := [(1, .int (i1 + 1)), (2, .ref (L.2.1 r3)), (0, .ref (L.2.1 a0))]) hx hb dX4_endDead_44 hl rfl (congrArg (fun z => i1 + z) (by decide)) (by decide) rfl (fun ls hl => ?_)
          refine lv_goto (tgt := 2) hx hb dX4_endDead_47 (by decide) ?_
          exact ih a0 (i1 + 1) D _ _ _ hF hP hS (lv_sub hl [2, 0] rfl)
        · rw [if_neg hc5] at hF
          refine lv_aload_n hx hb dX4_endDead_22 rfl (lv_at hl 0 rfl) ?_
          obtain ⟨v6, ev6, hF⟩ := cp_bind hF
          refine cp_getIN (T := TX1) (N := 14) (ci := 1) (j := 7) hx hb htT hinX1 hown hK hP rfl (by decide) rfl (hN _ (List.mem_of_getElem? (i := 25) rfl)) ev6 dX4_endDead_23 ?_
          refine lv_if_eq (tgt := 39) hx hb dX4_endDead_26 (by decide) (fun hc7 => ?_) (fun hc7 => ?_)
          · rw [if_pos hc7] at hF
            refine lv_aload_n hx hb dX4_endDead_39 rfl (lv_at hl 1 rfl) ?_
            refine lv_aload_n hx hb dX4_endDead_40 rfl (lv_at hl 0 rfl) ?_
            obtain ⟨f8, ef8, hF⟩ := cp_bind hF
            obtain ⟨D9, eD9, hF⟩ := cp_bind hF
            refine cp_call (st1 := []) (va_runV (As := [.ref (L.2.1 r3)]) (rest := []) ⟨hx, hb, hml, hown, htT⟩ (ct_X4_end l G L hJ q a0 r3 D D9 eD9) ⟨callB_of 1 htT gdX4_end rfl rfl rfl (htT _ tw_4) (htT _ tw_340) hdX4_end ⟨Nat.le_of_ble_eq_true rfl, Nat.le_of_ble_eq_true rfl⟩, (htT _ tw_341), (htT _ tw_570)⟩ ⟨cp_blind, cp_recv hK hP rfl ef8, cp_pre hP hK hN hZ hS⟩ rfl rfl hl.1 rfl (lv_room (Nat.le_of_ble_eq_true rfl)) dX4_endDead_41 ⟨Nat.zero_le _, Nat.zero_le _⟩) hS (fun H locs hP hS => ?_)
            refine lv_iinc (k := 2) (v := (i1 + 1)) (lv' := [(1, .int (i1 + 1)), (2, .ref (L.2.1 r3)), (0, .ref (L.2.1 a0))]) hx hb dX4_endDead_44 hl rfl (congrArg (fun z => i1 + z) (by decide)) (by decide) rfl (fun ls hl => ?_)
            refine lv_goto (tgt := 2) hx hb dX4_endDead_47 (by decide) ?_
            exact ih a0 (i1 + 1) D9 _ _ _ hF hP hS (lv_sub hl [2, 0] rfl)
          · rw [if_neg hc7] at hF
            refine lv_aload_n hx hb dX4_endDead_29 rfl (lv_at hl 0 rfl) ?_
            obtain ⟨v10, ev10, hF⟩ := cp_bind hF
            refine cp_getIN (T := TX1) (N := 14) (ci := 1) (j := 8) hx hb htT hinX1 hown hK hP rfl (by decide) rfl (hN _ (List.mem_of_getElem? (i := 27) rfl)) ev10 dX4_endDead_30 ?_
            refine lv_sipush (v := (200 : Int32)) hx hb dX4_endDead_33 (by decide) ?_
            refine lv_icmp_lt (tgt := 44) hx hb dX4_endDead_36 (by decide) (fun hc11 => ?_) (fun hc11 => ?_)
            · rw [if_pos hc11] at hF
              refine lv_iinc (k := 2) (v := (i1 + 1)) (lv' := [(1, .int (i1 + 1)), (2, .ref (L.2.1 r3)), (0, .ref (L.2.1 a0))]) hx hb dX4_endDead_44 hl rfl (congrArg (fun z => i1 + z) (by decide)) (by decide) rfl (fun ls hl => ?_)
              refine lv_goto (tgt := 2) hx hb dX4_endDead_47 (by decide) ?_
              exact ih a0 (i1 + 1) D _ _ _ hF hP hS (lv_sub hl [2, 0] rfl)
            · rw [if_neg hc11] at hF
              refine lv_aload_n hx hb dX4_endDead_39 rfl (lv_at hl 1 rfl) ?_
              refine lv_aload_n hx hb dX4_endDead_40 rfl (lv_at hl 0 rfl) ?_
              obtain ⟨f12, ef12, hF⟩ := cp_bind hF
              obtain ⟨D13, eD13, hF⟩ := cp_bind hF
              refine cp_call (st1 := []) (va_runV (As := [.ref (L.2.1 r3)]) (rest := []) ⟨hx, hb, hml, hown, htT⟩ (ct_X4_end l G L hJ q a0 r3 D D13 eD13) ⟨callB_of 1 htT gdX4_end rfl rfl rfl (htT _ tw_4) (htT _ tw_340) hdX4_end ⟨Nat.le_of_ble_eq_true rfl, Nat.le_of_ble_eq_true rfl⟩, (htT _ tw_341), (htT _ tw_570)⟩ ⟨cp_blind, cp_recv hK hP rfl ef12, cp_pre hP hK hN hZ hS⟩ rfl rfl hl.1 rfl (lv_room (Nat.le_of_ble_eq_true rfl)) dX4_endDead_41 ⟨Nat.zero_le _, Nat.zero_le _⟩) hS (fun H locs hP hS => ?_)
              refine lv_iinc (k := 2) (v := (i1 + 1)) (lv' := [(1, .int (i1 + 1)), (2, .ref (L.2.1 r3)), (0, .ref (L.2.1 a0))]) hx hb dX4_endDead_44 hl rfl (congrArg (fun z => i1 + z) (by decide)) (by decide) rfl (fun ls hl => ?_)
              refine lv_goto (tgt := 2) hx hb dX4_endDead_47 (by decide) ?_
              exact ih a0 (i1 + 1) D13 _ _ _ hF hP hS (lv_sub hl [2, 0] rfl)
  unfold fn_X4_endDead at hF
  refine lv_iconst (v := (0 : Int32)) hx hb dX4_endDead_0 (by decide) ?_
  refine lv_istore_n (lv' := [(1, .int (0 : Int32)), (0, .ref (L.2.1 k0))]) hx hb dX4_endDead_1 rfl hl (by decide) rfl (fun ls hl => ?_)
  exact hL2 q k0 (0 : Int32) D _ _ _ hF hP hS (lv_sub hl [1, 0] rfl)
theorem dX4_firstOther_0 : decode cX4_firstOther 0 = .ok (.iconst 0, 1) := by decide +kernel
theorem dX4_firstOther_1 : decode cX4_firstOther 1 = .ok (.istore_n 2, 1) := by decide +kernel
theorem dX4_firstOther_2 : decode cX4_firstOther 2 = .ok (.iload_n 2, 1) := by decide +kernel
theorem dX4_firstOther_3 : decode cX4_firstOther 3 = .ok (.aload_n 0, 1) := by decide +kernel
theorem dX4_firstOther_4 : decode cX4_firstOther 4 = .ok (.getfield 17, 3) := by decide +kernel
theorem dX4_firstOther_7 : decode cX4_firstOther 7 = .ok (.getfield 21, 3) := by decide +kernel
theorem dX4_firstOther_10 : decode cX4_firstOther 10 = .ok (.if_icmp .ge 50, 3) := by decide +kernel
theorem dX4_firstOther_13 : decode cX4_firstOther 13 = .ok (.aload_n 0, 1) := by decide +kernel
theorem dX4_firstOther_14 : decode cX4_firstOther 14 = .ok (.getfield 27, 3) := by decide +kernel
theorem dX4_firstOther_17 : decode cX4_firstOther 17 = .ok (.iload_n 2, 1) := by decide +kernel
theorem dX4_firstOther_18 : decode cX4_firstOther 18 = .ok (.iaload, 1) := by decide +kernel
theorem dX4_firstOther_19 : decode cX4_firstOther 19 = .ok (.aload_n 1, 1) := by decide +kernel
theorem dX4_firstOther_20 : decode cX4_firstOther 20 = .ok (.getfield 27, 3) := by decide +kernel
theorem dX4_firstOther_23 : decode cX4_firstOther 23 = .ok (.iload_n 2, 1) := by decide +kernel
theorem dX4_firstOther_24 : decode cX4_firstOther 24 = .ok (.iaload, 1) := by decide +kernel
theorem dX4_firstOther_25 : decode cX4_firstOther 25 = .ok (.if_icmp .ne 27, 3) := by decide +kernel
theorem dX4_firstOther_28 : decode cX4_firstOther 28 = .ok (.aload_n 0, 1) := by decide +kernel
theorem dX4_firstOther_29 : decode cX4_firstOther 29 = .ok (.getfield 31, 3) := by decide +kernel
theorem dX4_firstOther_32 : decode cX4_firstOther 32 = .ok (.iload_n 2, 1) := by decide +kernel
theorem dX4_firstOther_33 : decode cX4_firstOther 33 = .ok (.baload, 1) := by decide +kernel
theorem dX4_firstOther_34 : decode cX4_firstOther 34 = .ok (.aload_n 1, 1) := by decide +kernel
theorem dX4_firstOther_35 : decode cX4_firstOther 35 = .ok (.getfield 31, 3) := by decide +kernel
theorem dX4_firstOther_38 : decode cX4_firstOther 38 = .ok (.iload_n 2, 1) := by decide +kernel
theorem dX4_firstOther_39 : decode cX4_firstOther 39 = .ok (.baload, 1) := by decide +kernel
theorem dX4_firstOther_40 : decode cX4_firstOther 40 = .ok (.if_icmp .ne 12, 3) := by decide +kernel
theorem dX4_firstOther_43 : decode cX4_firstOther 43 = .ok (.aload_n 0, 1) := by decide +kernel
theorem dX4_firstOther_44 : decode cX4_firstOther 44 = .ok (.aload_n 1, 1) := by decide +kernel
theorem dX4_firstOther_45 : decode cX4_firstOther 45 = .ok (.iload_n 2, 1) := by decide +kernel
theorem dX4_firstOther_46 : decode cX4_firstOther 46 = .ok (.invokevirtual 103, 3) := by decide +kernel
theorem dX4_firstOther_49 : decode cX4_firstOther 49 = .ok (.ifCond .eq 5, 3) := by decide +kernel
theorem dX4_firstOther_52 : decode cX4_firstOther 52 = .ok (.iload_n 2, 1) := by decide +kernel
theorem dX4_firstOther_53 : decode cX4_firstOther 53 = .ok (.ireturn, 1) := by decide +kernel
theorem dX4_firstOther_54 : decode cX4_firstOther 54 = .ok (.iinc 2 1, 3) := by decide +kernel
theorem dX4_firstOther_57 : decode cX4_firstOther 57 = .ok (.goto (-55), 3) := by decide +kernel
theorem dX4_firstOther_60 : decode cX4_firstOther 60 = .ok (.iconst (-1), 1) := by decide +kernel
theorem dX4_firstOther_61 : decode cX4_firstOther 61 = .ok (.ireturn, 1) := by decide +kernel
def fn_X4_firstOther_L2 (L : cp_Lay) (q : Nat) : Nat → Nat → Nat → Int32 → cp_Dt → Option (Int32 × cp_Dt)
  | 0, _, _, _, _ => none
  | n + 1, a0, a1, i2, D =>
    (cp_gR L a0 4 0).bind fun r1 =>
    (cp_gI L D r1 5 2).bind fun v2 =>
    if v2 ≤ i2 then (some ((-1 : Int32), D))
    else ((cp_gR L a0 4 1).bind fun r4 =>
    (cp_aI L D 0 r4 i2).bind fun v5 =>
    (cp_gR L a1 4 1).bind fun r6 =>
    (cp_aI L D 0 r6 i2).bind fun v7 =>
    if v5 = v7 then ((cp_gR L a0 4 2).bind fun r9 =>
    (cp_aI L D 1 r9 i2).bind fun v10 =>
    (cp_gR L a1 4 2).bind fun r11 =>
    (cp_aI L D 1 r11 i2).bind fun v12 =>
    if v10 = v12 then ((cp_fl L a0 4).bind fun f14 =>
    (fn_X4_hasOtherDweller L q a0 a1 i2 D).bind fun y15 =>
    if y15.1 = 0 then (fn_X4_firstOther_L2 L q n a0 a1 (i2 + 1) y15.2)
    else (some (i2, y15.2)))
    else (some (i2, D)))
    else (some (i2, D)))
def fn_X4_firstOther (L : cp_Lay) (q : Nat) (k0 : Nat) (k1 : Nat) (D : cp_Dt) : Option (Int32 × cp_Dt) :=
  fn_X4_firstOther_L2 L q q k0 k1 (0 : Int32) D
set_option maxHeartbeats 4000000 in
set_option maxRecDepth 100000 in
theorem ct_X4_firstOther (l : Launch) (G : va_G) (L : cp_Lay) (hJ : cp_J L) (q : Nat) (k0 : Nat) (k1 : Nat) (D : cp_Dt) (res : Int32 × cp_Dt) (hF : fn_X4_firstOther L q k0 k1 D = some res) : cp_Met l G yX4_firstOther wsX4_firstOther ({ frames := 1, cells := 0, slots := 0, locals := 25 }) L ([.ref (L.2.1 k0), .ref (L.2.1 k1)] : List Value) D res.2 (some (.int res.1)) := by
  refine Met.ofW (cc := cX4_firstOther) (maxL := 3) (ret := (some .int)) (by decide) rfl ?_
  intro p e s m args below meth c s₁ B hml hv
  obtain ⟨rfl, hP, hK, hN, hZ⟩ := hv
  have hx := B.exec
  have hb := B.bytes
  have hr := B.returns
  have hts := atoms_spec (ws := wsX4_firstOther) B.pre
  have hown : s.vm.findClass "CreaturePond$Pond" = some m.cls := findClass_of_methodNamed B.named
  have hlocks := B.notSynchronized
  have hS : va_S (cp_A L) s.heap s.heap [] := va_S.rf
  have htT : ∀ w ∈ cp_T, w.before ([.ref (L.2.1 k0), .ref (L.2.1 k1)] : List Value).toArray s = true := fun w h => hts w (List.mem_cons_of_mem _ h)
  have hl := lv_entry (([.ref (L.2.1 k0), .ref (L.2.1 k1)] : List Value)) (n := 3) (Nat.le_of_ble_eq_true rfl)
  rw [lg_entry_eq]
  generalize (lg_sl (([.ref (L.2.1 k0), .ref (L.2.1 k1)] : List Value)) ++ List.replicate (3 - (lg_sl (([.ref (L.2.1 k0), .ref (L.2.1 k1)] : List Value))).length) Slot.unset).toArray = ls at hl ⊢
  have hl : lv_has ls 3 [(0, .ref (L.2.1 k0)), (1, .ref (L.2.1 k1))] := hl
  have hL2 : ∀ (n : Nat) (a0 : Nat) (a1 : Nat) (i2 : Int32) (D : cp_Dt) (H : Heap) (locs : List Loc) (ls : Array Slot), fn_X4_firstOther_L2 L q n a0 a1 i2 D = some res → va_P G vwCl (cp_ws L D) H → va_S (cp_A L) s.heap H locs → lv_has ls 3 [(0, .ref (L.2.1 a0)), (1, .ref (L.2.1 a1)), (2, .int i2)] → W p l e (headSpec wsX4_firstOther ({ frames := 1, cells := 0, slots := 0, locals := 25 })).room s m ([.ref (L.2.1 k0), .ref (L.2.1 k1)] : List Value).toArray below meth c H locs 0 0 (MQ below (cp_Q G L res.2 (some (.int res.1))) ([.ref (L.2.1 k0), .ref (L.2.1 k1)] : List Value).toArray s 0 0 (cp_A L)) (F0 m 2 ls []) := by
    intro n
    induction n with
    | zero =>
      intro a0 a1 i2 D H locs ls hF
      cases hF
    | succ n ih =>
      intro a0 a1 i2 D H locs ls hF hP hS hl
      unfold fn_X4_firstOther_L2 at hF
      refine lv_iload_n hx hb dX4_firstOther_2 rfl (lv_at hl 2 rfl) ?_
      refine lv_aload_n hx hb dX4_firstOther_3 rfl (lv_at hl 0 rfl) ?_
      obtain ⟨r1, er1, hF⟩ := cp_bind hF
      refine cp_getR (T := TX4) (N := 12) (ci := 4) (j := 0) hx hb htT hinX4 hown hK hP rfl (by decide) rfl (htT _ tw_97) er1 dX4_firstOther_4 ?_
      obtain ⟨v2, ev2, hF⟩ := cp_bind hF
      refine cp_getIN (T := TX5) (N := 4) (ci := 5) (j := 2) hx hb htT hinX5 hown hK hP rfl (by decide) rfl (hN _ (List.mem_of_getElem? (i := 1) rfl)) ev2 dX4_firstOther_7 ?_
      refine lv_icmp_ge (tgt := 60) hx hb dX4_firstOther_10 (by decide) (fun hc3 => ?_) (fun hc3 => ?_)
      · rw [if_pos hc3] at hF
        refine lv_iconst (v := (-1 : Int32)) hx hb dX4_firstOther_60 (by decide) ?_
        exact cp_iret hx hb hr hlocks hF hP hS dX4_firstOther_61
      · rw [if_neg hc3] at hF
        refine lv_aload_n hx hb dX4_firstOther_13 rfl (lv_at hl 0 rfl) ?_
        obtain ⟨r4, er4, hF⟩ := cp_bind hF
        refine cp_getR (T := TX4) (N := 12) (ci := 4) (j := 1) hx hb htT hinX4 hown hK hP rfl (by decide) rfl (htT _ tw_98) er4 dX4_firstOther_14 ?_
        refine lv_iload_n hx hb dX4_firstOther_17 rfl (lv_at hl 2 rfl) ?_
        obtain ⟨v5, ev5, hF⟩ := cp_bind hF
        refine cp_iald hx hb hK hP ev5 dX4_firstOther_18 ?_
        refine lv_aload_n hx hb dX4_firstOther_19 rfl (lv_at hl 1 rfl) ?_
        obtain ⟨r6, er6, hF⟩ := cp_bind hF
        refine cp_getR (T := TX4) (N := 12) (ci := 4) (j := 1) hx hb htT hinX4 hown hK hP rfl (by decide) rfl (htT _ tw_98) er6 dX4_firstOther_20 ?_
        refine lv_iload_n hx hb dX4_firstOther_23 rfl (lv_at hl 2 rfl) ?_
        obtain ⟨v7, ev7, hF⟩ := cp_bind hF
        refine cp_iald hx hb hK hP ev7 dX4_firstOther_24 ?_
        refine lv_icmp_ne (tgt := 52) hx hb dX4_firstOther_25 (by decide) (fun hc8 => ?_) (fun hc8 => ?_)
        · rw [if_neg hc8] at hF
          refine lv_iload_n hx hb dX4_firstOther_52 rfl (lv_at hl 2 rfl) ?_
          exact cp_iret hx hb hr hlocks hF hP hS dX4_firstOther_53
        · rw [if_pos hc8] at hF
          refine lv_aload_n hx hb dX4_firstOther_28 rfl (lv_at hl 0 rfl) ?_
          obtain ⟨r9, er9, hF⟩ := cp_bind hF
          refine cp_getR (T := TX4) (N := 12) (ci := 4) (j := 2) hx hb htT hinX4 hown hK hP rfl (by decide) rfl (htT _ tw_99) er9 dX4_firstOther_29 ?_
          refine lv_iload_n hx hb dX4_firstOther_32 rfl (lv_at hl 2 rfl) ?_
          obtain ⟨v10, ev10, hF⟩ := cp_bind hF
          refine cp_bald hx hb hK hP ev10 dX4_firstOther_33 ?_
          refine lv_aload_n hx hb dX4_firstOther_34 rfl (lv_at hl 1 rfl) ?_
          obtain ⟨r11, er11, hF⟩ := cp_bind hF
          refine cp_getR (T := TX4) (N := 12) (ci := 4) (j := 2) hx hb htT hinX4 hown hK hP rfl (by decide) rfl (htT _ tw_99) er11 dX4_firstOther_35 ?_
          refine lv_iload_n hx hb dX4_firstOther_38 rfl (lv_at hl 2 rfl) ?_
          obtain ⟨v12, ev12, hF⟩ := cp_bind hF
          refine cp_bald hx hb hK hP ev12 dX4_firstOther_39 ?_
          refine lv_icmp_ne (tgt := 52) hx hb dX4_firstOther_40 (by decide) (fun hc13 => ?_) (fun hc13 => ?_)
          · rw [if_neg hc13] at hF
            refine lv_iload_n hx hb dX4_firstOther_52 rfl (lv_at hl 2 rfl) ?_
            exact cp_iret hx hb hr hlocks hF hP hS dX4_firstOther_53
          · rw [if_pos hc13] at hF
            refine lv_aload_n hx hb dX4_firstOther_43 rfl (lv_at hl 0 rfl) ?_
            refine lv_aload_n hx hb dX4_firstOther_44 rfl (lv_at hl 1 rfl) ?_
            refine lv_iload_n hx hb dX4_firstOther_45 rfl (lv_at hl 2 rfl) ?_
            obtain ⟨f14, ef14, hF⟩ := cp_bind hF
            obtain ⟨y15, ey15, hF⟩ := cp_bind hF
            refine cp_call (st1 := [.int y15.1]) (va_runV (As := [.ref (L.2.1 a1), .int i2]) (rest := []) ⟨hx, hb, hml, hown, htT⟩ (ct_X4_hasOtherDweller l G L hJ q a0 a1 i2 D y15 ey15) ⟨callB_of 2 htT gdX4_hasOtherDweller rfl rfl rfl (htT _ tw_4) (htT _ tw_366) hdX4_hasOtherDweller ⟨Nat.le_of_ble_eq_true rfl, Nat.le_of_ble_eq_true rfl⟩, (htT _ tw_367), (htT _ tw_572)⟩ ⟨cp_blind, cp_recv hK hP rfl ef14, cp_pre hP hK hN hZ hS⟩ rfl rfl hl.1 rfl (lv_room (Nat.le_of_ble_eq_true rfl)) dX4_firstOther_46 ⟨Nat.zero_le _, Nat.zero_le _⟩) hS (fun H locs hP hS => ?_)
            refine lv_if_eq (tgt := 54) hx hb dX4_firstOther_49 (by decide) (fun hc16 => ?_) (fun hc16 => ?_)
            · rw [if_pos hc16] at hF
              refine lv_iinc (k := 2) (v := (i2 + 1)) (lv' := [(2, .int (i2 + 1)), (0, .ref (L.2.1 a0)), (1, .ref (L.2.1 a1))]) hx hb dX4_firstOther_54 hl rfl (congrArg (fun z => i2 + z) (by decide)) (by decide) rfl (fun ls hl => ?_)
              refine lv_goto (tgt := 2) hx hb dX4_firstOther_57 (by decide) ?_
              exact ih a0 a1 (i2 + 1) y15.2 _ _ _ hF hP hS (lv_sub hl [1, 2, 0] rfl)
            · rw [if_neg hc16] at hF
              refine lv_iload_n hx hb dX4_firstOther_52 rfl (lv_at hl 2 rfl) ?_
              exact cp_iret hx hb hr hlocks hF hP hS dX4_firstOther_53
  unfold fn_X4_firstOther at hF
  refine lv_iconst (v := (0 : Int32)) hx hb dX4_firstOther_0 (by decide) ?_
  refine lv_istore_n (lv' := [(2, .int (0 : Int32)), (0, .ref (L.2.1 k0)), (1, .ref (L.2.1 k1))]) hx hb dX4_firstOther_1 rfl hl (by decide) rfl (fun ls hl => ?_)
  exact hL2 q k0 k1 (0 : Int32) D _ _ _ hF hP hS (lv_sub hl [1, 2, 0] rfl)
theorem dX3_act_0 : decode cX3_act 0 = .ok (.iload_n 2, 1) := by decide +kernel
theorem dX3_act_1 : decode cX3_act 1 = .ok (.tableswitch 123 16 21 #[39, 54, 71, 79, 91, 115], 39) := by decide +kernel
theorem dX3_act_40 : decode cX3_act 40 = .ok (.aload_n 1, 1) := by decide +kernel
theorem dX3_act_41 : decode cX3_act 41 = .ok (.aload_n 1, 1) := by decide +kernel
theorem dX3_act_42 : decode cX3_act 42 = .ok (.getfield 110, 3) := by decide +kernel
theorem dX3_act_45 : decode cX3_act 45 = .ok (.iload_n 3, 1) := by decide +kernel
theorem dX3_act_46 : decode cX3_act 46 = .ok (.iadd, 1) := by decide +kernel
theorem dX3_act_47 : decode cX3_act 47 = .ok (.iconst 3, 1) := by decide +kernel
theorem dX3_act_48 : decode cX3_act 48 = .ok (.iand, 1) := by decide +kernel
theorem dX3_act_49 : decode cX3_act 49 = .ok (.putfield 110, 3) := by decide +kernel
theorem dX3_act_52 : decode cX3_act 52 = .ok (.goto 72, 3) := by decide +kernel
theorem dX3_act_55 : decode cX3_act 55 = .ok (.aload_n 0, 1) := by decide +kernel
theorem dX3_act_56 : decode cX3_act 56 = .ok (.getfield 11, 3) := by decide +kernel
theorem dX3_act_59 : decode cX3_act 59 = .ok (.aload_n 1, 1) := by decide +kernel
theorem dX3_act_60 : decode cX3_act 60 = .ok (.iconst 2, 1) := by decide +kernel
theorem dX3_act_61 : decode cX3_act 61 = .ok (.invokevirtual 38, 3) := by decide +kernel
theorem dX3_act_64 : decode cX3_act 64 = .ok (.aload_n 0, 1) := by decide +kernel
theorem dX3_act_65 : decode cX3_act 65 = .ok (.aload_n 1, 1) := by decide +kernel
theorem dX3_act_66 : decode cX3_act 66 = .ok (.invokevirtual 122, 3) := by decide +kernel
theorem dX3_act_69 : decode cX3_act 69 = .ok (.goto 55, 3) := by decide +kernel
theorem dX3_act_72 : decode cX3_act 72 = .ok (.aload_n 0, 1) := by decide +kernel
theorem dX3_act_73 : decode cX3_act 73 = .ok (.aload_n 1, 1) := by decide +kernel
theorem dX3_act_74 : decode cX3_act 74 = .ok (.invokevirtual 125, 3) := by decide +kernel
theorem dX3_act_77 : decode cX3_act 77 = .ok (.goto 47, 3) := by decide +kernel
theorem dX3_act_80 : decode cX3_act 80 = .ok (.aload_n 0, 1) := by decide +kernel
theorem dX3_act_81 : decode cX3_act 81 = .ok (.aload_n 1, 1) := by decide +kernel
theorem dX3_act_82 : decode cX3_act 82 = .ok (.iload_n 3, 1) := by decide +kernel
theorem dX3_act_83 : decode cX3_act 83 = .ok (.bipush 63, 2) := by decide +kernel
theorem dX3_act_85 : decode cX3_act 85 = .ok (.iand, 1) := by decide +kernel
theorem dX3_act_86 : decode cX3_act 86 = .ok (.invokevirtual 128, 3) := by decide +kernel
theorem dX3_act_89 : decode cX3_act 89 = .ok (.goto 35, 3) := by decide +kernel
theorem dX3_act_92 : decode cX3_act 92 = .ok (.aload_n 0, 1) := by decide +kernel
theorem dX3_act_93 : decode cX3_act 93 = .ok (.getfield 11, 3) := by decide +kernel
theorem dX3_act_96 : decode cX3_act 96 = .ok (.getfield 107, 3) := by decide +kernel
theorem dX3_act_99 : decode cX3_act 99 = .ok (.aload_n 1, 1) := by decide +kernel
theorem dX3_act_100 : decode cX3_act 100 = .ok (.getfield 119, 3) := by decide +kernel
theorem dX3_act_103 : decode cX3_act 103 = .ok (.aload_n 1, 1) := by decide +kernel
theorem dX3_act_104 : decode cX3_act 104 = .ok (.getfield 79, 3) := by decide +kernel
theorem dX3_act_107 : decode cX3_act 107 = .ok (.iload_n 3, 1) := by decide +kernel
theorem dX3_act_108 : decode cX3_act 108 = .ok (.bipush 7, 2) := by decide +kernel
theorem dX3_act_110 : decode cX3_act 110 = .ok (.iand, 1) := by decide +kernel
theorem dX3_act_111 : decode cX3_act 111 = .ok (.baload, 1) := by decide +kernel
theorem dX3_act_112 : decode cX3_act 112 = .ok (.bastore, 1) := by decide +kernel
theorem dX3_act_113 : decode cX3_act 113 = .ok (.goto 11, 3) := by decide +kernel
theorem dX3_act_116 : decode cX3_act 116 = .ok (.aload_n 1, 1) := by decide +kernel
theorem dX3_act_117 : decode cX3_act 117 = .ok (.iconst 1, 1) := by decide +kernel
theorem dX3_act_118 : decode cX3_act 118 = .ok (.putfield 31, 3) := by decide +kernel
theorem dX3_act_121 : decode cX3_act 121 = .ok (.goto 3, 3) := by decide +kernel
theorem dX3_act_124 : decode cX3_act 124 = .ok (.return_, 1) := by decide +kernel
def fn_X3_act (L : cp_Lay) (q : Nat) (k0 : Nat) (k1 : Nat) (x2 : Int32) (x3 : Int32) (D : cp_Dt) : Option (cp_Dt) :=
  if x2 = (16 : Int32) then ((cp_gI L D k1 1 6).bind fun v2 =>
  (cp_pI L D k1 1 6 ((v2 + x3) &&& (3 : Int32))).bind fun D3 =>
  some D3)
  else if x2 = (17 : Int32) then ((cp_gR L k0 3 0).bind fun r5 =>
  (cp_fl L r5 4).bind fun f6 =>
  (fn_X4_pay L q r5 k1 (2 : Int32) D).bind fun D7 =>
  (cp_fl L k0 3).bind fun f8 =>
  (fn_X3_goAhead L q k0 k1 D7).bind fun D9 =>
  some D9)
  else if x2 = (18 : Int32) then ((cp_fl L k0 3).bind fun f11 =>
  (fn_X3_eat L q k0 k1 D).bind fun D12 =>
  some D12)
  else if x2 = (19 : Int32) then ((cp_fl L k0 3).bind fun f14 =>
  (fn_X3_give L q k0 k1 (x3 &&& (63 : Int32)) D).bind fun D15 =>
  some D15)
  else if x2 = (20 : Int32) then ((cp_gR L k0 3 0).bind fun r17 =>
  (cp_gR L r17 4 2).bind fun r18 =>
  (cp_gI L D k1 1 5).bind fun v19 =>
  (cp_gR L k1 1 0).bind fun r20 =>
  (cp_aI L D 1 r20 (x3 &&& (7 : Int32))).bind fun v21 =>
  (cp_aS L D 1 r18 v19 v21.toInt8.toInt32).bind fun D22 =>
  some D22)
  else if x2 = (21 : Int32) then ((cp_pZ L D k1 1 4 (1 : Int32)).bind fun D24 =>
  some D24)
  else (some D)
set_option maxHeartbeats 4000000 in
set_option maxRecDepth 100000 in
theorem ct_X3_act (l : Launch) (G : va_G) (L : cp_Lay) (hJ : cp_J L) (q : Nat) (k0 : Nat) (k1 : Nat) (x2 : Int32) (x3 : Int32) (D : cp_Dt) (res : cp_Dt) (hF : fn_X3_act L q k0 k1 x2 x3 D = some res) : cp_Met l G yX3_act wsX3_act ({ frames := 2, cells := 0, slots := 0, locals := 45 }) L ([.ref (L.2.1 k0), .ref (L.2.1 k1), .int x2, .int x3] : List Value) D res none := by
  refine Met.ofW (cc := cX3_act) (maxL := 4) (ret := none) (by decide) rfl ?_
  intro p e s m args below meth c s₁ B hml hv
  obtain ⟨rfl, hP, hK, hN, hZ⟩ := hv
  have hx := B.exec
  have hb := B.bytes
  have hr := B.returns
  have hts := atoms_spec (ws := wsX3_act) B.pre
  have hown : s.vm.findClass "CreaturePond$Mind" = some m.cls := findClass_of_methodNamed B.named
  have hlocks := B.notSynchronized
  have hS : va_S (cp_A L) s.heap s.heap [] := va_S.rf
  have htT : ∀ w ∈ cp_T, w.before ([.ref (L.2.1 k0), .ref (L.2.1 k1), .int x2, .int x3] : List Value).toArray s = true := fun w h => hts w (List.mem_cons_of_mem _ h)
  have hl := lv_entry (([.ref (L.2.1 k0), .ref (L.2.1 k1), .int x2, .int x3] : List Value)) (n := 4) (Nat.le_of_ble_eq_true rfl)
  rw [lg_entry_eq]
  generalize (lg_sl (([.ref (L.2.1 k0), .ref (L.2.1 k1), .int x2, .int x3] : List Value)) ++ List.replicate (4 - (lg_sl (([.ref (L.2.1 k0), .ref (L.2.1 k1), .int x2, .int x3] : List Value))).length) Slot.unset).toArray = ls at hl ⊢
  have hl : lv_has ls 4 [(0, .ref (L.2.1 k0)), (1, .ref (L.2.1 k1)), (2, .int x2), (3, .int x3)] := hl
  unfold fn_X3_act at hF
  refine lv_iload_n hx hb dX3_act_0 rfl (lv_at hl 2 rfl) ?_
  by_cases hc1 : x2 = (16 : Int32)
  · rw [if_pos hc1] at hF
    refine lv_tableIn (tgt := 40) hx hb dX3_act_1 (by rw [hc1]; decide) (by rw [hc1]; decide) (by rw [hc1]; rfl) (by decide) ?_
    refine lv_aload_n hx hb dX3_act_40 rfl (lv_at hl 1 rfl) ?_
    refine lv_aload_n hx hb dX3_act_41 rfl (lv_at hl 1 rfl) ?_
    obtain ⟨v2, ev2, hF⟩ := cp_bind hF
    refine cp_getIN (T := TX1) (N := 14) (ci := 1) (j := 6) hx hb htT hinX1 hown hK hP rfl (by decide) rfl (hN _ (List.mem_of_getElem? (i := 22) rfl)) ev2 dX3_act_42 ?_
    refine lv_iload_n hx hb dX3_act_45 rfl (lv_at hl 3 rfl) ?_
    refine lv_iadd hx hb dX3_act_46 ?_
    refine lv_iconst (v := (3 : Int32)) hx hb dX3_act_47 (by decide) ?_
    refine lv_iand hx hb dX3_act_48 ?_
    obtain ⟨D3, eD3, hF⟩ := cp_bind hF
    refine cp_putN (T := TX1) (N := 14) (ci := 1) (j := 6) hx hb htT hinX1 tyX1 tyX1_ok nmX1 hown hK hJ hP hS rfl (by decide) rfl (hN _ (List.mem_of_getElem? (i := 22) rfl)) rfl rfl rfl eD3 dX3_act_49 (fun H locs hP hS => ?_)
    refine lv_goto (tgt := 124) hx hb dX3_act_52 (by decide) ?_
    exact cp_vret hx hb hr hlocks hF hP hS dX3_act_124
  · rw [if_neg hc1] at hF
    by_cases hc4 : x2 = (17 : Int32)
    · rw [if_pos hc4] at hF
      refine lv_tableIn (tgt := 55) hx hb dX3_act_1 (by rw [hc4]; decide) (by rw [hc4]; decide) (by rw [hc4]; rfl) (by decide) ?_
      refine lv_aload_n hx hb dX3_act_55 rfl (lv_at hl 0 rfl) ?_
      obtain ⟨r5, er5, hF⟩ := cp_bind hF
      refine cp_getR (T := TX3) (N := 1) (ci := 3) (j := 0) hx hb htT hinX3 hown hK hP rfl (by decide) rfl (htT _ tw_126) er5 dX3_act_56 ?_
      refine lv_aload_n hx hb dX3_act_59 rfl (lv_at hl 1 rfl) ?_
      refine lv_iconst (v := (2 : Int32)) hx hb dX3_act_60 (by decide) ?_
      obtain ⟨f6, ef6, hF⟩ := cp_bind hF
      obtain ⟨D7, eD7, hF⟩ := cp_bind hF
      refine cp_call (st1 := []) (va_runVN (As := [.ref (L.2.1 k1), .int (2 : Int32)]) (rest := []) ⟨hx, hb, hml, hown, htT⟩ (ct_X4_pay l G L hJ q r5 k1 (2 : Int32) D D7 eD7) ⟨va_cnB 2 htT gdX4_pay rfl rfl rfl (hN _ (List.mem_of_getElem? (i := 72) rfl)) (htT _ tw_4) hdX4_pay ⟨Nat.le_of_ble_eq_true rfl, Nat.le_of_ble_eq_true rfl⟩, (htT _ tw_266), (htT _ tw_545)⟩ ⟨cp_blind, cp_recv hK hP rfl ef6, cp_pre hP hK hN hZ hS⟩ rfl rfl hl.1 rfl (lv_room (Nat.le_of_ble_eq_true rfl)) dX3_act_61 ⟨Nat.zero_le _, Nat.zero_le _⟩) hS (fun H locs hP hS => ?_)
      refine lv_aload_n hx hb dX3_act_64 rfl (lv_at hl 0 rfl) ?_
      refine lv_aload_n hx hb dX3_act_65 rfl (lv_at hl 1 rfl) ?_
      obtain ⟨f8, ef8, hF⟩ := cp_bind hF
      obtain ⟨D9, eD9, hF⟩ := cp_bind hF
      refine cp_call (st1 := []) (va_runV (As := [.ref (L.2.1 k1)]) (rest := []) ⟨hx, hb, hml, hown, htT⟩ (ct_X3_goAhead l G L hJ q k0 k1 D7 D9 eD9) ⟨callB_of 1 htT gdX3_goAhead rfl rfl rfl (htT _ tw_6) (htT _ tw_281) hdX3_goAhead ⟨Nat.le_of_ble_eq_true rfl, Nat.le_of_ble_eq_true rfl⟩, (htT _ tw_282), (htT _ tw_550)⟩ ⟨cp_blind, cp_recv hK hP rfl ef8, cp_pre hP hK hN hZ hS⟩ rfl rfl hl.1 rfl (lv_room (Nat.le_of_ble_eq_true rfl)) dX3_act_66 ⟨Nat.zero_le _, Nat.zero_le _⟩) hS (fun H locs hP hS => ?_)
      refine lv_goto (tgt := 124) hx hb dX3_act_69 (by decide) ?_
      exact cp_vret hx hb hr hlocks hF hP hS dX3_act_124
    · rw [if_neg hc4] at hF
      by_cases hc10 : x2 = (18 : Int32)
      · rw [if_pos hc10] at hF
        refine lv_tableIn (tgt := 72) hx hb dX3_act_1 (by rw [hc10]; decide) (by rw [hc10]; decide) (by rw [hc10]; rfl) (by decide) ?_
        refine lv_aload_n hx hb dX3_act_72 rfl (lv_at hl 0 rfl) ?_
        refine lv_aload_n hx hb dX3_act_73 rfl (lv_at hl 1 rfl) ?_
        obtain ⟨f11, ef11, hF⟩ := cp_bind hF
        obtain ⟨D12, eD12, hF⟩ := cp_bind hF
        refine cp_call (st1 := []) (va_runV (As := [.ref (L.2.1 k1)]) (rest := []) ⟨hx, hb, hml, hown, htT⟩ (ct_X3_eat l G L hJ q k0 k1 D D12 eD12) ⟨callB_of 1 htT gdX3_eat rfl rfl rfl (htT _ tw_6) (htT _ tw_286) hdX3_eat ⟨Nat.le_of_ble_eq_true rfl, Nat.le_of_ble_eq_true rfl⟩, (htT _ tw_287), (htT _ tw_552)⟩ ⟨cp_blind, cp_recv hK hP rfl ef11, cp_pre hP hK hN hZ hS⟩ rfl rfl hl.1 rfl (lv_room (Nat.le_of_ble_eq_true rfl)) dX3_act_74 ⟨Nat.zero_le _, Nat.zero_le _⟩) hS (fun H locs hP hS => ?_)
        refine lv_goto (tgt := 124) hx hb dX3_act_77 (by decide) ?_
        exact cp_vret hx hb hr hlocks hF hP hS dX3_act_124
      · rw [if_neg hc10] at hF
        by_cases hc13 : x2 = (19 : Int32)
        · rw [if_pos hc13] at hF
          refine lv_tableIn (tgt := 80) hx hb dX3_act_1 (by rw [hc13]; decide) (by rw [hc13]; decide) (by rw [hc13]; rfl) (by decide) ?_
          refine lv_aload_n hx hb dX3_act_80 rfl (lv_at hl 0 rfl) ?_
          refine lv_aload_n hx hb dX3_act_81 rfl (lv_at hl 1 rfl) ?_
          refine lv_iload_n hx hb dX3_act_82 rfl (lv_at hl 3 rfl) ?_
          refine lv_bipush (v := (63 : Int32)) hx hb dX3_act_83 (by decide) ?_
          refine lv_iand hx hb dX3_act_85 ?_
          obtain ⟨f14, ef14, hF⟩ := cp_bind hF
          obtain ⟨D15, eD15, hF⟩ := cp_bind hF
          refine cp_call (st1 := []) (va_runV (As := [.ref (L.2.1 k1), .int (x3 &&& (63 : Int32))]) (rest := []) ⟨hx, hb, hml, hown, htT⟩ (ct_X3_give l G L hJ q k0 k1 (x3 &&& (63 : Int32)) D D15 eD15) ⟨callB_of 2 htT gdX3_give rfl rfl rfl (htT _ tw_6) (htT _ tw_290) hdX3_give ⟨Nat.le_of_ble_eq_true rfl, Nat.le_of_ble_eq_true rfl⟩, (htT _ tw_291), (htT _ tw_553)⟩ ⟨cp_blind, cp_recv hK hP rfl ef14, cp_pre hP hK hN hZ hS⟩ rfl rfl hl.1 rfl (lv_room (Nat.le_of_ble_eq_true rfl)) dX3_act_86 ⟨Nat.zero_le _, Nat.zero_le _⟩) hS (fun H locs hP hS => ?_)
          refine lv_goto (tgt := 124) hx hb dX3_act_89 (by decide) ?_
          exact cp_vret hx hb hr hlocks hF hP hS dX3_act_124
        · rw [if_neg hc13] at hF
          by_cases hc16 : x2 = (20 : Int32)
          · rw [if_pos hc16] at hF
            refine lv_tableIn (tgt := 92) hx hb dX3_act_1 (by rw [hc16]; decide) (by rw [hc16]; decide) (by rw [hc16]; rfl) (by decide) ?_
            refine lv_aload_n hx hb dX3_act_92 rfl (lv_at hl 0 rfl) ?_
            obtain ⟨r17, er17, hF⟩ := cp_bind hF
            refine cp_getR (T := TX3) (N := 1) (ci := 3) (j := 0) hx hb htT hinX3 hown hK hP rfl (by decide) rfl (htT _ tw_126) er17 dX3_act_93 ?_
            obtain ⟨r18, er18, hF⟩ := cp_bind hF
            refine cp_getRN (T := TX4) (N := 12) (ci := 4) (j := 2) hx hb htT hinX4 hown hK hP rfl (by decide) rfl (hN _ (List.mem_of_getElem? (i := 39) rfl)) er18 dX3_act_96 ?_
            refine lv_aload_n hx hb dX3_act_99 rfl (lv_at hl 1 rfl) ?_
            obtain ⟨v19, ev19, hF⟩ := cp_bind hF
            refine cp_getIN (T := TX1) (N := 14) (ci := 1) (j := 5) hx hb htT hinX1 hown hK hP rfl (by decide) rfl (hN _ (List.mem_of_getElem? (i := 18) rfl)) ev19 dX3_act_100 ?_
            refine lv_aload_n hx hb dX3_act_103 rfl (lv_at hl 1 rfl) ?_
            obtain ⟨r20, er20, hF⟩ := cp_bind hF
            refine cp_getRN (T := TX1) (N := 14) (ci := 1) (j := 0) hx hb htT hinX1 hown hK hP rfl (by decide) rfl (hN _ (List.mem_of_getElem? (i := 5) rfl)) er20 dX3_act_104 ?_
            refine lv_iload_n hx hb dX3_act_107 rfl (lv_at hl 3 rfl) ?_
            refine lv_bipush (v := (7 : Int32)) hx hb dX3_act_108 (by decide) ?_
            refine lv_iand hx hb dX3_act_110 ?_
            obtain ⟨v21, ev21, hF⟩ := cp_bind hF
            refine cp_bald hx hb hK hP ev21 dX3_act_111 ?_
            obtain ⟨D22, eD22, hF⟩ := cp_bind hF
            refine cp_bast hx hb hK hJ hP hS eD22 dX3_act_112 (fun H locs hP hS => ?_)
            refine lv_goto (tgt := 124) hx hb dX3_act_113 (by decide) ?_
            exact cp_vret hx hb hr hlocks hF hP hS dX3_act_124
          · rw [if_neg hc16] at hF
            by_cases hc23 : x2 = (21 : Int32)
            · rw [if_pos hc23] at hF
              refine lv_tableIn (tgt := 116) hx hb dX3_act_1 (by rw [hc23]; decide) (by rw [hc23]; decide) (by rw [hc23]; rfl) (by decide) ?_
              refine lv_aload_n hx hb dX3_act_116 rfl (lv_at hl 1 rfl) ?_
              refine lv_iconst (v := (1 : Int32)) hx hb dX3_act_117 (by decide) ?_
              obtain ⟨D24, eD24, hF⟩ := cp_bind hF
              refine cp_putN (T := TX1) (N := 14) (ci := 1) (j := 4) hx hb htT hinX1 tyX1 tyX1_ok nmX1 hown hK hJ hP hS rfl (by decide) rfl (hN _ (List.mem_of_getElem? (i := 14) rfl)) rfl (cp_pZ_spec eD24).2.1 (cp_pZ_spec eD24).2.2 (cp_pZ_spec eD24).1 dX3_act_118 (fun H locs hP hS => ?_)
              refine lv_goto (tgt := 124) hx hb dX3_act_121 (by decide) ?_
              exact cp_vret hx hb hr hlocks hF hP hS dX3_act_124
            · rw [if_neg hc23] at hF
              have zhc1 := lv_neT (a := 16) hc1 (by decide)
              have zhc4 := lv_neT (a := 17) hc4 (by decide)
              have zhc10 := lv_neT (a := 18) hc10 (by decide)
              have zhc13 := lv_neT (a := 19) hc13 (by decide)
              have zhc16 := lv_neT (a := 20) hc16 (by decide)
              have zhc23 := lv_neT (a := 21) hc23 (by decide)
              refine lv_tableOut (tgt := 124) hx hb dX3_act_1 (by omega) (by decide) ?_
              exact cp_vret hx hb hr hlocks hF hP hS dX3_act_124
theorem dX3_reckon_0 : decode cX3_reckon 0 = .ok (.aload_n 1, 1) := by decide +kernel
theorem dX3_reckon_1 : decode cX3_reckon 1 = .ok (.getfield 79, 3) := by decide +kernel
theorem dX3_reckon_4 : decode cX3_reckon 4 = .ok (.iload_n 3, 1) := by decide +kernel
theorem dX3_reckon_5 : decode cX3_reckon 5 = .ok (.bipush 7, 2) := by decide +kernel
theorem dX3_reckon_7 : decode cX3_reckon 7 = .ok (.iand, 1) := by decide +kernel
theorem dX3_reckon_8 : decode cX3_reckon 8 = .ok (.baload, 1) := by decide +kernel
theorem dX3_reckon_9 : decode cX3_reckon 9 = .ok (.istore 5, 2) := by decide +kernel
theorem dX3_reckon_11 : decode cX3_reckon 11 = .ok (.aload_n 1, 1) := by decide +kernel
theorem dX3_reckon_12 : decode cX3_reckon 12 = .ok (.getfield 79, 3) := by decide +kernel
theorem dX3_reckon_15 : decode cX3_reckon 15 = .ok (.iload 4, 2) := by decide +kernel
theorem dX3_reckon_17 : decode cX3_reckon 17 = .ok (.bipush 7, 2) := by decide +kernel
theorem dX3_reckon_19 : decode cX3_reckon 19 = .ok (.iand, 1) := by decide +kernel
theorem dX3_reckon_20 : decode cX3_reckon 20 = .ok (.baload, 1) := by decide +kernel
theorem dX3_reckon_21 : decode cX3_reckon 21 = .ok (.istore 6, 2) := by decide +kernel
theorem dX3_reckon_23 : decode cX3_reckon 23 = .ok (.iload_n 2, 1) := by decide +kernel
theorem dX3_reckon_24 : decode cX3_reckon 24 = .ok (.tableswitch 153 1 15 #[76, 79, 82, 88, 94, 100, 106, 111, 120, 153, 153, 153, 153, 133, 143], 76) := by decide +kernel
theorem dX3_reckon_100 : decode cX3_reckon 100 = .ok (.iload 4, 2) := by decide +kernel
theorem dX3_reckon_102 : decode cX3_reckon 102 = .ok (.ireturn, 1) := by decide +kernel
theorem dX3_reckon_103 : decode cX3_reckon 103 = .ok (.iload 6, 2) := by decide +kernel
theorem dX3_reckon_105 : decode cX3_reckon 105 = .ok (.ireturn, 1) := by decide +kernel
theorem dX3_reckon_106 : decode cX3_reckon 106 = .ok (.iload 5, 2) := by decide +kernel
theorem dX3_reckon_108 : decode cX3_reckon 108 = .ok (.iload 6, 2) := by decide +kernel
theorem dX3_reckon_110 : decode cX3_reckon 110 = .ok (.iadd, 1) := by decide +kernel
theorem dX3_reckon_111 : decode cX3_reckon 111 = .ok (.ireturn, 1) := by decide +kernel
theorem dX3_reckon_112 : decode cX3_reckon 112 = .ok (.iload 5, 2) := by decide +kernel
theorem dX3_reckon_114 : decode cX3_reckon 114 = .ok (.iload 6, 2) := by decide +kernel
theorem dX3_reckon_116 : decode cX3_reckon 116 = .ok (.isub, 1) := by decide +kernel
theorem dX3_reckon_117 : decode cX3_reckon 117 = .ok (.ireturn, 1) := by decide +kernel
theorem dX3_reckon_118 : decode cX3_reckon 118 = .ok (.iload 5, 2) := by decide +kernel
theorem dX3_reckon_120 : decode cX3_reckon 120 = .ok (.iload 6, 2) := by decide +kernel
theorem dX3_reckon_122 : decode cX3_reckon 122 = .ok (.iand, 1) := by decide +kernel
theorem dX3_reckon_123 : decode cX3_reckon 123 = .ok (.ireturn, 1) := by decide +kernel
theorem dX3_reckon_124 : decode cX3_reckon 124 = .ok (.iload 5, 2) := by decide +kernel
theorem dX3_reckon_126 : decode cX3_reckon 126 = .ok (.iload 6, 2) := by decide +kernel
theorem dX3_reckon_128 : decode cX3_reckon 128 = .ok (.ixor, 1) := by decide +kernel
theorem dX3_reckon_129 : decode cX3_reckon 129 = .ok (.ireturn, 1) := by decide +kernel
theorem dX3_reckon_130 : decode cX3_reckon 130 = .ok (.iload 5, 2) := by decide +kernel
theorem dX3_reckon_132 : decode cX3_reckon 132 = .ok (.iconst 2, 1) := by decide +kernel
theorem dX3_reckon_133 : decode cX3_reckon 133 = .ok (.imul, 1) := by decide +kernel
theorem dX3_reckon_134 : decode cX3_reckon 134 = .ok (.ireturn, 1) := by decide +kernel
theorem dX3_reckon_135 : decode cX3_reckon 135 = .ok (.iload 5, 2) := by decide +kernel
theorem dX3_reckon_137 : decode cX3_reckon 137 = .ok (.sipush 255, 3) := by decide +kernel
theorem dX3_reckon_140 : decode cX3_reckon 140 = .ok (.iand, 1) := by decide +kernel
theorem dX3_reckon_141 : decode cX3_reckon 141 = .ok (.iconst 1, 1) := by decide +kernel
theorem dX3_reckon_142 : decode cX3_reckon 142 = .ok (.ishr, 1) := by decide +kernel
theorem dX3_reckon_143 : decode cX3_reckon 143 = .ok (.ireturn, 1) := by decide +kernel
theorem dX3_reckon_144 : decode cX3_reckon 144 = .ok (.aload_n 1, 1) := by decide +kernel
theorem dX3_reckon_145 : decode cX3_reckon 145 = .ok (.getfield 71, 3) := by decide +kernel
theorem dX3_reckon_148 : decode cX3_reckon 148 = .ok (.aload_n 0, 1) := by decide +kernel
theorem dX3_reckon_149 : decode cX3_reckon 149 = .ok (.aload_n 1, 1) := by decide +kernel
theorem dX3_reckon_150 : decode cX3_reckon 150 = .ok (.iload 4, 2) := by decide +kernel
theorem dX3_reckon_152 : decode cX3_reckon 152 = .ok (.invokevirtual 75, 3) := by decide +kernel
theorem dX3_reckon_155 : decode cX3_reckon 155 = .ok (.baload, 1) := by decide +kernel
theorem dX3_reckon_156 : decode cX3_reckon 156 = .ok (.ireturn, 1) := by decide +kernel
theorem dX3_reckon_157 : decode cX3_reckon 157 = .ok (.aload_n 0, 1) := by decide +kernel
theorem dX3_reckon_158 : decode cX3_reckon 158 = .ok (.aload_n 1, 1) := by decide +kernel
theorem dX3_reckon_159 : decode cX3_reckon 159 = .ok (.iload 4, 2) := by decide +kernel
theorem dX3_reckon_161 : decode cX3_reckon 161 = .ok (.iconst 3, 1) := by decide +kernel
theorem dX3_reckon_162 : decode cX3_reckon 162 = .ok (.iand, 1) := by decide +kernel
theorem dX3_reckon_163 : decode cX3_reckon 163 = .ok (.invokevirtual 90, 3) := by decide +kernel
theorem dX3_reckon_166 : decode cX3_reckon 166 = .ok (.ireturn, 1) := by decide +kernel
theorem dX3_reckon_167 : decode cX3_reckon 167 = .ok (.aload_n 0, 1) := by decide +kernel
theorem dX3_reckon_168 : decode cX3_reckon 168 = .ok (.aload_n 1, 1) := by decide +kernel
theorem dX3_reckon_169 : decode cX3_reckon 169 = .ok (.iload 4, 2) := by decide +kernel
theorem dX3_reckon_171 : decode cX3_reckon 171 = .ok (.iconst 3, 1) := by decide +kernel
theorem dX3_reckon_172 : decode cX3_reckon 172 = .ok (.iand, 1) := by decide +kernel
theorem dX3_reckon_173 : decode cX3_reckon 173 = .ok (.invokevirtual 94, 3) := by decide +kernel
theorem dX3_reckon_176 : decode cX3_reckon 176 = .ok (.ireturn, 1) := by decide +kernel
theorem dX3_reckon_177 : decode cX3_reckon 177 = .ok (.iload 5, 2) := by decide +kernel
theorem dX3_reckon_179 : decode cX3_reckon 179 = .ok (.ireturn, 1) := by decide +kernel
def fn_X3_reckon (L : cp_Lay) (q : Nat) (k0 : Nat) (k1 : Nat) (x2 : Int32) (x3 : Int32) (x4 : Int32) (D : cp_Dt) : Option (Int32 × cp_Dt) :=
  (cp_gR L k1 1 0).bind fun r1 =>
  (cp_aI L D 1 r1 (x3 &&& (7 : Int32))).bind fun v2 =>
  (cp_gR L k1 1 0).bind fun r3 =>
  (cp_aI L D 1 r3 (x4 &&& (7 : Int32))).bind fun v4 =>
  if x2 = (1 : Int32) then (some (x4, D))
  else if x2 = (2 : Int32) then (some (v4, D))
  else if x2 = (3 : Int32) then (some ((v2 + v4), D))
  else if x2 = (4 : Int32) then (some ((v2 - v4), D))
  else if x2 = (5 : Int32) then (some ((v2 &&& v4), D))
  else if x2 = (6 : Int32) then (some ((v2 ^^^ v4), D))
  else if x2 = (7 : Int32) then (some ((v2 * (2 : Int32)), D))
  else if x2 = (8 : Int32) then (some (((v2 &&& (255 : Int32)) >>> ((1 : Int32) &&& 31)), D))
  else if x2 = (9 : Int32) then ((cp_gR L k1 1 1).bind fun r14 =>
  (cp_fl L k0 3).bind fun f15 =>
  (fn_X3_memoryIndex L q k0 k1 x4 D).bind fun y16 =>
  (cp_aI L y16.2 1 r14 y16.1).bind fun v17 =>
  some (v17, y16.2))
  else if x2 = (10 : Int32) then (some (v2, D))
  else if x2 = (11 : Int32) then (some (v2, D))
  else if x2 = (12 : Int32) then (some (v2, D))
  else if x2 = (13 : Int32) then (some (v2, D))
  else if x2 = (14 : Int32) then ((cp_fl L k0 3).bind fun f23 =>
  (fn_X3_seenAhead L q k0 k1 (x4 &&& (3 : Int32)) D).bind fun y24 =>
  some (y24.1, y24.2))
  else if x2 = (15 : Int32) then ((cp_fl L k0 3).bind fun f26 =>
  (fn_X3_seenInside L q k0 k1 (x4 &&& (3 : Int32)) D).bind fun y27 =>
  some (y27.1, y27.2))
  else (some (v2, D))
set_option maxHeartbeats 4000000 in
set_option maxRecDepth 100000 in
theorem ct_X3_reckon (l : Launch) (G : va_G) (L : cp_Lay) (hJ : cp_J L) (q : Nat) (k0 : Nat) (k1 : Nat) (x2 : Int32) (x3 : Int32) (x4 : Int32) (D : cp_Dt) (res : Int32 × cp_Dt) (hF : fn_X3_reckon L q k0 k1 x2 x3 x4 D = some res) : cp_Met l G yX3_reckon wsX3_reckon ({ frames := 2, cells := 0, slots := 0, locals := 45 }) L ([.ref (L.2.1 k0), .ref (L.2.1 k1), .int x2, .int x3, .int x4] : List Value) D res.2 (some (.int res.1)) := by
  refine Met.ofW (cc := cX3_reckon) (maxL := 7) (ret := (some .int)) (by decide) rfl ?_
  intro p e s m args below meth c s₁ B hml hv
  obtain ⟨rfl, hP, hK, hN, hZ⟩ := hv
  have hx := B.exec
  have hb := B.bytes
  have hr := B.returns
  have hts := atoms_spec (ws := wsX3_reckon) B.pre
  have hown : s.vm.findClass "CreaturePond$Mind" = some m.cls := findClass_of_methodNamed B.named
  have hlocks := B.notSynchronized
  have hS : va_S (cp_A L) s.heap s.heap [] := va_S.rf
  have htT : ∀ w ∈ cp_T, w.before ([.ref (L.2.1 k0), .ref (L.2.1 k1), .int x2, .int x3, .int x4] : List Value).toArray s = true := fun w h => hts w (List.mem_cons_of_mem _ h)
  have hl := lv_entry (([.ref (L.2.1 k0), .ref (L.2.1 k1), .int x2, .int x3, .int x4] : List Value)) (n := 7) (Nat.le_of_ble_eq_true rfl)
  rw [lg_entry_eq]
  generalize (lg_sl (([.ref (L.2.1 k0), .ref (L.2.1 k1), .int x2, .int x3, .int x4] : List Value)) ++ List.replicate (7 - (lg_sl (([.ref (L.2.1 k0), .ref (L.2.1 k1), .int x2, .int x3, .int x4] : List Value))).length) Slot.unset).toArray = ls at hl ⊢
  have hl : lv_has ls 7 [(0, .ref (L.2.1 k0)), (1, .ref (L.2.1 k1)), (2, .int x2), (3, .int x3), (4, .int x4)] := hl
  unfold fn_X3_reckon at hF
  refine lv_aload_n hx hb dX3_reckon_0 rfl (lv_at hl 1 rfl) ?_
  obtain ⟨r1, er1, hF⟩ := cp_bind hF
  refine cp_getRN (T := TX1) (N := 14) (ci := 1) (j := 0) hx hb htT hinX1 hown hK hP rfl (by decide) rfl (hN _ (List.mem_of_getElem? (i := 5) rfl)) er1 dX3_reckon_1 ?_
  refine lv_iload_n hx hb dX3_reckon_4 rfl (lv_at hl 3 rfl) ?_
  refine lv_bipush (v := (7 : Int32)) hx hb dX3_reckon_5 (by decide) ?_
  refine lv_iand hx hb dX3_reckon_7 ?_
  obtain ⟨v2, ev2, hF⟩ := cp_bind hF
  refine cp_bald hx hb hK hP ev2 dX3_reckon_8 ?_
  refine lv_istore (lv' := [(5, .int v2), (0, .ref (L.2.1 k0)), (1, .ref (L.2.1 k1)), (2, .int x2), (3, .int x3), (4, .int x4)]) hx hb dX3_reckon_9 hl (by decide) rfl (fun ls hl => ?_)
  refine lv_aload_n hx hb dX3_reckon_11 rfl (lv_at hl 2 rfl) ?_
  obtain ⟨r3, er3, hF⟩ := cp_bind hF
  refine cp_getRN (T := TX1) (N := 14) (ci := 1) (j := 0) hx hb htT hinX1 hown hK hP rfl (by decide) rfl (hN _ (List.mem_of_getElem? (i := 5) rfl)) er3 dX3_reckon_12 ?_
  refine lv_iload hx hb dX3_reckon_15 (lv_at hl 5 rfl) ?_
  refine lv_bipush (v := (7 : Int32)) hx hb dX3_reckon_17 (by decide) ?_
  refine lv_iand hx hb dX3_reckon_19 ?_
  obtain ⟨v4, ev4, hF⟩ := cp_bind hF
  refine cp_bald hx hb hK hP ev4 dX3_reckon_20 ?_
  refine lv_istore (lv' := [(6, .int v4), (5, .int v2), (0, .ref (L.2.1 k0)), (1, .ref (L.2.1 k1)), (2, .int x2), (3, .int x3), (4, .int x4)]) hx hb dX3_reckon_21 hl (by decide) rfl (fun ls hl => ?_)
  refine lv_iload_n hx hb dX3_reckon_23 rfl (lv_at hl 4 rfl) ?_
  by_cases hc5 : x2 = (1 : Int32)
  · rw [if_pos hc5] at hF
    refine lv_tableIn (tgt := 100) hx hb dX3_reckon_24 (by rw [hc5]; decide) (by rw [hc5]; decide) (by rw [hc5]; rfl) (by decide) ?_
    refine lv_iload hx hb dX3_reckon_100 (lv_at hl 6 rfl) ?_
    exact cp_iret hx hb hr hlocks hF hP hS dX3_reckon_102
  · rw [if_neg hc5] at hF
    by_cases hc6 : x2 = (2 : Int32)
    · rw [if_pos hc6] at hF
      refine lv_tableIn (tgt := 103) hx hb dX3_reckon_24 (by rw [hc6]; decide) (by rw [hc6]; decide) (by rw [hc6]; rfl) (by decide) ?_
      refine lv_iload hx hb dX3_reckon_103 (lv_at hl 0 rfl) ?_
      exact cp_iret hx hb hr hlocks hF hP hS dX3_reckon_105
    · rw [if_neg hc6] at hF
      by_cases hc7 : x2 = (3 : Int32)
      · rw [if_pos hc7] at hF
        refine lv_tableIn (tgt := 106) hx hb dX3_reckon_24 (by rw [hc7]; decide) (by rw [hc7]; decide) (by rw [hc7]; rfl) (by decide) ?_
        refine lv_iload hx hb dX3_reckon_106 (lv_at hl 1 rfl) ?_
        refine lv_iload hx hb dX3_reckon_108 (lv_at hl 0 rfl) ?_
        refine lv_iadd hx hb dX3_reckon_110 ?_
        exact cp_iret hx hb hr hlocks hF hP hS dX3_reckon_111
      · rw [if_neg hc7] at hF
        by_cases hc8 : x2 = (4 : Int32)
        · rw [if_pos hc8] at hF
          refine lv_tableIn (tgt := 112) hx hb dX3_reckon_24 (by rw [hc8]; decide) (by rw [hc8]; decide) (by rw [hc8]; rfl) (by decide) ?_
          refine lv_iload hx hb dX3_reckon_112 (lv_at hl 1 rfl) ?_
          refine lv_iload hx hb dX3_reckon_114 (lv_at hl 0 rfl) ?_
          refine lv_isub hx hb dX3_reckon_116 ?_
          exact cp_iret hx hb hr hlocks hF hP hS dX3_reckon_117
        · rw [if_neg hc8] at hF
          by_cases hc9 : x2 = (5 : Int32)
          · rw [if_pos hc9] at hF
            refine lv_tableIn (tgt := 118) hx hb dX3_reckon_24 (by rw [hc9]; decide) (by rw [hc9]; decide) (by rw [hc9]; rfl) (by decide) ?_
            refine lv_iload hx hb dX3_reckon_118 (lv_at hl 1 rfl) ?_
            refine lv_iload hx hb dX3_reckon_120 (lv_at hl 0 rfl) ?_
            refine lv_iand hx hb dX3_reckon_122 ?_
            exact cp_iret hx hb hr hlocks hF hP hS dX3_reckon_123
          · rw [if_neg hc9] at hF
            by_cases hc10 : x2 = (6 : Int32)
            · rw [if_pos hc10] at hF
              refine lv_tableIn (tgt := 124) hx hb dX3_reckon_24 (by rw [hc10]; decide) (by rw [hc10]; decide) (by rw [hc10]; rfl) (by decide) ?_
              refine lv_iload hx hb dX3_reckon_124 (lv_at hl 1 rfl) ?_
              refine lv_iload hx hb dX3_reckon_126 (lv_at hl 0 rfl) ?_
              refine lv_ixor hx hb dX3_reckon_128 ?_
              exact cp_iret hx hb hr hlocks hF hP hS dX3_reckon_129
            · rw [if_neg hc10] at hF
              by_cases hc11 : x2 = (7 : Int32)
              · rw [if_pos hc11] at hF
                refine lv_tableIn (tgt := 130) hx hb dX3_reckon_24 (by rw [hc11]; decide) (by rw [hc11]; decide) (by rw [hc11]; rfl) (by decide) ?_
                refine lv_iload hx hb dX3_reckon_130 (lv_at hl 1 rfl) ?_
                refine lv_iconst (v := (2 : Int32)) hx hb dX3_reckon_132 (by decide) ?_
                refine lv_imul hx hb dX3_reckon_133 ?_
                exact cp_iret hx hb hr hlocks hF hP hS dX3_reckon_134
              · rw [if_neg hc11] at hF
                by_cases hc12 : x2 = (8 : Int32)
                · rw [if_pos hc12] at hF
                  refine lv_tableIn (tgt := 135) hx hb dX3_reckon_24 (by rw [hc12]; decide) (by rw [hc12]; decide) (by rw [hc12]; rfl) (by decide) ?_
                  refine lv_iload hx hb dX3_reckon_135 (lv_at hl 1 rfl) ?_
                  refine lv_sipush (v := (255 : Int32)) hx hb dX3_reckon_137 (by decide) ?_
                  refine lv_iand hx hb dX3_reckon_140 ?_
                  refine lv_iconst (v := (1 : Int32)) hx hb dX3_reckon_141 (by decide) ?_
                  refine lv_ishr hx hb dX3_reckon_142 ?_
                  exact cp_iret hx hb hr hlocks hF hP hS dX3_reckon_143
                · rw [if_neg hc12] at hF
                  by_cases hc13 : x2 = (9 : Int32)
                  · rw [if_pos hc13] at hF
                    refine lv_tableIn (tgt := 144) hx hb dX3_reckon_24 (by rw [hc13]; decide) (by rw [hc13]; decide) (by rw [hc13]; rfl) (by decide) ?_
                    refine lv_aload_n hx hb dX3_reckon_144 rfl (lv_at hl 3 rfl) ?_
                    obtain ⟨r14, er14, hF⟩ := cp_bind hF
                    refine cp_getRN (T := TX1) (N := 14) (ci := 1) (j := 1) hx hb htT hinX1 hown hK hP rfl (by decide) rfl (hN _ (List.mem_of_getElem? (i := 7) rfl)) er14 dX3_reckon_145 ?_
                    refine lv_aload_n hx hb dX3_reckon_148 rfl (lv_at hl 2 rfl) ?_
                    refine lv_aload_n hx hb dX3_reckon_149 rfl (lv_at hl 3 rfl) ?_
                    refine lv_iload hx hb dX3_reckon_150 (lv_at hl 6 rfl) ?_
                    obtain ⟨f15, ef15, hF⟩ := cp_bind hF
                    obtain ⟨y16, ey16, hF⟩ := cp_bind hF
                    refine cp_call (st1 := [.int y16.1, .ref (L.2.1 r14)]) (va_runV (As := [.ref (L.2.1 k1), .int x4]) (rest := [.ref (L.2.1 r14)]) ⟨hx, hb, hml, hown, htT⟩ (ct_X3_memoryIndex l G L hJ q k0 k1 x4 D y16 ey16) ⟨callB_of 2 htT gdX3_memoryIndex rfl rfl rfl (htT _ tw_6) (htT _ tw_293) hdX3_memoryIndex ⟨Nat.le_of_ble_eq_true rfl, Nat.le_of_ble_eq_true rfl⟩, (htT _ tw_294), (htT _ tw_554)⟩ ⟨cp_blind, cp_recv hK hP rfl ef15, cp_pre hP hK hN hZ hS⟩ rfl rfl hl.1 rfl (lv_room (Nat.le_of_ble_eq_true rfl)) dX3_reckon_152 ⟨Nat.zero_le _, Nat.zero_le _⟩) hS (fun H locs hP hS => ?_)
                    obtain ⟨v17, ev17, hF⟩ := cp_bind hF
                    refine cp_bald hx hb hK hP ev17 dX3_reckon_155 ?_
                    exact cp_iret hx hb hr hlocks hF hP hS dX3_reckon_156
                  · rw [if_neg hc13] at hF
                    by_cases hc18 : x2 = (10 : Int32)
                    · rw [if_pos hc18] at hF
                      refine lv_tableIn (tgt := 177) hx hb dX3_reckon_24 (by rw [hc18]; decide) (by rw [hc18]; decide) (by rw [hc18]; rfl) (by decide) ?_
                      refine lv_iload hx hb dX3_reckon_177 (lv_at hl 1 rfl) ?_
                      exact cp_iret hx hb hr hlocks hF hP hS dX3_reckon_179
                    · rw [if_neg hc18] at hF
                      by_cases hc19 : x2 = (11 : Int32)
                      · rw [if_pos hc19] at hF
                        refine lv_tableIn (tgt := 177) hx hb dX3_reckon_24 (by rw [hc19]; decide) (by rw [hc19]; decide) (by rw [hc19]; rfl) (by decide) ?_
                        refine lv_iload hx hb dX3_reckon_177 (lv_at hl 1 rfl) ?_
                        exact cp_iret hx hb hr hlocks hF hP hS dX3_reckon_179
                      · rw [if_neg hc19] at hF
                        by_cases hc20 : x2 = (12 : Int32)
                        · rw [if_pos hc20] at hF
                          refine lv_tableIn (tgt := 177) hx hb dX3_reckon_24 (by rw [hc20]; decide) (by rw [hc20]; decide) (by rw [hc20]; rfl) (by decide) ?_
                          refine lv_iload hx hb dX3_reckon_177 (lv_at hl 1 rfl) ?_
                          exact cp_iret hx hb hr hlocks hF hP hS dX3_reckon_179
                        · rw [if_neg hc20] at hF
                          by_cases hc21 : x2 = (13 : Int32)
                          · rw [if_pos hc21] at hF
                            refine lv_tableIn (tgt := 177) hx hb dX3_reckon_24 (by rw [hc21]; decide) (by rw [hc21]; decide) (by rw [hc21]; rfl) (by decide) ?_
                            refine lv_iload hx hb dX3_reckon_177 (lv_at hl 1 rfl) ?_
                            exact cp_iret hx hb hr hlocks hF hP hS dX3_reckon_179
                          · rw [if_neg hc21] at hF
                            by_cases hc22 : x2 = (14 : Int32)
                            · rw [if_pos hc22] at hF
                              refine lv_tableIn (tgt := 157) hx hb dX3_reckon_24 (by rw [hc22]; decide) (by rw [hc22]; decide) (by rw [hc22]; rfl) (by decide) ?_
                              refine lv_aload_n hx hb dX3_reckon_157 rfl (lv_at hl 2 rfl) ?_
                              refine lv_aload_n hx hb dX3_reckon_158 rfl (lv_at hl 3 rfl) ?_
                              refine lv_iload hx hb dX3_reckon_159 (lv_at hl 6 rfl) ?_
                              refine lv_iconst (v := (3 : Int32)) hx hb dX3_reckon_161 (by decide) ?_
                              refine lv_iand hx hb dX3_reckon_162 ?_
                              obtain ⟨f23, ef23, hF⟩ := cp_bind hF
                              obtain ⟨y24, ey24, hF⟩ := cp_bind hF
                              refine cp_call (st1 := [.int y24.1]) (va_runV (As := [.ref (L.2.1 k1), .int (x4 &&& (3 : Int32))]) (rest := []) ⟨hx, hb, hml, hown, htT⟩ (ct_X3_seenAhead l G L hJ q k0 k1 (x4 &&& (3 : Int32)) D y24 ey24) ⟨callB_of 2 htT gdX3_seenAhead rfl rfl rfl (htT _ tw_6) (htT _ tw_302) hdX3_seenAhead ⟨Nat.le_of_ble_eq_true rfl, Nat.le_of_ble_eq_true rfl⟩, (htT _ tw_303), (htT _ tw_557)⟩ ⟨cp_blind, cp_recv hK hP rfl ef23, cp_pre hP hK hN hZ hS⟩ rfl rfl hl.1 rfl (lv_room (Nat.le_of_ble_eq_true rfl)) dX3_reckon_163 ⟨Nat.zero_le _, Nat.zero_le _⟩) hS (fun H locs hP hS => ?_)
                              exact cp_iret hx hb hr hlocks hF hP hS dX3_reckon_166
                            · rw [if_neg hc22] at hF
                              by_cases hc25 : x2 = (15 : Int32)
                              · rw [if_pos hc25] at hF
                                refine lv_tableIn (tgt := 167) hx hb dX3_reckon_24 (by rw [hc25]; decide) (by rw [hc25]; decide) (by rw [hc25]; rfl) (by decide) ?_
                                refine lv_aload_n hx hb dX3_reckon_167 rfl (lv_at hl 2 rfl) ?_
                                refine lv_aload_n hx hb dX3_reckon_168 rfl (lv_at hl 3 rfl) ?_
                                refine lv_iload hx hb dX3_reckon_169 (lv_at hl 6 rfl) ?_
                                refine lv_iconst (v := (3 : Int32)) hx hb dX3_reckon_171 (by decide) ?_
                                refine lv_iand hx hb dX3_reckon_172 ?_
                                obtain ⟨f26, ef26, hF⟩ := cp_bind hF
                                obtain ⟨y27, ey27, hF⟩ := cp_bind hF
                                refine cp_call (st1 := [.int y27.1]) (va_runV (As := [.ref (L.2.1 k1), .int (x4 &&& (3 : Int32))]) (rest := []) ⟨hx, hb, hml, hown, htT⟩ (ct_X3_seenInside l G L hJ q k0 k1 (x4 &&& (3 : Int32)) D y27 ey27) ⟨callB_of 2 htT gdX3_seenInside rfl rfl rfl (htT _ tw_6) (htT _ tw_305) hdX3_seenInside ⟨Nat.le_of_ble_eq_true rfl, Nat.le_of_ble_eq_true rfl⟩, (htT _ tw_306), (htT _ tw_558)⟩ ⟨cp_blind, cp_recv hK hP rfl ef26, cp_pre hP hK hN hZ hS⟩ rfl rfl hl.1 rfl (lv_room (Nat.le_of_ble_eq_true rfl)) dX3_reckon_173 ⟨Nat.zero_le _, Nat.zero_le _⟩) hS (fun H locs hP hS => ?_)
                                exact cp_iret hx hb hr hlocks hF hP hS dX3_reckon_176
                              · rw [if_neg hc25] at hF
                                have zhc5 := lv_neT (a := 1) hc5 (by decide)
                                have zhc6 := lv_neT (a := 2) hc6 (by decide)
                                have zhc7 := lv_neT (a := 3) hc7 (by decide)
                                have zhc8 := lv_neT (a := 4) hc8 (by decide)
                                have zhc9 := lv_neT (a := 5) hc9 (by decide)
                                have zhc10 := lv_neT (a := 6) hc10 (by decide)
                                have zhc11 := lv_neT (a := 7) hc11 (by decide)
                                have zhc12 := lv_neT (a := 8) hc12 (by decide)
                                have zhc13 := lv_neT (a := 9) hc13 (by decide)
                                have zhc18 := lv_neT (a := 10) hc18 (by decide)
                                have zhc19 := lv_neT (a := 11) hc19 (by decide)
                                have zhc20 := lv_neT (a := 12) hc20 (by decide)
                                have zhc21 := lv_neT (a := 13) hc21 (by decide)
                                have zhc22 := lv_neT (a := 14) hc22 (by decide)
                                have zhc25 := lv_neT (a := 15) hc25 (by decide)
                                refine lv_tableOut (tgt := 177) hx hb dX3_reckon_24 (by omega) (by decide) ?_
                                refine lv_iload hx hb dX3_reckon_177 (lv_at hl 1 rfl) ?_
                                exact cp_iret hx hb hr hlocks hF hP hS dX3_reckon_179
