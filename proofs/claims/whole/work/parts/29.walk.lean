theorem dX6_tick_0 : decode cX6_tick 0 = .ok (.aload_n 0, 1) := by decide +kernel
theorem dX6_tick_1 : decode cX6_tick 1 = .ok (.iload_n 1, 1) := by decide +kernel
theorem dX6_tick_2 : decode cX6_tick 2 = .ok (.ifCond .lt 9, 3) := by decide +kernel
theorem dX6_tick_5 : decode cX6_tick 5 = .ok (.iload_n 1, 1) := by decide +kernel
theorem dX6_tick_6 : decode cX6_tick 6 = .ok (.bipush 50, 2) := by decide +kernel
theorem dX6_tick_8 : decode cX6_tick 8 = .ok (.if_icmp .le 7, 3) := by decide +kernel
theorem dX6_tick_11 : decode cX6_tick 11 = .ok (.iconst 1, 1) := by decide +kernel
theorem dX6_tick_12 : decode cX6_tick 12 = .ok (.goto 4, 3) := by decide +kernel
theorem dX6_tick_15 : decode cX6_tick 15 = .ok (.iconst 0, 1) := by decide +kernel
theorem dX6_tick_16 : decode cX6_tick 16 = .ok (.putfield 23, 3) := by decide +kernel
theorem dX6_tick_19 : decode cX6_tick 19 = .ok (.iconst 0, 1) := by decide +kernel
theorem dX6_tick_20 : decode cX6_tick 20 = .ok (.istore_n 2, 1) := by decide +kernel
theorem dX6_tick_21 : decode cX6_tick 21 = .ok (.iload_n 2, 1) := by decide +kernel
theorem dX6_tick_22 : decode cX6_tick 22 = .ok (.iload_n 1, 1) := by decide +kernel
theorem dX6_tick_23 : decode cX6_tick 23 = .ok (.if_icmp .ge 20, 3) := by decide +kernel
theorem dX6_tick_26 : decode cX6_tick 26 = .ok (.aload_n 0, 1) := by decide +kernel
theorem dX6_tick_27 : decode cX6_tick 27 = .ok (.getfield 23, 3) := by decide +kernel
theorem dX6_tick_30 : decode cX6_tick 30 = .ok (.ifCond .ne 13, 3) := by decide +kernel
theorem dX6_tick_33 : decode cX6_tick 33 = .ok (.aload_n 0, 1) := by decide +kernel
theorem dX6_tick_34 : decode cX6_tick 34 = .ok (.invokevirtual 109, 3) := by decide +kernel
theorem dX6_tick_37 : decode cX6_tick 37 = .ok (.iinc 2 1, 3) := by decide +kernel
theorem dX6_tick_40 : decode cX6_tick 40 = .ok (.goto (-19), 3) := by decide +kernel
theorem dX6_tick_43 : decode cX6_tick 43 = .ok (.aload_n 0, 1) := by decide +kernel
theorem dX6_tick_44 : decode cX6_tick 44 = .ok (.getfield 23, 3) := by decide +kernel
theorem dX6_tick_47 : decode cX6_tick 47 = .ok (.ifCond .le 7, 3) := by decide +kernel
theorem dX6_tick_50 : decode cX6_tick 50 = .ok (.iconst 0, 1) := by decide +kernel
theorem dX6_tick_51 : decode cX6_tick 51 = .ok (.goto 7, 3) := by decide +kernel
theorem dX6_tick_54 : decode cX6_tick 54 = .ok (.aload_n 0, 1) := by decide +kernel
theorem dX6_tick_55 : decode cX6_tick 55 = .ok (.invokevirtual 112, 3) := by decide +kernel
theorem dX6_tick_58 : decode cX6_tick 58 = .ok (.ireturn, 1) := by decide +kernel
def fn_X6_tick_L21 (L : cp_Lay) (q : Nat) : Nat → Nat → Int32 → Int32 → cp_Dt → Option (Int32 × cp_Dt)
  | 0, _, _, _, _ => none
  | n + 1, a0, i1, i2, D =>
    if i1 ≤ i2 then ((cp_gI L D a0 6 0).bind fun v7 =>
    if v7 ≤ 0 then ((cp_fl L a0 6).bind fun f9 =>
    (fn_X6_animals L q a0 D).bind fun y10 =>
    some (y10.1, y10.2))
    else (some ((0 : Int32), D)))
    else ((cp_gI L D a0 6 0).bind fun v11 =>
    if v11 = 0 then ((cp_fl L a0 6).bind fun f17 =>
    (fn_X6_pass L q a0 D).bind fun D18 =>
    fn_X6_tick_L21 L q n a0 i1 (i2 + 1) D18)
    else ((cp_gI L D a0 6 0).bind fun v13 =>
    if v13 ≤ 0 then ((cp_fl L a0 6).bind fun f15 =>
    (fn_X6_animals L q a0 D).bind fun y16 =>
    some (y16.1, y16.2))
    else (some ((0 : Int32), D))))
def fn_X6_tick (L : cp_Lay) (q : Nat) (k0 : Nat) (x1 : Int32) (D : cp_Dt) : Option (Int32 × cp_Dt) :=
  if x1 < 0 then ((cp_pI L D k0 6 0 (1 : Int32)).bind fun D2 =>
  fn_X6_tick_L21 L q q k0 x1 (0 : Int32) D2)
  else (if x1 ≤ (50 : Int32) then ((cp_pI L D k0 6 0 (0 : Int32)).bind fun D4 =>
  fn_X6_tick_L21 L q q k0 x1 (0 : Int32) D4)
  else ((cp_pI L D k0 6 0 (1 : Int32)).bind fun D5 =>
  fn_X6_tick_L21 L q q k0 x1 (0 : Int32) D5))
set_option maxHeartbeats 4000000 in
set_option maxRecDepth 100000 in
theorem ct_X6_tick (l : Launch) (G : va_G) (L : cp_Lay) (hJ : cp_J L) (q : Nat) (k0 : Nat) (x1 : Int32) (D : cp_Dt) (res : Int32 × cp_Dt) (hF : fn_X6_tick L q k0 x1 D = some res) : cp_Met l G yX6_tick wsX6_tick ({ frames := 9, cells := 0, slots := 0, locals := 216 }) L ([.ref (L.2.1 k0), .int x1] : List Value) D res.2 (some (.int res.1)) := by
  refine Met.ofW (cc := cX6_tick) (maxL := 3) (ret := (some .int)) (by decide) rfl ?_
  intro p e s m args below meth c s₁ B hml hv
  obtain ⟨rfl, hP, hK, hN, hZ⟩ := hv
  have hx := B.exec
  have hb := B.bytes
  have hr := B.returns
  have hts := atoms_spec (ws := wsX6_tick) B.pre
  have hown : s.vm.findClass "CreaturePondModel" = some m.cls := findClass_of_methodNamed B.named
  have hlocks := B.notSynchronized
  have hS : va_S (cp_A L) s.heap s.heap [] := va_S.rf
  have htT : ∀ w ∈ cp_T, w.before ([.ref (L.2.1 k0), .int x1] : List Value).toArray s = true := fun w h => hts w (List.mem_cons_of_mem _ h)
  have hl := lv_entry (([.ref (L.2.1 k0), .int x1] : List Value)) (n := 3) (Nat.le_of_ble_eq_true rfl)
  rw [lg_entry_eq]
  generalize (lg_sl (([.ref (L.2.1 k0), .int x1] : List Value)) ++ List.replicate (3 - (lg_sl (([.ref (L.2.1 k0), .int x1] : List Value))).length) Slot.unset).toArray = ls at hl ⊢
  have hl : lv_has ls 3 [(0, .ref (L.2.1 k0)), (1, .int x1)] := hl
  have hL21 : ∀ (n : Nat) (a0 : Nat) (i1 : Int32) (i2 : Int32) (D : cp_Dt) (H : Heap) (locs : List Loc) (ls : Array Slot), fn_X6_tick_L21 L q n a0 i1 i2 D = some res → va_P G vwCl (cp_ws L D) H → va_S (cp_A L) s.heap H locs → lv_has ls 3 [(0, .ref (L.2.1 a0)), (1, .int i1), (2, .int i2)] → W p l e (headSpec wsX6_tick ({ frames := 9, cells := 0, slots := 0, locals := 216 })).room s m ([.ref (L.2.1 k0), .int x1] : List Value).toArray below meth c H locs 0 0 (MQ below (cp_Q G L res.2 (some (.int res.1))) ([.ref (L.2.1 k0), .int x1] : List Value).toArray s 0 0 (cp_A L)) (F0 m 21 ls []) := by
    intro n
    induction n with
    | zero =>
      intro a0 i1 i2 D H locs ls hF
      cases hF
    | succ n ih =>
      intro a0 i1 i2 D H locs ls hF hP hS hl
      unfold fn_X6_tick_L21 at hF
      refine lv_iload_n hx hb dX6_tick_21 rfl (lv_at hl 2 rfl) ?_
      refine lv_iload_n hx hb dX6_tick_22 rfl (lv_at hl 1 rfl) ?_
      refine lv_icmp_ge (tgt := 43) hx hb dX6_tick_23 (by decide) (fun hc6 => ?_) (fun hc6 => ?_)
      · rw [if_pos hc6] at hF
        refine lv_aload_n hx hb dX6_tick_43 rfl (lv_at hl 0 rfl) ?_
        obtain ⟨v7, ev7, hF⟩ := cp_bind hF
        refine cp_getI (T := TX6) (N := 6) (ci := 6) (j := 0) hx hb htT hinX6 hown hK hP rfl (by decide) rfl (htT _ tw_375) ev7 dX6_tick_44 ?_
        refine lv_if_le (tgt := 54) hx hb dX6_tick_47 (by decide) (fun hc8 => ?_) (fun hc8 => ?_)
        · rw [if_pos hc8] at hF
          refine lv_aload_n hx hb dX6_tick_54 rfl (lv_at hl 0 rfl) ?_
          obtain ⟨f9, ef9, hF⟩ := cp_bind hF
          obtain ⟨y10, ey10, hF⟩ := cp_bind hF
          refine cp_call (st1 := [.int y10.1]) (va_runV (As := []) (rest := []) ⟨hx, hb, hml, hown, htT⟩ (ct_X6_animals l G L hJ q a0 D y10 ey10) ⟨callB_of 0 htT gdX6_animals rfl rfl rfl (htT _ tw_8) (htT _ tw_492) hdX6_animals ⟨Nat.le_of_ble_eq_true rfl, Nat.le_of_ble_eq_true rfl⟩, (htT _ tw_493), (htT _ tw_594)⟩ ⟨cp_blind, cp_recv hK hP rfl ef9, cp_pre hP hK hN hZ hS⟩ rfl rfl hl.1 rfl (lv_room (Nat.le_of_ble_eq_true rfl)) dX6_tick_55 ⟨Nat.zero_le _, Nat.zero_le _⟩) hS (fun H locs hP hS => ?_)
          exact cp_iret hx hb hr hlocks hF hP hS dX6_tick_58
        · rw [if_neg hc8] at hF
          refine lv_iconst (v := (0 : Int32)) hx hb dX6_tick_50 (by decide) ?_
          refine lv_goto (tgt := 58) hx hb dX6_tick_51 (by decide) ?_
          exact cp_iret hx hb hr hlocks hF hP hS dX6_tick_58
      · rw [if_neg hc6] at hF
        refine lv_aload_n hx hb dX6_tick_26 rfl (lv_at hl 0 rfl) ?_
        obtain ⟨v11, ev11, hF⟩ := cp_bind hF
        refine cp_getI (T := TX6) (N := 6) (ci := 6) (j := 0) hx hb htT hinX6 hown hK hP rfl (by decide) rfl (htT _ tw_375) ev11 dX6_tick_27 ?_
        refine lv_if_ne (tgt := 43) hx hb dX6_tick_30 (by decide) (fun hc12 => ?_) (fun hc12 => ?_)
        · rw [if_neg hc12] at hF
          refine lv_aload_n hx hb dX6_tick_43 rfl (lv_at hl 0 rfl) ?_
          obtain ⟨v13, ev13, hF⟩ := cp_bind hF
          refine cp_getI (T := TX6) (N := 6) (ci := 6) (j := 0) hx hb htT hinX6 hown hK hP rfl (by decide) rfl (htT _ tw_375) ev13 dX6_tick_44 ?_
          refine lv_if_le (tgt := 54) hx hb dX6_tick_47 (by decide) (fun hc14 => ?_) (fun hc14 => ?_)
          · rw [if_pos hc14] at hF
            refine lv_aload_n hx hb dX6_tick_54 rfl (lv_at hl 0 rfl) ?_
            obtain ⟨f15, ef15, hF⟩ := cp_bind hF
            obtain ⟨y16, ey16, hF⟩ := cp_bind hF
            refine cp_call (st1 := [.int y16.1]) (va_runV (As := []) (rest := []) ⟨hx, hb, hml, hown, htT⟩ (ct_X6_animals l G L hJ q a0 D y16 ey16) ⟨callB_of 0 htT gdX6_animals rfl rfl rfl (htT _ tw_8) (htT _ tw_492) hdX6_animals ⟨Nat.le_of_ble_eq_true rfl, Nat.le_of_ble_eq_true rfl⟩, (htT _ tw_493), (htT _ tw_594)⟩ ⟨cp_blind, cp_recv hK hP rfl ef15, cp_pre hP hK hN hZ hS⟩ rfl rfl hl.1 rfl (lv_room (Nat.le_of_ble_eq_true rfl)) dX6_tick_55 ⟨Nat.zero_le _, Nat.zero_le _⟩) hS (fun H locs hP hS => ?_)
            exact cp_iret hx hb hr hlocks hF hP hS dX6_tick_58
          · rw [if_neg hc14] at hF
            refine lv_iconst (v := (0 : Int32)) hx hb dX6_tick_50 (by decide) ?_
            refine lv_goto (tgt := 58) hx hb dX6_tick_51 (by decide) ?_
            exact cp_iret hx hb hr hlocks hF hP hS dX6_tick_58
        · rw [if_pos hc12] at hF
          refine lv_aload_n hx hb dX6_tick_33 rfl (lv_at hl 0 rfl) ?_
          obtain ⟨f17, ef17, hF⟩ := cp_bind hF
          obtain ⟨D18, eD18, hF⟩ := cp_bind hF
          refine cp_call (st1 := []) (va_runV (As := []) (rest := []) ⟨hx, hb, hml, hown, htT⟩ (ct_X6_pass l G L hJ q a0 D D18 eD18) ⟨callB_of 0 htT gdX6_pass rfl rfl rfl (htT _ tw_8) (htT _ tw_437) hdX6_pass ⟨Nat.le_of_ble_eq_true rfl, Nat.le_of_ble_eq_true rfl⟩, (htT _ tw_438), (htT _ tw_578)⟩ ⟨cp_blind, cp_recv hK hP rfl ef17, cp_pre hP hK hN hZ hS⟩ rfl rfl hl.1 rfl (lv_room (Nat.le_of_ble_eq_true rfl)) dX6_tick_34 ⟨Nat.zero_le _, Nat.zero_le _⟩) hS (fun H locs hP hS => ?_)
          refine lv_iinc (k := 2) (v := (i2 + 1)) (lv' := [(2, .int (i2 + 1)), (0, .ref (L.2.1 a0)), (1, .int i1)]) hx hb dX6_tick_37 hl rfl (congrArg (fun z => i2 + z) (by decide)) (by decide) rfl (fun ls hl => ?_)
          refine lv_goto (tgt := 21) hx hb dX6_tick_40 (by decide) ?_
          exact ih a0 i1 (i2 + 1) D18 _ _ _ hF hP hS (lv_sub hl [1, 2, 0] rfl)
  unfold fn_X6_tick at hF
  refine lv_aload_n hx hb dX6_tick_0 rfl (lv_at hl 0 rfl) ?_
  refine lv_iload_n hx hb dX6_tick_1 rfl (lv_at hl 1 rfl) ?_
  refine lv_if_lt (tgt := 11) hx hb dX6_tick_2 (by decide) (fun hc1 => ?_) (fun hc1 => ?_)
  · rw [if_pos hc1] at hF
    refine lv_iconst (v := (1 : Int32)) hx hb dX6_tick_11 (by decide) ?_
    refine lv_goto (tgt := 16) hx hb dX6_tick_12 (by decide) ?_
    obtain ⟨D2, eD2, hF⟩ := cp_bind hF
    refine cp_put (T := TX6) (N := 6) (ci := 6) (j := 0) hx hb htT hinX6 tyX6 tyX6_ok nmX6 hown hK hJ hP hS rfl (by decide) rfl (htT _ tw_375) rfl rfl rfl eD2 dX6_tick_16 (fun H locs hP hS => ?_)
    refine lv_iconst (v := (0 : Int32)) hx hb dX6_tick_19 (by decide) ?_
    refine lv_istore_n (lv' := [(2, .int (0 : Int32)), (0, .ref (L.2.1 k0)), (1, .int x1)]) hx hb dX6_tick_20 rfl hl (by decide) rfl (fun ls hl => ?_)
    exact hL21 q k0 x1 (0 : Int32) D2 _ _ _ hF hP hS (lv_sub hl [1, 2, 0] rfl)
  · rw [if_neg hc1] at hF
    refine lv_iload_n hx hb dX6_tick_5 rfl (lv_at hl 1 rfl) ?_
    refine lv_bipush (v := (50 : Int32)) hx hb dX6_tick_6 (by decide) ?_
    refine lv_icmp_le (tgt := 15) hx hb dX6_tick_8 (by decide) (fun hc3 => ?_) (fun hc3 => ?_)
    · rw [if_pos hc3] at hF
      refine lv_iconst (v := (0 : Int32)) hx hb dX6_tick_15 (by decide) ?_
      obtain ⟨D4, eD4, hF⟩ := cp_bind hF
      refine cp_put (T := TX6) (N := 6) (ci := 6) (j := 0) hx hb htT hinX6 tyX6 tyX6_ok nmX6 hown hK hJ hP hS rfl (by decide) rfl (htT _ tw_375) rfl rfl rfl eD4 dX6_tick_16 (fun H locs hP hS => ?_)
      refine lv_iconst (v := (0 : Int32)) hx hb dX6_tick_19 (by decide) ?_
      refine lv_istore_n (lv' := [(2, .int (0 : Int32)), (0, .ref (L.2.1 k0)), (1, .int x1)]) hx hb dX6_tick_20 rfl hl (by decide) rfl (fun ls hl => ?_)
      exact hL21 q k0 x1 (0 : Int32) D4 _ _ _ hF hP hS (lv_sub hl [1, 2, 0] rfl)
    · rw [if_neg hc3] at hF
      refine lv_iconst (v := (1 : Int32)) hx hb dX6_tick_11 (by decide) ?_
      refine lv_goto (tgt := 16) hx hb dX6_tick_12 (by decide) ?_
      obtain ⟨D5, eD5, hF⟩ := cp_bind hF
      refine cp_put (T := TX6) (N := 6) (ci := 6) (j := 0) hx hb htT hinX6 tyX6 tyX6_ok nmX6 hown hK hJ hP hS rfl (by decide) rfl (htT _ tw_375) rfl rfl rfl eD5 dX6_tick_16 (fun H locs hP hS => ?_)
      refine lv_iconst (v := (0 : Int32)) hx hb dX6_tick_19 (by decide) ?_
      refine lv_istore_n (lv' := [(2, .int (0 : Int32)), (0, .ref (L.2.1 k0)), (1, .int x1)]) hx hb dX6_tick_20 rfl hl (by decide) rfl (fun ls hl => ?_)
      exact hL21 q k0 x1 (0 : Int32) D5 _ _ _ hF hP hS (lv_sub hl [1, 2, 0] rfl)
