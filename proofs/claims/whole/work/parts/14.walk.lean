theorem dX2_firstFreeAround_0 : decode cX2_firstFreeAround 0 = .ok (.iconst 0, 1) := by decide +kernel
theorem dX2_firstFreeAround_1 : decode cX2_firstFreeAround 1 = .ok (.istore_n 2, 1) := by decide +kernel
theorem dX2_firstFreeAround_2 : decode cX2_firstFreeAround 2 = .ok (.iload_n 2, 1) := by decide +kernel
theorem dX2_firstFreeAround_3 : decode cX2_firstFreeAround 3 = .ok (.iconst 4, 1) := by decide +kernel
theorem dX2_firstFreeAround_4 : decode cX2_firstFreeAround 4 = .ok (.if_icmp .ge 37, 3) := by decide +kernel
theorem dX2_firstFreeAround_7 : decode cX2_firstFreeAround 7 = .ok (.aload_n 0, 1) := by decide +kernel
theorem dX2_firstFreeAround_8 : decode cX2_firstFreeAround 8 = .ok (.getfield 9, 3) := by decide +kernel
theorem dX2_firstFreeAround_11 : decode cX2_firstFreeAround 11 = .ok (.getfield 96, 3) := by decide +kernel
theorem dX2_firstFreeAround_14 : decode cX2_firstFreeAround 14 = .ok (.iload_n 1, 1) := by decide +kernel
theorem dX2_firstFreeAround_15 : decode cX2_firstFreeAround 15 = .ok (.iload_n 2, 1) := by decide +kernel
theorem dX2_firstFreeAround_16 : decode cX2_firstFreeAround 16 = .ok (.invokevirtual 100, 3) := by decide +kernel
theorem dX2_firstFreeAround_19 : decode cX2_firstFreeAround 19 = .ok (.istore_n 3, 1) := by decide +kernel
theorem dX2_firstFreeAround_20 : decode cX2_firstFreeAround 20 = .ok (.aload_n 0, 1) := by decide +kernel
theorem dX2_firstFreeAround_21 : decode cX2_firstFreeAround 21 = .ok (.getfield 9, 3) := by decide +kernel
theorem dX2_firstFreeAround_24 : decode cX2_firstFreeAround 24 = .ok (.getfield 38, 3) := by decide +kernel
theorem dX2_firstFreeAround_27 : decode cX2_firstFreeAround 27 = .ok (.iload_n 3, 1) := by decide +kernel
theorem dX2_firstFreeAround_28 : decode cX2_firstFreeAround 28 = .ok (.iaload, 1) := by decide +kernel
theorem dX2_firstFreeAround_29 : decode cX2_firstFreeAround 29 = .ok (.iconst (-1), 1) := by decide +kernel
theorem dX2_firstFreeAround_30 : decode cX2_firstFreeAround 30 = .ok (.if_icmp .ne 5, 3) := by decide +kernel
theorem dX2_firstFreeAround_33 : decode cX2_firstFreeAround 33 = .ok (.iload_n 3, 1) := by decide +kernel
theorem dX2_firstFreeAround_34 : decode cX2_firstFreeAround 34 = .ok (.ireturn, 1) := by decide +kernel
theorem dX2_firstFreeAround_35 : decode cX2_firstFreeAround 35 = .ok (.iinc 2 1, 3) := by decide +kernel
theorem dX2_firstFreeAround_38 : decode cX2_firstFreeAround 38 = .ok (.goto (-36), 3) := by decide +kernel
theorem dX2_firstFreeAround_41 : decode cX2_firstFreeAround 41 = .ok (.iconst (-1), 1) := by decide +kernel
theorem dX2_firstFreeAround_42 : decode cX2_firstFreeAround 42 = .ok (.ireturn, 1) := by decide +kernel
def fn_X2_firstFreeAround_L2 (L : cp_Lay) (q : Nat) : Nat → Nat → Int32 → Int32 → cp_Dt → Option (Int32 × cp_Dt)
  | 0, _, _, _, _ => none
  | n + 1, a0, i1, i2, D =>
    if (4 : Int32) ≤ i2 then (some ((-1 : Int32), D))
    else ((cp_gR L a0 2 0).bind fun r2 =>
    (cp_gR L r2 4 0).bind fun r3 =>
    (cp_fl L r3 5).bind fun f4 =>
    (fn_X5_nextTo L q r3 i1 i2 D).bind fun y5 =>
    (cp_gR L a0 2 0).bind fun r6 =>
    (cp_gR L r6 4 3).bind fun r7 =>
    (cp_aI L y5.2 0 r7 y5.1).bind fun v8 =>
    if v8 = (-1 : Int32) then (some (y5.1, y5.2))
    else (fn_X2_firstFreeAround_L2 L q n a0 i1 (i2 + 1) y5.2))
def fn_X2_firstFreeAround (L : cp_Lay) (q : Nat) (k0 : Nat) (x1 : Int32) (D : cp_Dt) : Option (Int32 × cp_Dt) :=
  fn_X2_firstFreeAround_L2 L q q k0 x1 (0 : Int32) D
set_option maxHeartbeats 4000000 in
set_option maxRecDepth 100000 in
theorem ct_X2_firstFreeAround (l : Launch) (G : va_G) (L : cp_Lay) (hJ : cp_J L) (q : Nat) (k0 : Nat) (x1 : Int32) (D : cp_Dt) (res : Int32 × cp_Dt) (hF : fn_X2_firstFreeAround L q k0 x1 D = some res) : cp_Met l G yX2_firstFreeAround wsX2_firstFreeAround ({ frames := 1, cells := 0, slots := 0, locals := 22 }) L ([.ref (L.2.1 k0), .int x1] : List Value) D res.2 (some (.int res.1)) := by
  refine Met.ofW (cc := cX2_firstFreeAround) (maxL := 4) (ret := (some .int)) (by decide) rfl ?_
  intro p e s m args below meth c s₁ B hml hv
  obtain ⟨rfl, hP, hK, hN, hZ⟩ := hv
  have hx := B.exec
  have hb := B.bytes
  have hr := B.returns
  have hts := atoms_spec (ws := wsX2_firstFreeAround) B.pre
  have hown : s.vm.findClass "CreaturePond$Breeding" = some m.cls := findClass_of_methodNamed B.named
  have hlocks := B.notSynchronized
  have hS : va_S (cp_A L) s.heap s.heap [] := va_S.rf
  have htT : ∀ w ∈ cp_T, w.before ([.ref (L.2.1 k0), .int x1] : List Value).toArray s = true := fun w h => hts w (List.mem_cons_of_mem _ h)
  have hl := lv_entry (([.ref (L.2.1 k0), .int x1] : List Value)) (n := 4) (Nat.le_of_ble_eq_true rfl)
  rw [lg_entry_eq]
  generalize (lg_sl (([.ref (L.2.1 k0), .int x1] : List Value)) ++ List.replicate (4 - (lg_sl (([.ref (L.2.1 k0), .int x1] : List Value))).length) Slot.unset).toArray = ls at hl ⊢
  have hl : lv_has ls 4 [(0, .ref (L.2.1 k0)), (1, .int x1)] := hl
  have hL2 : ∀ (n : Nat) (a0 : Nat) (i1 : Int32) (i2 : Int32) (D : cp_Dt) (H : Heap) (locs : List Loc) (ls : Array Slot), fn_X2_firstFreeAround_L2 L q n a0 i1 i2 D = some res → va_P G vwCl (cp_ws L D) H → va_S (cp_A L) s.heap H locs → lv_has ls 4 [(0, .ref (L.2.1 a0)), (1, .int i1), (2, .int i2)] → W p l e (headSpec wsX2_firstFreeAround ({ frames := 1, cells := 0, slots := 0, locals := 22 })).room s m ([.ref (L.2.1 k0), .int x1] : List Value).toArray below meth c H locs 0 0 (MQ below (cp_Q G L res.2 (some (.int res.1))) ([.ref (L.2.1 k0), .int x1] : List Value).toArray s 0 0 (cp_A L)) (F0 m 2 ls []) := by
    intro n
    induction n with
    | zero =>
      intro a0 i1 i2 D H locs ls hF
      cases hF
    | succ n ih =>
      intro a0 i1 i2 D H locs ls hF hP hS hl
      unfold fn_X2_firstFreeAround_L2 at hF
      refine lv_iload_n hx hb dX2_firstFreeAround_2 rfl (lv_at hl 2 rfl) ?_
      refine lv_iconst (v := (4 : Int32)) hx hb dX2_firstFreeAround_3 (by decide) ?_
      refine lv_icmp_ge (tgt := 41) hx hb dX2_firstFreeAround_4 (by decide) (fun hc1 => ?_) (fun hc1 => ?_)
      · rw [if_pos hc1] at hF
        refine lv_iconst (v := (-1 : Int32)) hx hb dX2_firstFreeAround_41 (by decide) ?_
        exact cp_iret hx hb hr hlocks hF hP hS dX2_firstFreeAround_42
      · rw [if_neg hc1] at hF
        refine lv_aload_n hx hb dX2_firstFreeAround_7 rfl (lv_at hl 0 rfl) ?_
        obtain ⟨r2, er2, hF⟩ := cp_bind hF
        refine cp_getR (T := TX2) (N := 1) (ci := 2) (j := 0) hx hb htT hinX2 hown hK hP rfl (by decide) rfl (htT _ tw_133) er2 dX2_firstFreeAround_8 ?_
        obtain ⟨r3, er3, hF⟩ := cp_bind hF
        refine cp_getRN (T := TX4) (N := 12) (ci := 4) (j := 0) hx hb htT hinX4 hown hK hP rfl (by decide) rfl (hN _ (List.mem_of_getElem? (i := 35) rfl)) er3 dX2_firstFreeAround_11 ?_
        refine lv_iload_n hx hb dX2_firstFreeAround_14 rfl (lv_at hl 1 rfl) ?_
        refine lv_iload_n hx hb dX2_firstFreeAround_15 rfl (lv_at hl 2 rfl) ?_
        obtain ⟨f4, ef4, hF⟩ := cp_bind hF
        obtain ⟨y5, ey5, hF⟩ := cp_bind hF
        refine cp_call (st1 := [.int y5.1]) (va_runVN (As := [.int i1, .int i2]) (rest := []) ⟨hx, hb, hml, hown, htT⟩ (ct_X5_nextTo l G L hJ q r3 i1 i2 D y5 ey5) ⟨va_cnB 2 htT gdX5_nextTo rfl rfl rfl (hN _ (List.mem_of_getElem? (i := 78) rfl)) (htT _ tw_2) hdX5_nextTo ⟨Nat.le_of_ble_eq_true rfl, Nat.le_of_ble_eq_true rfl⟩, (htT _ tw_319), (htT _ tw_563)⟩ ⟨cp_blind, cp_recv hK hP rfl ef4, cp_pre hP hK hN hZ hS⟩ rfl rfl hl.1 rfl (lv_room (Nat.le_of_ble_eq_true rfl)) dX2_firstFreeAround_16 ⟨Nat.zero_le _, Nat.zero_le _⟩) hS (fun H locs hP hS => ?_)
        refine lv_istore_n (lv' := [(3, .int y5.1), (0, .ref (L.2.1 a0)), (1, .int i1), (2, .int i2)]) hx hb dX2_firstFreeAround_19 rfl hl (by decide) rfl (fun ls hl => ?_)
        refine lv_aload_n hx hb dX2_firstFreeAround_20 rfl (lv_at hl 1 rfl) ?_
        obtain ⟨r6, er6, hF⟩ := cp_bind hF
        refine cp_getR (T := TX2) (N := 1) (ci := 2) (j := 0) hx hb htT hinX2 hown hK hP rfl (by decide) rfl (htT _ tw_133) er6 dX2_firstFreeAround_21 ?_
        obtain ⟨r7, er7, hF⟩ := cp_bind hF
        refine cp_getRN (T := TX4) (N := 12) (ci := 4) (j := 3) hx hb htT hinX4 hown hK hP rfl (by decide) rfl (hN _ (List.mem_of_getElem? (i := 40) rfl)) er7 dX2_firstFreeAround_24 ?_
        refine lv_iload_n hx hb dX2_firstFreeAround_27 rfl (lv_at hl 0 rfl) ?_
        obtain ⟨v8, ev8, hF⟩ := cp_bind hF
        refine cp_iald hx hb hK hP ev8 dX2_firstFreeAround_28 ?_
        refine lv_iconst (v := (-1 : Int32)) hx hb dX2_firstFreeAround_29 (by decide) ?_
        refine lv_icmp_ne (tgt := 35) hx hb dX2_firstFreeAround_30 (by decide) (fun hc9 => ?_) (fun hc9 => ?_)
        · rw [if_neg hc9] at hF
          refine lv_iinc (k := 3) (v := (i2 + 1)) (lv' := [(2, .int (i2 + 1)), (3, .int y5.1), (0, .ref (L.2.1 a0)), (1, .int i1)]) hx hb dX2_firstFreeAround_35 hl rfl (congrArg (fun z => i2 + z) (by decide)) (by decide) rfl (fun ls hl => ?_)
          refine lv_goto (tgt := 2) hx hb dX2_firstFreeAround_38 (by decide) ?_
          exact ih a0 i1 (i2 + 1) y5.2 _ _ _ hF hP hS (lv_sub hl [2, 3, 0] rfl)
        · rw [if_pos hc9] at hF
          refine lv_iload_n hx hb dX2_firstFreeAround_33 rfl (lv_at hl 0 rfl) ?_
          exact cp_iret hx hb hr hlocks hF hP hS dX2_firstFreeAround_34
  unfold fn_X2_firstFreeAround at hF
  refine lv_iconst (v := (0 : Int32)) hx hb dX2_firstFreeAround_0 (by decide) ?_
  refine lv_istore_n (lv' := [(2, .int (0 : Int32)), (0, .ref (L.2.1 k0)), (1, .int x1)]) hx hb dX2_firstFreeAround_1 rfl hl (by decide) rfl (fun ls hl => ?_)
  exact hL2 q k0 x1 (0 : Int32) D _ _ _ hF hP hS (lv_sub hl [1, 2, 0] rfl)
theorem dX2_payAndHalve_0 : decode cX2_payAndHalve 0 = .ok (.aload_n 0, 1) := by decide +kernel
theorem dX2_payAndHalve_1 : decode cX2_payAndHalve 1 = .ok (.getfield 9, 3) := by decide +kernel
theorem dX2_payAndHalve_4 : decode cX2_payAndHalve 4 = .ok (.aload_n 1, 1) := by decide +kernel
theorem dX2_payAndHalve_5 : decode cX2_payAndHalve 5 = .ok (.bipush 10, 2) := by decide +kernel
theorem dX2_payAndHalve_7 : decode cX2_payAndHalve 7 = .ok (.invokevirtual 105, 3) := by decide +kernel
theorem dX2_payAndHalve_10 : decode cX2_payAndHalve 10 = .ok (.aload_n 1, 1) := by decide +kernel
theorem dX2_payAndHalve_11 : decode cX2_payAndHalve 11 = .ok (.getfield 57, 3) := by decide +kernel
theorem dX2_payAndHalve_14 : decode cX2_payAndHalve 14 = .ok (.iconst 2, 1) := by decide +kernel
theorem dX2_payAndHalve_15 : decode cX2_payAndHalve 15 = .ok (.idiv, 1) := by decide +kernel
theorem dX2_payAndHalve_16 : decode cX2_payAndHalve 16 = .ok (.istore_n 2, 1) := by decide +kernel
theorem dX2_payAndHalve_17 : decode cX2_payAndHalve 17 = .ok (.aload_n 1, 1) := by decide +kernel
theorem dX2_payAndHalve_18 : decode cX2_payAndHalve 18 = .ok (.dup, 1) := by decide +kernel
theorem dX2_payAndHalve_19 : decode cX2_payAndHalve 19 = .ok (.getfield 57, 3) := by decide +kernel
theorem dX2_payAndHalve_22 : decode cX2_payAndHalve 22 = .ok (.iload_n 2, 1) := by decide +kernel
theorem dX2_payAndHalve_23 : decode cX2_payAndHalve 23 = .ok (.isub, 1) := by decide +kernel
theorem dX2_payAndHalve_24 : decode cX2_payAndHalve 24 = .ok (.putfield 57, 3) := by decide +kernel
theorem dX2_payAndHalve_27 : decode cX2_payAndHalve 27 = .ok (.iload_n 2, 1) := by decide +kernel
theorem dX2_payAndHalve_28 : decode cX2_payAndHalve 28 = .ok (.ireturn, 1) := by decide +kernel
def fn_X2_payAndHalve (L : cp_Lay) (q : Nat) (k0 : Nat) (k1 : Nat) (D : cp_Dt) : Option (Int32 × cp_Dt) :=
  (cp_gR L k0 2 0).bind fun r1 =>
  (cp_fl L r1 4).bind fun f2 =>
  (fn_X4_pay L q r1 k1 (10 : Int32) D).bind fun D3 =>
  (cp_gI L D3 k1 1 7).bind fun v4 =>
  (cp_gI L D3 k1 1 7).bind fun v5 =>
  (cp_pI L D3 k1 1 7 (v5 - (v4 / (2 : Int32)))).bind fun D6 =>
  some ((v4 / (2 : Int32)), D6)
set_option maxHeartbeats 4000000 in
set_option maxRecDepth 100000 in
theorem ct_X2_payAndHalve (l : Launch) (G : va_G) (L : cp_Lay) (hJ : cp_J L) (q : Nat) (k0 : Nat) (k1 : Nat) (D : cp_Dt) (res : Int32 × cp_Dt) (hF : fn_X2_payAndHalve L q k0 k1 D = some res) : cp_Met l G yX2_payAndHalve wsX2_payAndHalve ({ frames := 2, cells := 0, slots := 0, locals := 44 }) L ([.ref (L.2.1 k0), .ref (L.2.1 k1)] : List Value) D res.2 (some (.int res.1)) := by
  refine Met.ofW (cc := cX2_payAndHalve) (maxL := 3) (ret := (some .int)) (by decide) rfl ?_
  intro p e s m args below meth c s₁ B hml hv
  obtain ⟨rfl, hP, hK, hN, hZ⟩ := hv
  have hx := B.exec
  have hb := B.bytes
  have hr := B.returns
  have hts := atoms_spec (ws := wsX2_payAndHalve) B.pre
  have hown : s.vm.findClass "CreaturePond$Breeding" = some m.cls := findClass_of_methodNamed B.named
  have hlocks := B.notSynchronized
  have hS : va_S (cp_A L) s.heap s.heap [] := va_S.rf
  have htT : ∀ w ∈ cp_T, w.before ([.ref (L.2.1 k0), .ref (L.2.1 k1)] : List Value).toArray s = true := fun w h => hts w (List.mem_cons_of_mem _ h)
  have hl := lv_entry (([.ref (L.2.1 k0), .ref (L.2.1 k1)] : List Value)) (n := 3) (Nat.le_of_ble_eq_true rfl)
  rw [lg_entry_eq]
  generalize (lg_sl (([.ref (L.2.1 k0), .ref (L.2.1 k1)] : List Value)) ++ List.replicate (3 - (lg_sl (([.ref (L.2.1 k0), .ref (L.2.1 k1)] : List Value))).length) Slot.unset).toArray = ls at hl ⊢
  have hl : lv_has ls 3 [(0, .ref (L.2.1 k0)), (1, .ref (L.2.1 k1))] := hl
  unfold fn_X2_payAndHalve at hF
  refine lv_aload_n hx hb dX2_payAndHalve_0 rfl (lv_at hl 0 rfl) ?_
  obtain ⟨r1, er1, hF⟩ := cp_bind hF
  refine cp_getR (T := TX2) (N := 1) (ci := 2) (j := 0) hx hb htT hinX2 hown hK hP rfl (by decide) rfl (htT _ tw_133) er1 dX2_payAndHalve_1 ?_
  refine lv_aload_n hx hb dX2_payAndHalve_4 rfl (lv_at hl 1 rfl) ?_
  refine lv_bipush (v := (10 : Int32)) hx hb dX2_payAndHalve_5 (by decide) ?_
  obtain ⟨f2, ef2, hF⟩ := cp_bind hF
  obtain ⟨D3, eD3, hF⟩ := cp_bind hF
  refine cp_call (st1 := []) (va_runVN (As := [.ref (L.2.1 k1), .int (10 : Int32)]) (rest := []) ⟨hx, hb, hml, hown, htT⟩ (ct_X4_pay l G L hJ q r1 k1 (10 : Int32) D D3 eD3) ⟨va_cnB 2 htT gdX4_pay rfl rfl rfl (hN _ (List.mem_of_getElem? (i := 80) rfl)) (htT _ tw_4) hdX4_pay ⟨Nat.le_of_ble_eq_true rfl, Nat.le_of_ble_eq_true rfl⟩, (htT _ tw_266), (htT _ tw_545)⟩ ⟨cp_blind, cp_recv hK hP rfl ef2, cp_pre hP hK hN hZ hS⟩ rfl rfl hl.1 rfl (lv_room (Nat.le_of_ble_eq_true rfl)) dX2_payAndHalve_7 ⟨Nat.zero_le _, Nat.zero_le _⟩) hS (fun H locs hP hS => ?_)
  refine lv_aload_n hx hb dX2_payAndHalve_10 rfl (lv_at hl 1 rfl) ?_
  obtain ⟨v4, ev4, hF⟩ := cp_bind hF
  refine cp_getIN (T := TX1) (N := 14) (ci := 1) (j := 7) hx hb htT hinX1 hown hK hP rfl (by decide) rfl (hN _ (List.mem_of_getElem? (i := 24) rfl)) ev4 dX2_payAndHalve_11 ?_
  refine lv_iconst (v := (2 : Int32)) hx hb dX2_payAndHalve_14 (by decide) ?_
  refine lv_idiv hx hb dX2_payAndHalve_15 (by decide) ?_
  refine lv_istore_n (lv' := [(2, .int (v4 / (2 : Int32))), (0, .ref (L.2.1 k0)), (1, .ref (L.2.1 k1))]) hx hb dX2_payAndHalve_16 rfl hl (by decide) rfl (fun ls hl => ?_)
  refine lv_aload_n hx hb dX2_payAndHalve_17 rfl (lv_at hl 2 rfl) ?_
  refine lv_dup hx hb dX2_payAndHalve_18 rfl ?_
  obtain ⟨v5, ev5, hF⟩ := cp_bind hF
  refine cp_getIN (T := TX1) (N := 14) (ci := 1) (j := 7) hx hb htT hinX1 hown hK hP rfl (by decide) rfl (hN _ (List.mem_of_getElem? (i := 24) rfl)) ev5 dX2_payAndHalve_19 ?_
  refine lv_iload_n hx hb dX2_payAndHalve_22 rfl (lv_at hl 0 rfl) ?_
  refine lv_isub hx hb dX2_payAndHalve_23 ?_
  obtain ⟨D6, eD6, hF⟩ := cp_bind hF
  refine cp_putN (T := TX1) (N := 14) (ci := 1) (j := 7) hx hb htT hinX1 tyX1 tyX1_ok nmX1 hown hK hJ hP hS rfl (by decide) rfl (hN _ (List.mem_of_getElem? (i := 24) rfl)) rfl rfl rfl eD6 dX2_payAndHalve_24 (fun H locs hP hS => ?_)
  refine lv_iload_n hx hb dX2_payAndHalve_27 rfl (lv_at hl 0 rfl) ?_
  exact cp_iret hx hb hr hlocks hF hP hS dX2_payAndHalve_28
theorem dX2_growFrom_0 : decode cX2_growFrom 0 = .ok (.iload 4, 2) := by decide +kernel
theorem dX2_growFrom_2 : decode cX2_growFrom 2 = .ok (.aload_n 2, 1) := by decide +kernel
theorem dX2_growFrom_3 : decode cX2_growFrom 3 = .ok (.getfield 112, 3) := by decide +kernel
theorem dX2_growFrom_6 : decode cX2_growFrom 6 = .ok (.invokestatic 119, 3) := by decide +kernel
theorem dX2_growFrom_9 : decode cX2_growFrom 9 = .ok (.istore 5, 2) := by decide +kernel
theorem dX2_growFrom_11 : decode cX2_growFrom 11 = .ok (.iload_n 3, 1) := by decide +kernel
theorem dX2_growFrom_12 : decode cX2_growFrom 12 = .ok (.istore 6, 2) := by decide +kernel
theorem dX2_growFrom_14 : decode cX2_growFrom 14 = .ok (.iload 6, 2) := by decide +kernel
theorem dX2_growFrom_16 : decode cX2_growFrom 16 = .ok (.iload 5, 2) := by decide +kernel
theorem dX2_growFrom_18 : decode cX2_growFrom 18 = .ok (.if_icmp .ge 20, 3) := by decide +kernel
theorem dX2_growFrom_21 : decode cX2_growFrom 21 = .ok (.aload_n 1, 1) := by decide +kernel
theorem dX2_growFrom_22 : decode cX2_growFrom 22 = .ok (.aload_n 2, 1) := by decide +kernel
theorem dX2_growFrom_23 : decode cX2_growFrom 23 = .ok (.getfield 122, 3) := by decide +kernel
theorem dX2_growFrom_26 : decode cX2_growFrom 26 = .ok (.iload 6, 2) := by decide +kernel
theorem dX2_growFrom_28 : decode cX2_growFrom 28 = .ok (.baload, 1) := by decide +kernel
theorem dX2_growFrom_29 : decode cX2_growFrom 29 = .ok (.invokevirtual 126, 3) := by decide +kernel
theorem dX2_growFrom_32 : decode cX2_growFrom 32 = .ok (.iinc 6 1, 3) := by decide +kernel
theorem dX2_growFrom_35 : decode cX2_growFrom 35 = .ok (.goto (-21), 3) := by decide +kernel
theorem dX2_growFrom_38 : decode cX2_growFrom 38 = .ok (.return_, 1) := by decide +kernel
def fn_X2_growFrom_L14 (L : cp_Lay) (q : Nat) : Nat → Nat → Nat → Nat → Int32 → Int32 → Int32 → Int32 → cp_Dt → Option (cp_Dt)
  | 0, _, _, _, _, _, _, _, _ => none
  | n + 1, a0, a1, a2, i3, i4, i5, i6, D =>
    if i5 ≤ i6 then (some D)
    else ((cp_gR L a2 1 2).bind fun r3 =>
    (cp_aI L D 1 r3 i6).bind fun v4 =>
    (cp_fl L a1 1).bind fun f5 =>
    (fn_X1_grow L q a1 v4 D).bind fun D6 =>
    fn_X2_growFrom_L14 L q n a0 a1 a2 i3 i4 i5 (i6 + 1) D6)
def fn_X2_growFrom (L : cp_Lay) (q : Nat) (k0 : Nat) (k1 : Nat) (k2 : Nat) (x3 : Int32) (x4 : Int32) (D : cp_Dt) : Option (cp_Dt) :=
  (cp_gI L D k2 1 9).bind fun v1 =>
  fn_X2_growFrom_L14 L q q k0 k1 k2 x3 x4 (cp_mn x4 v1) x3 D
set_option maxHeartbeats 4000000 in
set_option maxRecDepth 100000 in
theorem ct_X2_growFrom (l : Launch) (G : va_G) (L : cp_Lay) (hJ : cp_J L) (q : Nat) (k0 : Nat) (k1 : Nat) (k2 : Nat) (x3 : Int32) (x4 : Int32) (D : cp_Dt) (res : cp_Dt) (hF : fn_X2_growFrom L q k0 k1 k2 x3 x4 D = some res) : cp_Met l G yX2_growFrom wsX2_growFrom ({ frames := 1, cells := 0, slots := 0, locals := 21 }) L ([.ref (L.2.1 k0), .ref (L.2.1 k1), .ref (L.2.1 k2), .int x3, .int x4] : List Value) D res none := by
  refine Met.ofW (cc := cX2_growFrom) (maxL := 7) (ret := none) (by decide) rfl ?_
  intro p e s m args below meth c s₁ B hml hv
  obtain ⟨rfl, hP, hK, hN, hZ⟩ := hv
  have hx := B.exec
  have hb := B.bytes
  have hr := B.returns
  have hts := atoms_spec (ws := wsX2_growFrom) B.pre
  have hown : s.vm.findClass "CreaturePond$Breeding" = some m.cls := findClass_of_methodNamed B.named
  have hlocks := B.notSynchronized
  have hS : va_S (cp_A L) s.heap s.heap [] := va_S.rf
  have htT : ∀ w ∈ cp_T, w.before ([.ref (L.2.1 k0), .ref (L.2.1 k1), .ref (L.2.1 k2), .int x3, .int x4] : List Value).toArray s = true := fun w h => hts w (List.mem_cons_of_mem _ h)
  have hl := lv_entry (([.ref (L.2.1 k0), .ref (L.2.1 k1), .ref (L.2.1 k2), .int x3, .int x4] : List Value)) (n := 7) (Nat.le_of_ble_eq_true rfl)
  rw [lg_entry_eq]
  generalize (lg_sl (([.ref (L.2.1 k0), .ref (L.2.1 k1), .ref (L.2.1 k2), .int x3, .int x4] : List Value)) ++ List.replicate (7 - (lg_sl (([.ref (L.2.1 k0), .ref (L.2.1 k1), .ref (L.2.1 k2), .int x3, .int x4] : List Value))).length) Slot.unset).toArray = ls at hl ⊢
  have hl : lv_has ls 7 [(0, .ref (L.2.1 k0)), (1, .ref (L.2.1 k1)), (2, .ref (L.2.1 k2)), (3, .int x3), (4, .int x4)] := hl
  have hL14 : ∀ (n : Nat) (a0 : Nat) (a1 : Nat) (a2 : Nat) (i3 : Int32) (i4 : Int32) (i5 : Int32) (i6 : Int32) (D : cp_Dt) (H : Heap) (locs : List Loc) (ls : Array Slot), fn_X2_growFrom_L14 L q n a0 a1 a2 i3 i4 i5 i6 D = some res → va_P G vwCl (cp_ws L D) H → va_S (cp_A L) s.heap H locs → lv_has ls 7 [(0, .ref (L.2.1 a0)), (1, .ref (L.2.1 a1)), (2, .ref (L.2.1 a2)), (3, .int i3), (4, .int i4), (5, .int i5), (6, .int i6)] → W p l e (headSpec wsX2_growFrom ({ frames := 1, cells := 0, slots := 0, locals := 21 })).room s m ([.ref (L.2.1 k0), .ref (L.2.1 k1), .ref (L.2.1 k2), .int x3, .int x4] : List Value).toArray below meth c H locs 0 0 (MQ below (cp_Q G L res none) ([.ref (L.2.1 k0), .ref (L.2.1 k1), .ref (L.2.1 k2), .int x3, .int x4] : List Value).toArray s 0 0 (cp_A L)) (F0 m 14 ls []) := by
    intro n
    induction n with
    | zero =>
      intro a0 a1 a2 i3 i4 i5 i6 D H locs ls hF
      cases hF
    | succ n ih =>
      intro a0 a1 a2 i3 i4 i5 i6 D H locs ls hF hP hS hl
      unfold fn_X2_growFrom_L14 at hF
      refine lv_iload hx hb dX2_growFrom_14 (lv_at hl 6 rfl) ?_
      refine lv_iload hx hb dX2_growFrom_16 (lv_at hl 5 rfl) ?_
      refine lv_icmp_ge (tgt := 38) hx hb dX2_growFrom_18 (by decide) (fun hc2 => ?_) (fun hc2 => ?_)
      · rw [if_pos hc2] at hF
        exact cp_vret hx hb hr hlocks hF hP hS dX2_growFrom_38
      · rw [if_neg hc2] at hF
        refine lv_aload_n hx hb dX2_growFrom_21 rfl (lv_at hl 1 rfl) ?_
        refine lv_aload_n hx hb dX2_growFrom_22 rfl (lv_at hl 2 rfl) ?_
        obtain ⟨r3, er3, hF⟩ := cp_bind hF
        refine cp_getRN (T := TX1) (N := 14) (ci := 1) (j := 2) hx hb htT hinX1 hown hK hP rfl (by decide) rfl (hN _ (List.mem_of_getElem? (i := 9) rfl)) er3 dX2_growFrom_23 ?_
        refine lv_iload hx hb dX2_growFrom_26 (lv_at hl 6 rfl) ?_
        obtain ⟨v4, ev4, hF⟩ := cp_bind hF
        refine cp_bald hx hb hK hP ev4 dX2_growFrom_28 ?_
        obtain ⟨f5, ef5, hF⟩ := cp_bind hF
        obtain ⟨D6, eD6, hF⟩ := cp_bind hF
        refine cp_call (st1 := []) (va_runVN (As := [.int v4]) (rest := []) ⟨hx, hb, hml, hown, htT⟩ (ct_X1_grow l G L hJ q a1 v4 D D6 eD6) ⟨va_cnB 1 htT gdX1_grow rfl rfl rfl (hN _ (List.mem_of_getElem? (i := 83) rfl)) (htT _ tw_5) hdX1_grow ⟨Nat.le_of_ble_eq_true rfl, Nat.le_of_ble_eq_true rfl⟩, (htT _ tw_251), (htT _ tw_541)⟩ ⟨cp_blind, cp_recv hK hP rfl ef5, cp_pre hP hK hN hZ hS⟩ rfl rfl hl.1 rfl (lv_room (Nat.le_of_ble_eq_true rfl)) dX2_growFrom_29 ⟨Nat.zero_le _, Nat.zero_le _⟩) hS (fun H locs hP hS => ?_)
        refine lv_iinc (k := 6) (v := (i6 + 1)) (lv' := [(6, .int (i6 + 1)), (0, .ref (L.2.1 a0)), (1, .ref (L.2.1 a1)), (2, .ref (L.2.1 a2)), (3, .int i3), (4, .int i4), (5, .int i5)]) hx hb dX2_growFrom_32 hl rfl (congrArg (fun z => i6 + z) (by decide)) (by decide) rfl (fun ls hl => ?_)
        refine lv_goto (tgt := 14) hx hb dX2_growFrom_35 (by decide) ?_
        exact ih a0 a1 a2 i3 i4 i5 (i6 + 1) D6 _ _ _ hF hP hS (lv_sub hl [1, 2, 3, 4, 5, 6, 0] rfl)
  unfold fn_X2_growFrom at hF
  refine lv_iload hx hb dX2_growFrom_0 (lv_at hl 4 rfl) ?_
  refine lv_aload_n hx hb dX2_growFrom_2 rfl (lv_at hl 2 rfl) ?_
  obtain ⟨v1, ev1, hF⟩ := cp_bind hF
  refine cp_getIN (T := TX1) (N := 14) (ci := 1) (j := 9) hx hb htT hinX1 hown hK hP rfl (by decide) rfl (hN _ (List.mem_of_getElem? (i := 30) rfl)) ev1 dX2_growFrom_3 ?_
  refine va_mmin hx hb (by rw [hml]; exact hl.1.symm) hown (htT _ tw_334) (htT _ tw_27) (htT _ tw_3) (htT _ tw_28) (Nat.le_of_ble_eq_true rfl) (Nat.le_of_ble_eq_true rfl) (Nat.zero_le _) (Nat.zero_le _) dX2_growFrom_6 ?_
  refine lv_istore (lv' := [(5, .int (cp_mn x4 v1)), (0, .ref (L.2.1 k0)), (1, .ref (L.2.1 k1)), (2, .ref (L.2.1 k2)), (3, .int x3), (4, .int x4)]) hx hb dX2_growFrom_9 hl (by decide) rfl (fun ls hl => ?_)
  refine lv_iload_n hx hb dX2_growFrom_11 rfl (lv_at hl 4 rfl) ?_
  refine lv_istore (lv' := [(6, .int x3), (5, .int (cp_mn x4 v1)), (0, .ref (L.2.1 k0)), (1, .ref (L.2.1 k1)), (2, .ref (L.2.1 k2)), (3, .int x3), (4, .int x4)]) hx hb dX2_growFrom_12 hl (by decide) rfl (fun ls hl => ?_)
  exact hL14 q k0 k1 k2 x3 x4 (cp_mn x4 v1) x3 D _ _ _ hF hP hS (lv_sub hl [2, 3, 4, 5, 6, 1, 0] rfl)
theorem dX2_changeCode_0 : decode cX2_changeCode 0 = .ok (.aload_n 0, 1) := by decide +kernel
theorem dX2_changeCode_1 : decode cX2_changeCode 1 = .ok (.getfield 9, 3) := by decide +kernel
theorem dX2_changeCode_4 : decode cX2_changeCode 4 = .ok (.invokevirtual 109, 3) := by decide +kernel
theorem dX2_changeCode_7 : decode cX2_changeCode 7 = .ok (.iconst 4, 1) := by decide +kernel
theorem dX2_changeCode_8 : decode cX2_changeCode 8 = .ok (.irem, 1) := by decide +kernel
theorem dX2_changeCode_9 : decode cX2_changeCode 9 = .ok (.ifCond .ne 36, 3) := by decide +kernel
theorem dX2_changeCode_12 : decode cX2_changeCode 12 = .ok (.aload_n 1, 1) := by decide +kernel
theorem dX2_changeCode_13 : decode cX2_changeCode 13 = .ok (.getfield 112, 3) := by decide +kernel
theorem dX2_changeCode_16 : decode cX2_changeCode 16 = .ok (.ifCond .le 29, 3) := by decide +kernel
theorem dX2_changeCode_19 : decode cX2_changeCode 19 = .ok (.aload_n 1, 1) := by decide +kernel
theorem dX2_changeCode_20 : decode cX2_changeCode 20 = .ok (.aload_n 0, 1) := by decide +kernel
theorem dX2_changeCode_21 : decode cX2_changeCode 21 = .ok (.getfield 9, 3) := by decide +kernel
theorem dX2_changeCode_24 : decode cX2_changeCode 24 = .ok (.invokevirtual 109, 3) := by decide +kernel
theorem dX2_changeCode_27 : decode cX2_changeCode 27 = .ok (.invokevirtual 130, 3) := by decide +kernel
theorem dX2_changeCode_30 : decode cX2_changeCode 30 = .ok (.istore_n 2, 1) := by decide +kernel
theorem dX2_changeCode_31 : decode cX2_changeCode 31 = .ok (.aload_n 1, 1) := by decide +kernel
theorem dX2_changeCode_32 : decode cX2_changeCode 32 = .ok (.getfield 122, 3) := by decide +kernel
theorem dX2_changeCode_35 : decode cX2_changeCode 35 = .ok (.iload_n 2, 1) := by decide +kernel
theorem dX2_changeCode_36 : decode cX2_changeCode 36 = .ok (.aload_n 0, 1) := by decide +kernel
theorem dX2_changeCode_37 : decode cX2_changeCode 37 = .ok (.getfield 9, 3) := by decide +kernel
theorem dX2_changeCode_40 : decode cX2_changeCode 40 = .ok (.invokevirtual 109, 3) := by decide +kernel
theorem dX2_changeCode_43 : decode cX2_changeCode 43 = .ok (.i2b, 1) := by decide +kernel
theorem dX2_changeCode_44 : decode cX2_changeCode 44 = .ok (.bastore, 1) := by decide +kernel
theorem dX2_changeCode_45 : decode cX2_changeCode 45 = .ok (.return_, 1) := by decide +kernel
def fn_X2_changeCode (L : cp_Lay) (q : Nat) (k0 : Nat) (k1 : Nat) (D : cp_Dt) : Option (cp_Dt) :=
  (cp_gR L k0 2 0).bind fun r1 =>
  (cp_fl L r1 4).bind fun f2 =>
  (fn_X4_nextNumber L q r1 D).bind fun y3 =>
  if (y3.1 - y3.1 / (4 : Int32) * (4 : Int32)) = 0 then ((cp_gI L y3.2 k1 1 9).bind fun v5 =>
  if v5 ≤ 0 then (some y3.2)
  else ((cp_gR L k0 2 0).bind fun r7 =>
  (cp_fl L r7 4).bind fun f8 =>
  (fn_X4_nextNumber L q r7 y3.2).bind fun y9 =>
  (cp_fl L k1 1).bind fun f10 =>
  (fn_X1_wrapped L q k1 y9.1 y9.2).bind fun y11 =>
  (cp_gR L k1 1 2).bind fun r12 =>
  (cp_gR L k0 2 0).bind fun r13 =>
  (cp_fl L r13 4).bind fun f14 =>
  (fn_X4_nextNumber L q r13 y11.2).bind fun y15 =>
  (cp_aS L y15.2 1 r12 y11.1 y15.1.toInt8.toInt32.toInt8.toInt32).bind fun D16 =>
  some D16))
  else (some y3.2)
set_option maxHeartbeats 4000000 in
set_option maxRecDepth 100000 in
theorem ct_X2_changeCode (l : Launch) (G : va_G) (L : cp_Lay) (hJ : cp_J L) (q : Nat) (k0 : Nat) (k1 : Nat) (D : cp_Dt) (res : cp_Dt) (hF : fn_X2_changeCode L q k0 k1 D = some res) : cp_Met l G yX2_changeCode wsX2_changeCode ({ frames := 1, cells := 0, slots := 0, locals := 21 }) L ([.ref (L.2.1 k0), .ref (L.2.1 k1)] : List Value) D res none := by
  refine Met.ofW (cc := cX2_changeCode) (maxL := 3) (ret := none) (by decide) rfl ?_
  intro p e s m args below meth c s₁ B hml hv
  obtain ⟨rfl, hP, hK, hN, hZ⟩ := hv
  have hx := B.exec
  have hb := B.bytes
  have hr := B.returns
  have hts := atoms_spec (ws := wsX2_changeCode) B.pre
  have hown : s.vm.findClass "CreaturePond$Breeding" = some m.cls := findClass_of_methodNamed B.named
  have hlocks := B.notSynchronized
  have hS : va_S (cp_A L) s.heap s.heap [] := va_S.rf
  have htT : ∀ w ∈ cp_T, w.before ([.ref (L.2.1 k0), .ref (L.2.1 k1)] : List Value).toArray s = true := fun w h => hts w (List.mem_cons_of_mem _ h)
  have hl := lv_entry (([.ref (L.2.1 k0), .ref (L.2.1 k1)] : List Value)) (n := 3) (Nat.le_of_ble_eq_true rfl)
  rw [lg_entry_eq]
  generalize (lg_sl (([.ref (L.2.1 k0), .ref (L.2.1 k1)] : List Value)) ++ List.replicate (3 - (lg_sl (([.ref (L.2.1 k0), .ref (L.2.1 k1)] : List Value))).length) Slot.unset).toArray = ls at hl ⊢
  have hl : lv_has ls 3 [(0, .ref (L.2.1 k0)), (1, .ref (L.2.1 k1))] := hl
  unfold fn_X2_changeCode at hF
  refine lv_aload_n hx hb dX2_changeCode_0 rfl (lv_at hl 0 rfl) ?_
  obtain ⟨r1, er1, hF⟩ := cp_bind hF
  refine cp_getR (T := TX2) (N := 1) (ci := 2) (j := 0) hx hb htT hinX2 hown hK hP rfl (by decide) rfl (htT _ tw_133) er1 dX2_changeCode_1 ?_
  obtain ⟨f2, ef2, hF⟩ := cp_bind hF
  obtain ⟨y3, ey3, hF⟩ := cp_bind hF
  refine cp_call (st1 := [.int y3.1]) (va_runVN (As := []) (rest := []) ⟨hx, hb, hml, hown, htT⟩ (ct_X4_nextNumber l G L hJ q r1 D y3 ey3) ⟨va_cnB 0 htT gdX4_nextNumber rfl rfl rfl (hN _ (List.mem_of_getElem? (i := 82) rfl)) (htT _ tw_4) hdX4_nextNumber ⟨Nat.le_of_ble_eq_true rfl, Nat.le_of_ble_eq_true rfl⟩, (htT _ tw_328), (htT _ tw_566)⟩ ⟨cp_blind, cp_recv hK hP rfl ef2, cp_pre hP hK hN hZ hS⟩ rfl rfl hl.1 rfl (lv_room (Nat.le_of_ble_eq_true rfl)) dX2_changeCode_4 ⟨Nat.zero_le _, Nat.zero_le _⟩) hS (fun H locs hP hS => ?_)
  refine lv_iconst (v := (4 : Int32)) hx hb dX2_changeCode_7 (by decide) ?_
  refine lv_irem hx hb dX2_changeCode_8 (by decide) ?_
  refine lv_if_ne (tgt := 45) hx hb dX2_changeCode_9 (by decide) (fun hc4 => ?_) (fun hc4 => ?_)
  · rw [if_neg hc4] at hF
    exact cp_vret hx hb hr hlocks hF hP hS dX2_changeCode_45
  · rw [if_pos hc4] at hF
    refine lv_aload_n hx hb dX2_changeCode_12 rfl (lv_at hl 1 rfl) ?_
    obtain ⟨v5, ev5, hF⟩ := cp_bind hF
    refine cp_getIN (T := TX1) (N := 14) (ci := 1) (j := 9) hx hb htT hinX1 hown hK hP rfl (by decide) rfl (hN _ (List.mem_of_getElem? (i := 30) rfl)) ev5 dX2_changeCode_13 ?_
    refine lv_if_le (tgt := 45) hx hb dX2_changeCode_16 (by decide) (fun hc6 => ?_) (fun hc6 => ?_)
    · rw [if_pos hc6] at hF
      exact cp_vret hx hb hr hlocks hF hP hS dX2_changeCode_45
    · rw [if_neg hc6] at hF
      refine lv_aload_n hx hb dX2_changeCode_19 rfl (lv_at hl 1 rfl) ?_
      refine lv_aload_n hx hb dX2_changeCode_20 rfl (lv_at hl 0 rfl) ?_
      obtain ⟨r7, er7, hF⟩ := cp_bind hF
      refine cp_getR (T := TX2) (N := 1) (ci := 2) (j := 0) hx hb htT hinX2 hown hK hP rfl (by decide) rfl (htT _ tw_133) er7 dX2_changeCode_21 ?_
      obtain ⟨f8, ef8, hF⟩ := cp_bind hF
      obtain ⟨y9, ey9, hF⟩ := cp_bind hF
      refine cp_call (st1 := [.int y9.1, .ref (L.2.1 k1)]) (va_runVN (As := []) (rest := [.ref (L.2.1 k1)]) ⟨hx, hb, hml, hown, htT⟩ (ct_X4_nextNumber l G L hJ q r7 y3.2 y9 ey9) ⟨va_cnB 0 htT gdX4_nextNumber rfl rfl rfl (hN _ (List.mem_of_getElem? (i := 82) rfl)) (htT _ tw_4) hdX4_nextNumber ⟨Nat.le_of_ble_eq_true rfl, Nat.le_of_ble_eq_true rfl⟩, (htT _ tw_328), (htT _ tw_566)⟩ ⟨cp_blind, cp_recv hK hP rfl ef8, cp_pre hP hK hN hZ hS⟩ rfl rfl hl.1 rfl (lv_room (Nat.le_of_ble_eq_true rfl)) dX2_changeCode_24 ⟨Nat.zero_le _, Nat.zero_le _⟩) hS (fun H locs hP hS => ?_)
      obtain ⟨f10, ef10, hF⟩ := cp_bind hF
      obtain ⟨y11, ey11, hF⟩ := cp_bind hF
      refine cp_call (st1 := [.int y11.1]) (va_runVN (As := [.int y9.1]) (rest := []) ⟨hx, hb, hml, hown, htT⟩ (ct_X1_wrapped l G L hJ q k1 y9.1 y9.2 y11 ey11) ⟨va_cnB 1 htT gdX1_wrapped rfl rfl rfl (hN _ (List.mem_of_getElem? (i := 84) rfl)) (htT _ tw_5) hdX1_wrapped ⟨Nat.le_of_ble_eq_true rfl, Nat.le_of_ble_eq_true rfl⟩, (htT _ tw_275), (htT _ tw_548)⟩ ⟨cp_blind, cp_recv hK hP rfl ef10, cp_pre hP hK hN hZ hS⟩ rfl rfl hl.1 rfl (lv_room (Nat.le_of_ble_eq_true rfl)) dX2_changeCode_27 ⟨Nat.zero_le _, Nat.zero_le _⟩) hS (fun H locs hP hS => ?_)
      refine lv_istore_n (lv' := [(2, .int y11.1), (0, .ref (L.2.1 k0)), (1, .ref (L.2.1 k1))]) hx hb dX2_changeCode_30 rfl hl (by decide) rfl (fun ls hl => ?_)
      refine lv_aload_n hx hb dX2_changeCode_31 rfl (lv_at hl 2 rfl) ?_
      obtain ⟨r12, er12, hF⟩ := cp_bind hF
      refine cp_getRN (T := TX1) (N := 14) (ci := 1) (j := 2) hx hb htT hinX1 hown hK hP rfl (by decide) rfl (hN _ (List.mem_of_getElem? (i := 9) rfl)) er12 dX2_changeCode_32 ?_
      refine lv_iload_n hx hb dX2_changeCode_35 rfl (lv_at hl 0 rfl) ?_
      refine lv_aload_n hx hb dX2_changeCode_36 rfl (lv_at hl 1 rfl) ?_
      obtain ⟨r13, er13, hF⟩ := cp_bind hF
      refine cp_getR (T := TX2) (N := 1) (ci := 2) (j := 0) hx hb htT hinX2 hown hK hP rfl (by decide) rfl (htT _ tw_133) er13 dX2_changeCode_37 ?_
      obtain ⟨f14, ef14, hF⟩ := cp_bind hF
      obtain ⟨y15, ey15, hF⟩ := cp_bind hF
      refine cp_call (st1 := [.int y15.1, .int y11.1, .ref (L.2.1 r12)]) (va_runVN (As := []) (rest := [.int y11.1, .ref (L.2.1 r12)]) ⟨hx, hb, hml, hown, htT⟩ (ct_X4_nextNumber l G L hJ q r13 y11.2 y15 ey15) ⟨va_cnB 0 htT gdX4_nextNumber rfl rfl rfl (hN _ (List.mem_of_getElem? (i := 82) rfl)) (htT _ tw_4) hdX4_nextNumber ⟨Nat.le_of_ble_eq_true rfl, Nat.le_of_ble_eq_true rfl⟩, (htT _ tw_328), (htT _ tw_566)⟩ ⟨cp_blind, cp_recv hK hP rfl ef14, cp_pre hP hK hN hZ hS⟩ rfl rfl hl.1 rfl (lv_room (Nat.le_of_ble_eq_true rfl)) dX2_changeCode_40 ⟨Nat.zero_le _, Nat.zero_le _⟩) hS (fun H locs hP hS => ?_)
      refine lv_i2b hx hb dX2_changeCode_43 rfl ?_
      obtain ⟨D16, eD16, hF⟩ := cp_bind hF
      refine cp_bast hx hb hK hJ hP hS eD16 dX2_changeCode_44 (fun H locs hP hS => ?_)
      exact cp_vret hx hb hr hlocks hF hP hS dX2_changeCode_45
theorem dX0_set_0 : decode cX0_set 0 = .ok (.iload_n 1, 1) := by decide +kernel
theorem dX0_set_1 : decode cX0_set 1 = .ok (.ifCond .lt 9, 3) := by decide +kernel
theorem dX0_set_4 : decode cX0_set 4 = .ok (.iload_n 1, 1) := by decide +kernel
theorem dX0_set_5 : decode cX0_set 5 = .ok (.bipush 50, 2) := by decide +kernel
theorem dX0_set_7 : decode cX0_set 7 = .ok (.if_icmp .le 5, 3) := by decide +kernel
theorem dX0_set_10 : decode cX0_set 10 = .ok (.iconst 0, 1) := by decide +kernel
theorem dX0_set_11 : decode cX0_set 11 = .ok (.ireturn, 1) := by decide +kernel
theorem dX0_set_12 : decode cX0_set 12 = .ok (.aload_n 0, 1) := by decide +kernel
theorem dX0_set_13 : decode cX0_set 13 = .ok (.getfield 32, 3) := by decide +kernel
theorem dX0_set_16 : decode cX0_set 16 = .ok (.iload_n 1, 1) := by decide +kernel
theorem dX0_set_17 : decode cX0_set 17 = .ok (.putfield 55, 3) := by decide +kernel
theorem dX0_set_20 : decode cX0_set 20 = .ok (.aload_n 0, 1) := by decide +kernel
theorem dX0_set_21 : decode cX0_set 21 = .ok (.getfield 32, 3) := by decide +kernel
theorem dX0_set_24 : decode cX0_set 24 = .ok (.iload_n 2, 1) := by decide +kernel
theorem dX0_set_25 : decode cX0_set 25 = .ok (.putfield 59, 3) := by decide +kernel
theorem dX0_set_28 : decode cX0_set 28 = .ok (.iconst 1, 1) := by decide +kernel
theorem dX0_set_29 : decode cX0_set 29 = .ok (.ireturn, 1) := by decide +kernel
def fn_X0_set (L : cp_Lay) (q : Nat) (k0 : Nat) (x1 : Int32) (x2 : Int32) (D : cp_Dt) : Option (Int32 × cp_Dt) :=
  if x1 < 0 then (some ((0 : Int32), D))
  else (if x1 ≤ (50 : Int32) then ((cp_gR L k0 0 1).bind fun r3 =>
  (cp_pI L D r3 4 6 x1).bind fun D4 =>
  (cp_gR L k0 0 1).bind fun r5 =>
  (cp_pI L D4 r5 4 7 x2).bind fun D6 =>
  some ((1 : Int32), D6))
  else (some ((0 : Int32), D)))
set_option maxHeartbeats 4000000 in
set_option maxRecDepth 100000 in
theorem ct_X0_set (l : Launch) (G : va_G) (L : cp_Lay) (hJ : cp_J L) (q : Nat) (k0 : Nat) (x1 : Int32) (x2 : Int32) (D : cp_Dt) (res : Int32 × cp_Dt) (hF : fn_X0_set L q k0 x1 x2 D = some res) : cp_Met l G yX0_set wsX0_set ({ frames := 0, cells := 0, slots := 0, locals := 0 }) L ([.ref (L.2.1 k0), .int x1, .int x2] : List Value) D res.2 (some (.int res.1)) := by
  refine Met.ofW (cc := cX0_set) (maxL := 3) (ret := (some .boolean)) (by decide) rfl ?_
  intro p e s m args below meth c s₁ B hml hv
  obtain ⟨rfl, hP, hK, hN, hZ⟩ := hv
  have hx := B.exec
  have hb := B.bytes
  have hr := B.returns
  have hts := atoms_spec (ws := wsX0_set) B.pre
  have hown : s.vm.findClass "CreaturePond" = some m.cls := findClass_of_methodNamed B.named
  have hlocks := B.notSynchronized
  have hS : va_S (cp_A L) s.heap s.heap [] := va_S.rf
  have htT : ∀ w ∈ cp_T, w.before ([.ref (L.2.1 k0), .int x1, .int x2] : List Value).toArray s = true := fun w h => hts w (List.mem_cons_of_mem _ h)
  have hl := lv_entry (([.ref (L.2.1 k0), .int x1, .int x2] : List Value)) (n := 3) (Nat.le_of_ble_eq_true rfl)
  rw [lg_entry_eq]
  generalize (lg_sl (([.ref (L.2.1 k0), .int x1, .int x2] : List Value)) ++ List.replicate (3 - (lg_sl (([.ref (L.2.1 k0), .int x1, .int x2] : List Value))).length) Slot.unset).toArray = ls at hl ⊢
  have hl : lv_has ls 3 [(0, .ref (L.2.1 k0)), (1, .int x1), (2, .int x2)] := hl
  unfold fn_X0_set at hF
  refine lv_iload_n hx hb dX0_set_0 rfl (lv_at hl 1 rfl) ?_
  refine lv_if_lt (tgt := 10) hx hb dX0_set_1 (by decide) (fun hc1 => ?_) (fun hc1 => ?_)
  · rw [if_pos hc1] at hF
    refine lv_iconst (v := (0 : Int32)) hx hb dX0_set_10 (by decide) ?_
    exact cp_zret hx hb hr hlocks (by decide) hF hP hS dX0_set_11
  · rw [if_neg hc1] at hF
    refine lv_iload_n hx hb dX0_set_4 rfl (lv_at hl 1 rfl) ?_
    refine lv_bipush (v := (50 : Int32)) hx hb dX0_set_5 (by decide) ?_
    refine lv_icmp_le (tgt := 12) hx hb dX0_set_7 (by decide) (fun hc2 => ?_) (fun hc2 => ?_)
    · rw [if_pos hc2] at hF
      refine lv_aload_n hx hb dX0_set_12 rfl (lv_at hl 0 rfl) ?_
      obtain ⟨r3, er3, hF⟩ := cp_bind hF
      refine cp_getR (T := TX0) (N := 6) (ci := 0) (j := 1) hx hb htT hinX0 hown hK hP rfl (by decide) rfl (htT _ tw_136) er3 dX0_set_13 ?_
      refine lv_iload_n hx hb dX0_set_16 rfl (lv_at hl 1 rfl) ?_
      obtain ⟨D4, eD4, hF⟩ := cp_bind hF
      refine cp_putN (T := TX4) (N := 12) (ci := 4) (j := 6) hx hb htT hinX4 tyX4 tyX4_ok nmX4 hown hK hJ hP hS rfl (by decide) rfl (hN _ (List.mem_of_getElem? (i := 47) rfl)) rfl rfl rfl eD4 dX0_set_17 (fun H locs hP hS => ?_)
      refine lv_aload_n hx hb dX0_set_20 rfl (lv_at hl 0 rfl) ?_
      obtain ⟨r5, er5, hF⟩ := cp_bind hF
      refine cp_getR (T := TX0) (N := 6) (ci := 0) (j := 1) hx hb htT hinX0 hown hK hP rfl (by decide) rfl (htT _ tw_136) er5 dX0_set_21 ?_
      refine lv_iload_n hx hb dX0_set_24 rfl (lv_at hl 2 rfl) ?_
      obtain ⟨D6, eD6, hF⟩ := cp_bind hF
      refine cp_putN (T := TX4) (N := 12) (ci := 4) (j := 7) hx hb htT hinX4 tyX4 tyX4_ok nmX4 hown hK hJ hP hS rfl (by decide) rfl (hN _ (List.mem_of_getElem? (i := 48) rfl)) rfl rfl rfl eD6 dX0_set_25 (fun H locs hP hS => ?_)
      refine lv_iconst (v := (1 : Int32)) hx hb dX0_set_28 (by decide) ?_
      exact cp_zret hx hb hr hlocks (by decide) hF hP hS dX0_set_29
    · rw [if_neg hc2] at hF
      refine lv_iconst (v := (0 : Int32)) hx hb dX0_set_10 (by decide) ?_
      exact cp_zret hx hb hr hlocks (by decide) hF hP hS dX0_set_11
theorem dX0_store_0 : decode cX0_store 0 = .ok (.iload_n 1, 1) := by decide +kernel
theorem dX0_store_1 : decode cX0_store 1 = .ok (.ifCond .lt 24, 3) := by decide +kernel
theorem dX0_store_4 : decode cX0_store 4 = .ok (.iload_n 1, 1) := by decide +kernel
theorem dX0_store_5 : decode cX0_store 5 = .ok (.sipush 10000, 3) := by decide +kernel
theorem dX0_store_8 : decode cX0_store 8 = .ok (.if_icmp .gt 17, 3) := by decide +kernel
theorem dX0_store_11 : decode cX0_store 11 = .ok (.aload_n 0, 1) := by decide +kernel
theorem dX0_store_12 : decode cX0_store 12 = .ok (.getfield 32, 3) := by decide +kernel
theorem dX0_store_15 : decode cX0_store 15 = .ok (.getfield 62, 3) := by decide +kernel
theorem dX0_store_18 : decode cX0_store 18 = .ok (.iload_n 1, 1) := by decide +kernel
theorem dX0_store_19 : decode cX0_store 19 = .ok (.iadd, 1) := by decide +kernel
theorem dX0_store_20 : decode cX0_store 20 = .ok (.ldc 65, 2) := by decide +kernel
theorem dX0_store_22 : decode cX0_store 22 = .ok (.if_icmp .le 5, 3) := by decide +kernel
theorem dX0_store_25 : decode cX0_store 25 = .ok (.iconst 0, 1) := by decide +kernel
theorem dX0_store_26 : decode cX0_store 26 = .ok (.ireturn, 1) := by decide +kernel
theorem dX0_store_27 : decode cX0_store 27 = .ok (.aload_n 0, 1) := by decide +kernel
theorem dX0_store_28 : decode cX0_store 28 = .ok (.getfield 32, 3) := by decide +kernel
theorem dX0_store_31 : decode cX0_store 31 = .ok (.dup, 1) := by decide +kernel
theorem dX0_store_32 : decode cX0_store 32 = .ok (.getfield 62, 3) := by decide +kernel
theorem dX0_store_35 : decode cX0_store 35 = .ok (.iload_n 1, 1) := by decide +kernel
theorem dX0_store_36 : decode cX0_store 36 = .ok (.iadd, 1) := by decide +kernel
theorem dX0_store_37 : decode cX0_store 37 = .ok (.putfield 62, 3) := by decide +kernel
theorem dX0_store_40 : decode cX0_store 40 = .ok (.iconst 1, 1) := by decide +kernel
theorem dX0_store_41 : decode cX0_store 41 = .ok (.ireturn, 1) := by decide +kernel
def fn_X0_store (L : cp_Lay) (q : Nat) (k0 : Nat) (x1 : Int32) (D : cp_Dt) : Option (Int32 × cp_Dt) :=
  if x1 < 0 then (some ((0 : Int32), D))
  else (if (10000 : Int32) < x1 then (some ((0 : Int32), D))
  else ((cp_gR L k0 0 1).bind fun r3 =>
  (cp_gI L D r3 4 5).bind fun v4 =>
  if (v4 + x1) ≤ (1000000 : Int32) then ((cp_gR L k0 0 1).bind fun r6 =>
  (cp_gI L D r6 4 5).bind fun v7 =>
  (cp_pI L D r6 4 5 (v7 + x1)).bind fun D8 =>
  some ((1 : Int32), D8))
  else (some ((0 : Int32), D))))
set_option maxHeartbeats 4000000 in
set_option maxRecDepth 100000 in
theorem ct_X0_store (l : Launch) (G : va_G) (L : cp_Lay) (hJ : cp_J L) (q : Nat) (k0 : Nat) (x1 : Int32) (D : cp_Dt) (res : Int32 × cp_Dt) (hF : fn_X0_store L q k0 x1 D = some res) : cp_Met l G yX0_store wsX0_store ({ frames := 0, cells := 0, slots := 0, locals := 0 }) L ([.ref (L.2.1 k0), .int x1] : List Value) D res.2 (some (.int res.1)) := by
  refine Met.ofW (cc := cX0_store) (maxL := 2) (ret := (some .boolean)) (by decide) rfl ?_
  intro p e s m args below meth c s₁ B hml hv
  obtain ⟨rfl, hP, hK, hN, hZ⟩ := hv
  have hx := B.exec
  have hb := B.bytes
  have hr := B.returns
  have hts := atoms_spec (ws := wsX0_store) B.pre
  have hown : s.vm.findClass "CreaturePond" = some m.cls := findClass_of_methodNamed B.named
  have hlocks := B.notSynchronized
  have hS : va_S (cp_A L) s.heap s.heap [] := va_S.rf
  have htT : ∀ w ∈ cp_T, w.before ([.ref (L.2.1 k0), .int x1] : List Value).toArray s = true := fun w h => hts w (List.mem_cons_of_mem _ h)
  have hl := lv_entry (([.ref (L.2.1 k0), .int x1] : List Value)) (n := 2) (Nat.le_of_ble_eq_true rfl)
  rw [lg_entry_eq]
  generalize (lg_sl (([.ref (L.2.1 k0), .int x1] : List Value)) ++ List.replicate (2 - (lg_sl (([.ref (L.2.1 k0), .int x1] : List Value))).length) Slot.unset).toArray = ls at hl ⊢
  have hl : lv_has ls 2 [(0, .ref (L.2.1 k0)), (1, .int x1)] := hl
  unfold fn_X0_store at hF
  refine lv_iload_n hx hb dX0_store_0 rfl (lv_at hl 1 rfl) ?_
  refine lv_if_lt (tgt := 25) hx hb dX0_store_1 (by decide) (fun hc1 => ?_) (fun hc1 => ?_)
  · rw [if_pos hc1] at hF
    refine lv_iconst (v := (0 : Int32)) hx hb dX0_store_25 (by decide) ?_
    exact cp_zret hx hb hr hlocks (by decide) hF hP hS dX0_store_26
  · rw [if_neg hc1] at hF
    refine lv_iload_n hx hb dX0_store_4 rfl (lv_at hl 1 rfl) ?_
    refine lv_sipush (v := (10000 : Int32)) hx hb dX0_store_5 (by decide) ?_
    refine lv_icmp_gt (tgt := 25) hx hb dX0_store_8 (by decide) (fun hc2 => ?_) (fun hc2 => ?_)
    · rw [if_pos hc2] at hF
      refine lv_iconst (v := (0 : Int32)) hx hb dX0_store_25 (by decide) ?_
      exact cp_zret hx hb hr hlocks (by decide) hF hP hS dX0_store_26
    · rw [if_neg hc2] at hF
      refine lv_aload_n hx hb dX0_store_11 rfl (lv_at hl 0 rfl) ?_
      obtain ⟨r3, er3, hF⟩ := cp_bind hF
      refine cp_getR (T := TX0) (N := 6) (ci := 0) (j := 1) hx hb htT hinX0 hown hK hP rfl (by decide) rfl (htT _ tw_136) er3 dX0_store_12 ?_
      obtain ⟨v4, ev4, hF⟩ := cp_bind hF
      refine cp_getIN (T := TX4) (N := 12) (ci := 4) (j := 5) hx hb htT hinX4 hown hK hP rfl (by decide) rfl (hN _ (List.mem_of_getElem? (i := 46) rfl)) ev4 dX0_store_15 ?_
      refine lv_iload_n hx hb dX0_store_18 rfl (lv_at hl 1 rfl) ?_
      refine lv_iadd hx hb dX0_store_19 ?_
      refine lv_ldc (v := (1000000 : Int32)) hx hb hown (htT _ tw_155) dX0_store_20 ?_
      refine lv_icmp_le (tgt := 27) hx hb dX0_store_22 (by decide) (fun hc5 => ?_) (fun hc5 => ?_)
      · rw [if_pos hc5] at hF
        refine lv_aload_n hx hb dX0_store_27 rfl (lv_at hl 0 rfl) ?_
        obtain ⟨r6, er6, hF⟩ := cp_bind hF
        refine cp_getR (T := TX0) (N := 6) (ci := 0) (j := 1) hx hb htT hinX0 hown hK hP rfl (by decide) rfl (htT _ tw_136) er6 dX0_store_28 ?_
        refine lv_dup hx hb dX0_store_31 rfl ?_
        obtain ⟨v7, ev7, hF⟩ := cp_bind hF
        refine cp_getIN (T := TX4) (N := 12) (ci := 4) (j := 5) hx hb htT hinX4 hown hK hP rfl (by decide) rfl (hN _ (List.mem_of_getElem? (i := 46) rfl)) ev7 dX0_store_32 ?_
        refine lv_iload_n hx hb dX0_store_35 rfl (lv_at hl 1 rfl) ?_
        refine lv_iadd hx hb dX0_store_36 ?_
        obtain ⟨D8, eD8, hF⟩ := cp_bind hF
        refine cp_putN (T := TX4) (N := 12) (ci := 4) (j := 5) hx hb htT hinX4 tyX4 tyX4_ok nmX4 hown hK hJ hP hS rfl (by decide) rfl (hN _ (List.mem_of_getElem? (i := 46) rfl)) rfl rfl rfl eD8 dX0_store_37 (fun H locs hP hS => ?_)
        refine lv_iconst (v := (1 : Int32)) hx hb dX0_store_40 (by decide) ?_
        exact cp_zret hx hb hr hlocks (by decide) hF hP hS dX0_store_41
      · rw [if_neg hc5] at hF
        refine lv_iconst (v := (0 : Int32)) hx hb dX0_store_25 (by decide) ?_
        exact cp_zret hx hb hr hlocks (by decide) hF hP hS dX0_store_26
theorem dX0_grain_0 : decode cX0_grain 0 = .ok (.iload_n 3, 1) := by decide +kernel
theorem dX0_grain_1 : decode cX0_grain 1 = .ok (.ifCond .lt 10, 3) := by decide +kernel
theorem dX0_grain_4 : decode cX0_grain 4 = .ok (.iload_n 3, 1) := by decide +kernel
theorem dX0_grain_5 : decode cX0_grain 5 = .ok (.sipush 250, 3) := by decide +kernel
theorem dX0_grain_8 : decode cX0_grain 8 = .ok (.if_icmp .le 5, 3) := by decide +kernel
theorem dX0_grain_11 : decode cX0_grain 11 = .ok (.iconst 0, 1) := by decide +kernel
theorem dX0_grain_12 : decode cX0_grain 12 = .ok (.ireturn, 1) := by decide +kernel
theorem dX0_grain_13 : decode cX0_grain 13 = .ok (.aload_n 0, 1) := by decide +kernel
theorem dX0_grain_14 : decode cX0_grain 14 = .ok (.getfield 32, 3) := by decide +kernel
theorem dX0_grain_17 : decode cX0_grain 17 = .ok (.getfield 66, 3) := by decide +kernel
theorem dX0_grain_20 : decode cX0_grain 20 = .ok (.aload_n 0, 1) := by decide +kernel
theorem dX0_grain_21 : decode cX0_grain 21 = .ok (.getfield 23, 3) := by decide +kernel
theorem dX0_grain_24 : decode cX0_grain 24 = .ok (.iload_n 1, 1) := by decide +kernel
theorem dX0_grain_25 : decode cX0_grain 25 = .ok (.iload_n 2, 1) := by decide +kernel
theorem dX0_grain_26 : decode cX0_grain 26 = .ok (.invokevirtual 70, 3) := by decide +kernel
theorem dX0_grain_29 : decode cX0_grain 29 = .ok (.iload_n 3, 1) := by decide +kernel
theorem dX0_grain_30 : decode cX0_grain 30 = .ok (.iastore, 1) := by decide +kernel
theorem dX0_grain_31 : decode cX0_grain 31 = .ok (.iconst 1, 1) := by decide +kernel
theorem dX0_grain_32 : decode cX0_grain 32 = .ok (.ireturn, 1) := by decide +kernel
def fn_X0_grain (L : cp_Lay) (q : Nat) (k0 : Nat) (x1 : Int32) (x2 : Int32) (x3 : Int32) (D : cp_Dt) : Option (Int32 × cp_Dt) :=
  if x3 < 0 then (some ((0 : Int32), D))
  else (if x3 ≤ (250 : Int32) then ((cp_gR L k0 0 1).bind fun r3 =>
  (cp_gR L r3 4 1).bind fun r4 =>
  (cp_gR L k0 0 0).bind fun r5 =>
  (cp_fl L r5 5).bind fun f6 =>
  (fn_X5_cellAt L q r5 x1 x2 D).bind fun y7 =>
  (cp_aS L y7.2 0 r4 y7.1 x3).bind fun D8 =>
  some ((1 : Int32), D8))
  else (some ((0 : Int32), D)))
set_option maxHeartbeats 4000000 in
set_option maxRecDepth 100000 in
theorem ct_X0_grain (l : Launch) (G : va_G) (L : cp_Lay) (hJ : cp_J L) (q : Nat) (k0 : Nat) (x1 : Int32) (x2 : Int32) (x3 : Int32) (D : cp_Dt) (res : Int32 × cp_Dt) (hF : fn_X0_grain L q k0 x1 x2 x3 D = some res) : cp_Met l G yX0_grain wsX0_grain ({ frames := 2, cells := 0, slots := 0, locals := 44 }) L ([.ref (L.2.1 k0), .int x1, .int x2, .int x3] : List Value) D res.2 (some (.int res.1)) := by
  refine Met.ofW (cc := cX0_grain) (maxL := 4) (ret := (some .boolean)) (by decide) rfl ?_
  intro p e s m args below meth c s₁ B hml hv
  obtain ⟨rfl, hP, hK, hN, hZ⟩ := hv
  have hx := B.exec
  have hb := B.bytes
  have hr := B.returns
  have hts := atoms_spec (ws := wsX0_grain) B.pre
  have hown : s.vm.findClass "CreaturePond" = some m.cls := findClass_of_methodNamed B.named
  have hlocks := B.notSynchronized
  have hS : va_S (cp_A L) s.heap s.heap [] := va_S.rf
  have htT : ∀ w ∈ cp_T, w.before ([.ref (L.2.1 k0), .int x1, .int x2, .int x3] : List Value).toArray s = true := fun w h => hts w (List.mem_cons_of_mem _ h)
  have hl := lv_entry (([.ref (L.2.1 k0), .int x1, .int x2, .int x3] : List Value)) (n := 4) (Nat.le_of_ble_eq_true rfl)
  rw [lg_entry_eq]
  generalize (lg_sl (([.ref (L.2.1 k0), .int x1, .int x2, .int x3] : List Value)) ++ List.replicate (4 - (lg_sl (([.ref (L.2.1 k0), .int x1, .int x2, .int x3] : List Value))).length) Slot.unset).toArray = ls at hl ⊢
  have hl : lv_has ls 4 [(0, .ref (L.2.1 k0)), (1, .int x1), (2, .int x2), (3, .int x3)] := hl
  unfold fn_X0_grain at hF
  refine lv_iload_n hx hb dX0_grain_0 rfl (lv_at hl 3 rfl) ?_
  refine lv_if_lt (tgt := 11) hx hb dX0_grain_1 (by decide) (fun hc1 => ?_) (fun hc1 => ?_)
  · rw [if_pos hc1] at hF
    refine lv_iconst (v := (0 : Int32)) hx hb dX0_grain_11 (by decide) ?_
    exact cp_zret hx hb hr hlocks (by decide) hF hP hS dX0_grain_12
  · rw [if_neg hc1] at hF
    refine lv_iload_n hx hb dX0_grain_4 rfl (lv_at hl 3 rfl) ?_
    refine lv_sipush (v := (250 : Int32)) hx hb dX0_grain_5 (by decide) ?_
    refine lv_icmp_le (tgt := 13) hx hb dX0_grain_8 (by decide) (fun hc2 => ?_) (fun hc2 => ?_)
    · rw [if_pos hc2] at hF
      refine lv_aload_n hx hb dX0_grain_13 rfl (lv_at hl 0 rfl) ?_
      obtain ⟨r3, er3, hF⟩ := cp_bind hF
      refine cp_getR (T := TX0) (N := 6) (ci := 0) (j := 1) hx hb htT hinX0 hown hK hP rfl (by decide) rfl (htT _ tw_136) er3 dX0_grain_14 ?_
      obtain ⟨r4, er4, hF⟩ := cp_bind hF
      refine cp_getRN (T := TX4) (N := 12) (ci := 4) (j := 1) hx hb htT hinX4 hown hK hP rfl (by decide) rfl (hN _ (List.mem_of_getElem? (i := 36) rfl)) er4 dX0_grain_17 ?_
      refine lv_aload_n hx hb dX0_grain_20 rfl (lv_at hl 0 rfl) ?_
      obtain ⟨r5, er5, hF⟩ := cp_bind hF
      refine cp_getR (T := TX0) (N := 6) (ci := 0) (j := 0) hx hb htT hinX0 hown hK hP rfl (by decide) rfl (htT _ tw_135) er5 dX0_grain_21 ?_
      refine lv_iload_n hx hb dX0_grain_24 rfl (lv_at hl 1 rfl) ?_
      refine lv_iload_n hx hb dX0_grain_25 rfl (lv_at hl 2 rfl) ?_
      obtain ⟨f6, ef6, hF⟩ := cp_bind hF
      obtain ⟨y7, ey7, hF⟩ := cp_bind hF
      refine cp_call (st1 := [.int y7.1, .ref (L.2.1 r4)]) (va_runVN (As := [.int x1, .int x2]) (rest := [.ref (L.2.1 r4)]) ⟨hx, hb, hml, hown, htT⟩ (ct_X5_cellAt l G L hJ q r5 x1 x2 D y7 ey7) ⟨va_cnB 2 htT gdX5_cellAt rfl rfl rfl (hN _ (List.mem_of_getElem? (i := 56) rfl)) (htT _ tw_2) hdX5_cellAt ⟨Nat.le_of_ble_eq_true rfl, Nat.le_of_ble_eq_true rfl⟩, (htT _ tw_44), (htT _ tw_530)⟩ ⟨cp_blind, cp_recv hK hP rfl ef6, cp_pre hP hK hN hZ hS⟩ rfl rfl hl.1 rfl (lv_room (Nat.le_of_ble_eq_true rfl)) dX0_grain_26 ⟨Nat.zero_le _, Nat.zero_le _⟩) hS (fun H locs hP hS => ?_)
      refine lv_iload_n hx hb dX0_grain_29 rfl (lv_at hl 3 rfl) ?_
      obtain ⟨D8, eD8, hF⟩ := cp_bind hF
      refine cp_iast hx hb hK hJ hP hS eD8 dX0_grain_30 (fun H locs hP hS => ?_)
      refine lv_iconst (v := (1 : Int32)) hx hb dX0_grain_31 (by decide) ?_
      exact cp_zret hx hb hr hlocks (by decide) hF hP hS dX0_grain_32
    · rw [if_neg hc2] at hF
      refine lv_iconst (v := (0 : Int32)) hx hb dX0_grain_11 (by decide) ?_
      exact cp_zret hx hb hr hlocks (by decide) hF hP hS dX0_grain_12
theorem dX0_cell_0 : decode cX0_cell 0 = .ok (.aload_n 0, 1) := by decide +kernel
theorem dX0_cell_1 : decode cX0_cell 1 = .ok (.getfield 23, 3) := by decide +kernel
theorem dX0_cell_4 : decode cX0_cell 4 = .ok (.iload_n 1, 1) := by decide +kernel
theorem dX0_cell_5 : decode cX0_cell 5 = .ok (.iload_n 2, 1) := by decide +kernel
theorem dX0_cell_6 : decode cX0_cell 6 = .ok (.invokevirtual 70, 3) := by decide +kernel
theorem dX0_cell_9 : decode cX0_cell 9 = .ok (.istore 4, 2) := by decide +kernel
theorem dX0_cell_11 : decode cX0_cell 11 = .ok (.iload_n 3, 1) := by decide +kernel
theorem dX0_cell_12 : decode cX0_cell 12 = .ok (.tableswitch 61 0 2 #[28, 39, 50], 28) := by decide +kernel
theorem dX0_cell_40 : decode cX0_cell 40 = .ok (.aload_n 0, 1) := by decide +kernel
theorem dX0_cell_41 : decode cX0_cell 41 = .ok (.getfield 32, 3) := by decide +kernel
theorem dX0_cell_44 : decode cX0_cell 44 = .ok (.getfield 66, 3) := by decide +kernel
theorem dX0_cell_47 : decode cX0_cell 47 = .ok (.iload 4, 2) := by decide +kernel
theorem dX0_cell_49 : decode cX0_cell 49 = .ok (.iaload, 1) := by decide +kernel
theorem dX0_cell_50 : decode cX0_cell 50 = .ok (.ireturn, 1) := by decide +kernel
theorem dX0_cell_51 : decode cX0_cell 51 = .ok (.aload_n 0, 1) := by decide +kernel
theorem dX0_cell_52 : decode cX0_cell 52 = .ok (.getfield 32, 3) := by decide +kernel
theorem dX0_cell_55 : decode cX0_cell 55 = .ok (.getfield 137, 3) := by decide +kernel
theorem dX0_cell_58 : decode cX0_cell 58 = .ok (.iload 4, 2) := by decide +kernel
theorem dX0_cell_60 : decode cX0_cell 60 = .ok (.baload, 1) := by decide +kernel
theorem dX0_cell_61 : decode cX0_cell 61 = .ok (.ireturn, 1) := by decide +kernel
theorem dX0_cell_62 : decode cX0_cell 62 = .ok (.aload_n 0, 1) := by decide +kernel
theorem dX0_cell_63 : decode cX0_cell 63 = .ok (.getfield 32, 3) := by decide +kernel
theorem dX0_cell_66 : decode cX0_cell 66 = .ok (.getfield 84, 3) := by decide +kernel
theorem dX0_cell_69 : decode cX0_cell 69 = .ok (.iload 4, 2) := by decide +kernel
theorem dX0_cell_71 : decode cX0_cell 71 = .ok (.iaload, 1) := by decide +kernel
theorem dX0_cell_72 : decode cX0_cell 72 = .ok (.ireturn, 1) := by decide +kernel
theorem dX0_cell_73 : decode cX0_cell 73 = .ok (.iconst (-1), 1) := by decide +kernel
theorem dX0_cell_74 : decode cX0_cell 74 = .ok (.ireturn, 1) := by decide +kernel
def fn_X0_cell (L : cp_Lay) (q : Nat) (k0 : Nat) (x1 : Int32) (x2 : Int32) (x3 : Int32) (D : cp_Dt) : Option (Int32 × cp_Dt) :=
  (cp_gR L k0 0 0).bind fun r1 =>
  (cp_fl L r1 5).bind fun f2 =>
  (fn_X5_cellAt L q r1 x1 x2 D).bind fun y3 =>
  if x3 = (0 : Int32) then ((cp_gR L k0 0 1).bind fun r5 =>
  (cp_gR L r5 4 1).bind fun r6 =>
  (cp_aI L y3.2 0 r6 y3.1).bind fun v7 =>
  some (v7, y3.2))
  else if x3 = (1 : Int32) then ((cp_gR L k0 0 1).bind fun r9 =>
  (cp_gR L r9 4 2).bind fun r10 =>
  (cp_aI L y3.2 1 r10 y3.1).bind fun v11 =>
  some (v11, y3.2))
  else if x3 = (2 : Int32) then ((cp_gR L k0 0 1).bind fun r13 =>
  (cp_gR L r13 4 3).bind fun r14 =>
  (cp_aI L y3.2 0 r14 y3.1).bind fun v15 =>
  some (v15, y3.2))
  else (some ((-1 : Int32), y3.2))
set_option maxHeartbeats 4000000 in
set_option maxRecDepth 100000 in
theorem ct_X0_cell (l : Launch) (G : va_G) (L : cp_Lay) (hJ : cp_J L) (q : Nat) (k0 : Nat) (x1 : Int32) (x2 : Int32) (x3 : Int32) (D : cp_Dt) (res : Int32 × cp_Dt) (hF : fn_X0_cell L q k0 x1 x2 x3 D = some res) : cp_Met l G yX0_cell wsX0_cell ({ frames := 2, cells := 0, slots := 0, locals := 44 }) L ([.ref (L.2.1 k0), .int x1, .int x2, .int x3] : List Value) D res.2 (some (.int res.1)) := by
  refine Met.ofW (cc := cX0_cell) (maxL := 5) (ret := (some .int)) (by decide) rfl ?_
  intro p e s m args below meth c s₁ B hml hv
  obtain ⟨rfl, hP, hK, hN, hZ⟩ := hv
  have hx := B.exec
  have hb := B.bytes
  have hr := B.returns
  have hts := atoms_spec (ws := wsX0_cell) B.pre
  have hown : s.vm.findClass "CreaturePond" = some m.cls := findClass_of_methodNamed B.named
  have hlocks := B.notSynchronized
  have hS : va_S (cp_A L) s.heap s.heap [] := va_S.rf
  have htT : ∀ w ∈ cp_T, w.before ([.ref (L.2.1 k0), .int x1, .int x2, .int x3] : List Value).toArray s = true := fun w h => hts w (List.mem_cons_of_mem _ h)
  have hl := lv_entry (([.ref (L.2.1 k0), .int x1, .int x2, .int x3] : List Value)) (n := 5) (Nat.le_of_ble_eq_true rfl)
  rw [lg_entry_eq]
  generalize (lg_sl (([.ref (L.2.1 k0), .int x1, .int x2, .int x3] : List Value)) ++ List.replicate (5 - (lg_sl (([.ref (L.2.1 k0), .int x1, .int x2, .int x3] : List Value))).length) Slot.unset).toArray = ls at hl ⊢
  have hl : lv_has ls 5 [(0, .ref (L.2.1 k0)), (1, .int x1), (2, .int x2), (3, .int x3)] := hl
  unfold fn_X0_cell at hF
  refine lv_aload_n hx hb dX0_cell_0 rfl (lv_at hl 0 rfl) ?_
  obtain ⟨r1, er1, hF⟩ := cp_bind hF
  refine cp_getR (T := TX0) (N := 6) (ci := 0) (j := 0) hx hb htT hinX0 hown hK hP rfl (by decide) rfl (htT _ tw_135) er1 dX0_cell_1 ?_
  refine lv_iload_n hx hb dX0_cell_4 rfl (lv_at hl 1 rfl) ?_
  refine lv_iload_n hx hb dX0_cell_5 rfl (lv_at hl 2 rfl) ?_
  obtain ⟨f2, ef2, hF⟩ := cp_bind hF
  obtain ⟨y3, ey3, hF⟩ := cp_bind hF
  refine cp_call (st1 := [.int y3.1]) (va_runVN (As := [.int x1, .int x2]) (rest := []) ⟨hx, hb, hml, hown, htT⟩ (ct_X5_cellAt l G L hJ q r1 x1 x2 D y3 ey3) ⟨va_cnB 2 htT gdX5_cellAt rfl rfl rfl (hN _ (List.mem_of_getElem? (i := 56) rfl)) (htT _ tw_2) hdX5_cellAt ⟨Nat.le_of_ble_eq_true rfl, Nat.le_of_ble_eq_true rfl⟩, (htT _ tw_44), (htT _ tw_530)⟩ ⟨cp_blind, cp_recv hK hP rfl ef2, cp_pre hP hK hN hZ hS⟩ rfl rfl hl.1 rfl (lv_room (Nat.le_of_ble_eq_true rfl)) dX0_cell_6 ⟨Nat.zero_le _, Nat.zero_le _⟩) hS (fun H locs hP hS => ?_)
  refine lv_istore (lv' := [(4, .int y3.1), (0, .ref (L.2.1 k0)), (1, .int x1), (2, .int x2), (3, .int x3)]) hx hb dX0_cell_9 hl (by decide) rfl (fun ls hl => ?_)
  refine lv_iload_n hx hb dX0_cell_11 rfl (lv_at hl 4 rfl) ?_
  by_cases hc4 : x3 = (0 : Int32)
  · rw [if_pos hc4] at hF
    refine lv_tableIn (tgt := 40) hx hb dX0_cell_12 (by rw [hc4]; decide) (by rw [hc4]; decide) (by rw [hc4]; rfl) (by decide) ?_
    refine lv_aload_n hx hb dX0_cell_40 rfl (lv_at hl 1 rfl) ?_
    obtain ⟨r5, er5, hF⟩ := cp_bind hF
    refine cp_getR (T := TX0) (N := 6) (ci := 0) (j := 1) hx hb htT hinX0 hown hK hP rfl (by decide) rfl (htT _ tw_136) er5 dX0_cell_41 ?_
    obtain ⟨r6, er6, hF⟩ := cp_bind hF
    refine cp_getRN (T := TX4) (N := 12) (ci := 4) (j := 1) hx hb htT hinX4 hown hK hP rfl (by decide) rfl (hN _ (List.mem_of_getElem? (i := 36) rfl)) er6 dX0_cell_44 ?_
    refine lv_iload hx hb dX0_cell_47 (lv_at hl 0 rfl) ?_
    obtain ⟨v7, ev7, hF⟩ := cp_bind hF
    refine cp_iald hx hb hK hP ev7 dX0_cell_49 ?_
    exact cp_iret hx hb hr hlocks hF hP hS dX0_cell_50
  · rw [if_neg hc4] at hF
    by_cases hc8 : x3 = (1 : Int32)
    · rw [if_pos hc8] at hF
      refine lv_tableIn (tgt := 51) hx hb dX0_cell_12 (by rw [hc8]; decide) (by rw [hc8]; decide) (by rw [hc8]; rfl) (by decide) ?_
      refine lv_aload_n hx hb dX0_cell_51 rfl (lv_at hl 1 rfl) ?_
      obtain ⟨r9, er9, hF⟩ := cp_bind hF
      refine cp_getR (T := TX0) (N := 6) (ci := 0) (j := 1) hx hb htT hinX0 hown hK hP rfl (by decide) rfl (htT _ tw_136) er9 dX0_cell_52 ?_
      obtain ⟨r10, er10, hF⟩ := cp_bind hF
      refine cp_getRN (T := TX4) (N := 12) (ci := 4) (j := 2) hx hb htT hinX4 hown hK hP rfl (by decide) rfl (hN _ (List.mem_of_getElem? (i := 38) rfl)) er10 dX0_cell_55 ?_
      refine lv_iload hx hb dX0_cell_58 (lv_at hl 0 rfl) ?_
      obtain ⟨v11, ev11, hF⟩ := cp_bind hF
      refine cp_bald hx hb hK hP ev11 dX0_cell_60 ?_
      exact cp_iret hx hb hr hlocks hF hP hS dX0_cell_61
    · rw [if_neg hc8] at hF
      by_cases hc12 : x3 = (2 : Int32)
      · rw [if_pos hc12] at hF
        refine lv_tableIn (tgt := 62) hx hb dX0_cell_12 (by rw [hc12]; decide) (by rw [hc12]; decide) (by rw [hc12]; rfl) (by decide) ?_
        refine lv_aload_n hx hb dX0_cell_62 rfl (lv_at hl 1 rfl) ?_
        obtain ⟨r13, er13, hF⟩ := cp_bind hF
        refine cp_getR (T := TX0) (N := 6) (ci := 0) (j := 1) hx hb htT hinX0 hown hK hP rfl (by decide) rfl (htT _ tw_136) er13 dX0_cell_63 ?_
        obtain ⟨r14, er14, hF⟩ := cp_bind hF
        refine cp_getRN (T := TX4) (N := 12) (ci := 4) (j := 3) hx hb htT hinX4 hown hK hP rfl (by decide) rfl (hN _ (List.mem_of_getElem? (i := 41) rfl)) er14 dX0_cell_66 ?_
        refine lv_iload hx hb dX0_cell_69 (lv_at hl 0 rfl) ?_
        obtain ⟨v15, ev15, hF⟩ := cp_bind hF
        refine cp_iald hx hb hK hP ev15 dX0_cell_71 ?_
        exact cp_iret hx hb hr hlocks hF hP hS dX0_cell_72
      · rw [if_neg hc12] at hF
        have zhc4 := lv_neT (a := 0) hc4 (by decide)
        have zhc8 := lv_neT (a := 1) hc8 (by decide)
        have zhc12 := lv_neT (a := 2) hc12 (by decide)
        refine lv_tableOut (tgt := 73) hx hb dX0_cell_12 (by omega) (by decide) ?_
        refine lv_iconst (v := (-1 : Int32)) hx hb dX0_cell_73 (by decide) ?_
        exact cp_iret hx hb hr hlocks hF hP hS dX0_cell_74
