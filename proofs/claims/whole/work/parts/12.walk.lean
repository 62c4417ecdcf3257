theorem dX4_freeNumber_0 : decode cX4_freeNumber 0 = .ok (.iconst 0, 1) := by decide +kernel
theorem dX4_freeNumber_1 : decode cX4_freeNumber 1 = .ok (.istore_n 1, 1) := by decide +kernel
theorem dX4_freeNumber_2 : decode cX4_freeNumber 2 = .ok (.iload_n 1, 1) := by decide +kernel
theorem dX4_freeNumber_3 : decode cX4_freeNumber 3 = .ok (.bipush 16, 2) := by decide +kernel
theorem dX4_freeNumber_5 : decode cX4_freeNumber 5 = .ok (.if_icmp .ge 23, 3) := by decide +kernel
theorem dX4_freeNumber_8 : decode cX4_freeNumber 8 = .ok (.aload_n 0, 1) := by decide +kernel
theorem dX4_freeNumber_9 : decode cX4_freeNumber 9 = .ok (.getfield 11, 3) := by decide +kernel
theorem dX4_freeNumber_12 : decode cX4_freeNumber 12 = .ok (.iload_n 1, 1) := by decide +kernel
theorem dX4_freeNumber_13 : decode cX4_freeNumber 13 = .ok (.aaload, 1) := by decide +kernel
theorem dX4_freeNumber_14 : decode cX4_freeNumber 14 = .ok (.getfield 79, 3) := by decide +kernel
theorem dX4_freeNumber_17 : decode cX4_freeNumber 17 = .ok (.ifCond .ne 5, 3) := by decide +kernel
theorem dX4_freeNumber_20 : decode cX4_freeNumber 20 = .ok (.iload_n 1, 1) := by decide +kernel
theorem dX4_freeNumber_21 : decode cX4_freeNumber 21 = .ok (.ireturn, 1) := by decide +kernel
theorem dX4_freeNumber_22 : decode cX4_freeNumber 22 = .ok (.iinc 1 1, 3) := by decide +kernel
theorem dX4_freeNumber_25 : decode cX4_freeNumber 25 = .ok (.goto (-23), 3) := by decide +kernel
theorem dX4_freeNumber_28 : decode cX4_freeNumber 28 = .ok (.iconst (-1), 1) := by decide +kernel
theorem dX4_freeNumber_29 : decode cX4_freeNumber 29 = .ok (.ireturn, 1) := by decide +kernel
def fn_X4_freeNumber_L2 (L : cp_Lay) (q : Nat) : Nat → Nat → Int32 → cp_Dt → Option (Int32 × cp_Dt)
  | 0, _, _, _ => none
  | n + 1, a0, i1, D =>
    if (16 : Int32) ≤ i1 then (some ((-1 : Int32), D))
    else ((cp_gR L a0 4 4).bind fun r2 =>
    (cp_aR L r2 i1).bind fun r3 =>
    (cp_gI L D r3 1 3).bind fun v4 =>
    if v4 = 0 then (some (i1, D))
    else (fn_X4_freeNumber_L2 L q n a0 (i1 + 1) D))
def fn_X4_freeNumber (L : cp_Lay) (q : Nat) (k0 : Nat) (D : cp_Dt) : Option (Int32 × cp_Dt) :=
  fn_X4_freeNumber_L2 L q q k0 (0 : Int32) D
set_option maxHeartbeats 4000000 in
set_option maxRecDepth 100000 in
theorem ct_X4_freeNumber (l : Launch) (G : va_G) (L : cp_Lay) (hJ : cp_J L) (q : Nat) (k0 : Nat) (D : cp_Dt) (res : Int32 × cp_Dt) (hF : fn_X4_freeNumber L q k0 D = some res) : cp_Met l G yX4_freeNumber wsX4_freeNumber ({ frames := 0, cells := 0, slots := 0, locals := 0 }) L ([.ref (L.2.1 k0)] : List Value) D res.2 (some (.int res.1)) := by
  refine Met.ofW (cc := cX4_freeNumber) (maxL := 2) (ret := (some .int)) (by decide) rfl ?_
  intro p e s m args below meth c s₁ B hml hv
  obtain ⟨rfl, hP, hK, hN, hZ⟩ := hv
  have hx := B.exec
  have hb := B.bytes
  have hr := B.returns
  have hts := atoms_spec (ws := wsX4_freeNumber) B.pre
  have hown : s.vm.findClass "CreaturePond$Pond" = some m.cls := findClass_of_methodNamed B.named
  have hlocks := B.notSynchronized
  have hS : va_S (cp_A L) s.heap s.heap [] := va_S.rf
  have htT : ∀ w ∈ cp_T, w.before ([.ref (L.2.1 k0)] : List Value).toArray s = true := fun w h => hts w (List.mem_cons_of_mem _ h)
  have hl := lv_entry (([.ref (L.2.1 k0)] : List Value)) (n := 2) (Nat.le_of_ble_eq_true rfl)
  rw [lg_entry_eq]
  generalize (lg_sl (([.ref (L.2.1 k0)] : List Value)) ++ List.replicate (2 - (lg_sl (([.ref (L.2.1 k0)] : List Value))).length) Slot.unset).toArray = ls at hl ⊢
  have hl : lv_has ls 2 [(0, .ref (L.2.1 k0))] := hl
  have hL2 : ∀ (n : Nat) (a0 : Nat) (i1 : Int32) (D : cp_Dt) (H : Heap) (locs : List Loc) (ls : Array Slot), fn_X4_freeNumber_L2 L q n a0 i1 D = some res → va_P G vwCl (cp_ws L D) H → va_S (cp_A L) s.heap H locs → lv_has ls 2 [(0, .ref (L.2.1 a0)), (1, .int i1)] → W p l e (headSpec wsX4_freeNumber ({ frames := 0, cells := 0, slots := 0, locals := 0 })).room s m ([.ref (L.2.1 k0)] : List Value).toArray below meth c H locs 0 0 (MQ below (cp_Q G L res.2 (some (.int res.1))) ([.ref (L.2.1 k0)] : List Value).toArray s 0 0 (cp_A L)) (F0 m 2 ls []) := by
    intro n
    induction n with
    | zero =>
      intro a0 i1 D H locs ls hF
      cases hF
    | succ n ih =>
      intro a0 i1 D H locs ls hF hP hS hl
      unfold fn_X4_freeNumber_L2 at hF
      refine lv_iload_n hx hb dX4_freeNumber_2 rfl (lv_at hl 1 rfl) ?_
      refine lv_bipush (v := (16 : Int32)) hx hb dX4_freeNumber_3 (by decide) ?_
      refine lv_icmp_ge (tgt := 28) hx hb dX4_freeNumber_5 (by decide) (fun hc1 => ?_) (fun hc1 => ?_)
      · rw [if_pos hc1] at hF
        refine lv_iconst (v := (-1 : Int32)) hx hb dX4_freeNumber_28 (by decide) ?_
        exact cp_iret hx hb hr hlocks hF hP hS dX4_freeNumber_29
      · rw [if_neg hc1] at hF
        refine lv_aload_n hx hb dX4_freeNumber_8 rfl (lv_at hl 0 rfl) ?_
        obtain ⟨r2, er2, hF⟩ := cp_bind hF
        refine cp_getR (T := TX4) (N := 12) (ci := 4) (j := 4) hx hb htT hinX4 hown hK hP rfl (by decide) rfl (htT _ tw_101) er2 dX4_freeNumber_9 ?_
        refine lv_iload_n hx hb dX4_freeNumber_12 rfl (lv_at hl 1 rfl) ?_
        obtain ⟨r3, er3, hF⟩ := cp_bind hF
        refine cp_aald hx hb hK hP er3 dX4_freeNumber_13 ?_
        obtain ⟨v4, ev4, hF⟩ := cp_bind hF
        refine cp_getIN (T := TX1) (N := 14) (ci := 1) (j := 3) hx hb htT hinX1 hown hK hP rfl (by decide) rfl (hN _ (List.mem_of_getElem? (i := 13) rfl)) ev4 dX4_freeNumber_14 ?_
        refine lv_if_ne (tgt := 22) hx hb dX4_freeNumber_17 (by decide) (fun hc5 => ?_) (fun hc5 => ?_)
        · rw [if_neg hc5] at hF
          refine lv_iinc (k := 1) (v := (i1 + 1)) (lv' := [(1, .int (i1 + 1)), (0, .ref (L.2.1 a0))]) hx hb dX4_freeNumber_22 hl rfl (congrArg (fun z => i1 + z) (by decide)) (by decide) rfl (fun ls hl => ?_)
          refine lv_goto (tgt := 2) hx hb dX4_freeNumber_25 (by decide) ?_
          exact ih a0 (i1 + 1) D _ _ _ hF hP hS (lv_sub hl [1, 0] rfl)
        · rw [if_pos hc5] at hF
          refine lv_iload_n hx hb dX4_freeNumber_20 rfl (lv_at hl 1 rfl) ?_
          exact cp_iret hx hb hr hlocks hF hP hS dX4_freeNumber_21
  unfold fn_X4_freeNumber at hF
  refine lv_iconst (v := (0 : Int32)) hx hb dX4_freeNumber_0 (by decide) ?_
  refine lv_istore_n (lv' := [(1, .int (0 : Int32)), (0, .ref (L.2.1 k0))]) hx hb dX4_freeNumber_1 rfl hl (by decide) rfl (fun ls hl => ?_)
  exact hL2 q k0 (0 : Int32) D _ _ _ hF hP hS (lv_sub hl [1, 0] rfl)
theorem dX4_settle_0 : decode cX4_settle 0 = .ok (.aload_n 0, 1) := by decide +kernel
theorem dX4_settle_1 : decode cX4_settle 1 = .ok (.getfield 11, 3) := by decide +kernel
theorem dX4_settle_4 : decode cX4_settle 4 = .ok (.iload_n 1, 1) := by decide +kernel
theorem dX4_settle_5 : decode cX4_settle 5 = .ok (.aaload, 1) := by decide +kernel
theorem dX4_settle_6 : decode cX4_settle 6 = .ok (.astore 5, 2) := by decide +kernel
theorem dX4_settle_8 : decode cX4_settle 8 = .ok (.aload 5, 2) := by decide +kernel
theorem dX4_settle_10 : decode cX4_settle 10 = .ok (.iload_n 2, 1) := by decide +kernel
theorem dX4_settle_11 : decode cX4_settle 11 = .ok (.iload_n 3, 1) := by decide +kernel
theorem dX4_settle_12 : decode cX4_settle 12 = .ok (.iload 4, 2) := by decide +kernel
theorem dX4_settle_14 : decode cX4_settle 14 = .ok (.invokevirtual 86, 3) := by decide +kernel
theorem dX4_settle_17 : decode cX4_settle 17 = .ok (.aload_n 0, 1) := by decide +kernel
theorem dX4_settle_18 : decode cX4_settle 18 = .ok (.getfield 35, 3) := by decide +kernel
theorem dX4_settle_21 : decode cX4_settle 21 = .ok (.iload_n 2, 1) := by decide +kernel
theorem dX4_settle_22 : decode cX4_settle 22 = .ok (.iload_n 1, 1) := by decide +kernel
theorem dX4_settle_23 : decode cX4_settle 23 = .ok (.iastore, 1) := by decide +kernel
theorem dX4_settle_24 : decode cX4_settle 24 = .ok (.aload 5, 2) := by decide +kernel
theorem dX4_settle_26 : decode cX4_settle 26 = .ok (.areturn, 1) := by decide +kernel
def fn_X4_settle (L : cp_Lay) (q : Nat) (k0 : Nat) (x1 : Int32) (x2 : Int32) (x3 : Int32) (x4 : Int32) (D : cp_Dt) : Option (Nat × cp_Dt) :=
  (cp_gR L k0 4 4).bind fun r1 =>
  (cp_aR L r1 x1).bind fun r2 =>
  (cp_fl L r2 1).bind fun f3 =>
  (fn_X1_begin L q r2 x2 x3 x4 D).bind fun D4 =>
  (cp_gR L k0 4 3).bind fun r5 =>
  (cp_aS L D4 0 r5 x2 x1).bind fun D6 =>
  some (r2, D6)
set_option maxHeartbeats 4000000 in
set_option maxRecDepth 100000 in
theorem ct_X4_settle (l : Launch) (G : va_G) (L : cp_Lay) (hJ : cp_J L) (q : Nat) (k0 : Nat) (x1 : Int32) (x2 : Int32) (x3 : Int32) (x4 : Int32) (D : cp_Dt) (res : Nat × cp_Dt) (hF : fn_X4_settle L q k0 x1 x2 x3 x4 D = some res) : cp_Met l G yX4_settle wsX4_settle ({ frames := 1, cells := 0, slots := 0, locals := 24 }) L ([.ref (L.2.1 k0), .int x1, .int x2, .int x3, .int x4] : List Value) D res.2 (some (.ref (L.2.1 res.1))) := by
  refine Met.ofW (cc := cX4_settle) (maxL := 6) (ret := (some (.object "CreaturePond$Animal"))) (by decide) rfl ?_
  intro p e s m args below meth c s₁ B hml hv
  obtain ⟨rfl, hP, hK, hN, hZ⟩ := hv
  have hx := B.exec
  have hb := B.bytes
  have hr := B.returns
  have hts := atoms_spec (ws := wsX4_settle) B.pre
  have hown : s.vm.findClass "CreaturePond$Pond" = some m.cls := findClass_of_methodNamed B.named
  have hlocks := B.notSynchronized
  have hS : va_S (cp_A L) s.heap s.heap [] := va_S.rf
  have htT : ∀ w ∈ cp_T, w.before ([.ref (L.2.1 k0), .int x1, .int x2, .int x3, .int x4] : List Value).toArray s = true := fun w h => hts w (List.mem_cons_of_mem _ h)
  have hl := lv_entry (([.ref (L.2.1 k0), .int x1, .int x2, .int x3, .int x4] : List Value)) (n := 6) (Nat.le_of_ble_eq_true rfl)
  rw [lg_entry_eq]
  generalize (lg_sl (([.ref (L.2.1 k0), .int x1, .int x2, .int x3, .int x4] : List Value)) ++ List.replicate (6 - (lg_sl (([.ref (L.2.1 k0), .int x1, .int x2, .int x3, .int x4] : List Value))).length) Slot.unset).toArray = ls at hl ⊢
  have hl : lv_has ls 6 [(0, .ref (L.2.1 k0)), (1, .int x1), (2, .int x2), (3, .int x3), (4, .int x4)] := hl
  unfold fn_X4_settle at hF
  refine lv_aload_n hx hb dX4_settle_0 rfl (lv_at hl 0 rfl) ?_
  obtain ⟨r1, er1, hF⟩ := cp_bind hF
  refine cp_getR (T := TX4) (N := 12) (ci := 4) (j := 4) hx hb htT hinX4 hown hK hP rfl (by decide) rfl (htT _ tw_101) er1 dX4_settle_1 ?_
  refine lv_iload_n hx hb dX4_settle_4 rfl (lv_at hl 1 rfl) ?_
  obtain ⟨r2, er2, hF⟩ := cp_bind hF
  refine cp_aald hx hb hK hP er2 dX4_settle_5 ?_
  refine lv_astore (lv' := [(5, .ref (L.2.1 r2)), (0, .ref (L.2.1 k0)), (1, .int x1), (2, .int x2), (3, .int x3), (4, .int x4)]) hx hb dX4_settle_6 hl (by decide) rfl (fun ls hl => ?_)
  refine lv_aload hx hb dX4_settle_8 (lv_at hl 0 rfl) ?_
  refine lv_iload_n hx hb dX4_settle_10 rfl (lv_at hl 3 rfl) ?_
  refine lv_iload_n hx hb dX4_settle_11 rfl (lv_at hl 4 rfl) ?_
  refine lv_iload hx hb dX4_settle_12 (lv_at hl 5 rfl) ?_
  obtain ⟨f3, ef3, hF⟩ := cp_bind hF
  obtain ⟨D4, eD4, hF⟩ := cp_bind hF
  refine cp_call (st1 := []) (va_runVN (As := [.int x2, .int x3, .int x4]) (rest := []) ⟨hx, hb, hml, hown, htT⟩ (ct_X1_begin l G L hJ q r2 x2 x3 x4 D D4 eD4) ⟨va_cnB 3 htT gdX1_begin rfl rfl rfl (hN _ (List.mem_of_getElem? (i := 68) rfl)) (htT _ tw_5) hdX1_begin ⟨Nat.le_of_ble_eq_true rfl, Nat.le_of_ble_eq_true rfl⟩, (htT _ tw_243), (htT _ tw_540)⟩ ⟨cp_blind, cp_recv hK hP rfl ef3, cp_pre hP hK hN hZ hS⟩ rfl rfl hl.1 rfl (lv_room (Nat.le_of_ble_eq_true rfl)) dX4_settle_14 ⟨Nat.zero_le _, Nat.zero_le _⟩) hS (fun H locs hP hS => ?_)
  refine lv_aload_n hx hb dX4_settle_17 rfl (lv_at hl 1 rfl) ?_
  obtain ⟨r5, er5, hF⟩ := cp_bind hF
  refine cp_getR (T := TX4) (N := 12) (ci := 4) (j := 3) hx hb htT hinX4 hown hK hP rfl (by decide) rfl (htT _ tw_100) er5 dX4_settle_18 ?_
  refine lv_iload_n hx hb dX4_settle_21 rfl (lv_at hl 3 rfl) ?_
  refine lv_iload_n hx hb dX4_settle_22 rfl (lv_at hl 2 rfl) ?_
  obtain ⟨D6, eD6, hF⟩ := cp_bind hF
  refine cp_iast hx hb hK hJ hP hS eD6 dX4_settle_23 (fun H locs hP hS => ?_)
  refine lv_aload hx hb dX4_settle_24 (lv_at hl 0 rfl) ?_
  exact cp_aret hx hb hr hlocks hF hP hS dX4_settle_26
theorem dX4_shine_0 : decode cX4_shine 0 = .ok (.iconst 0, 1) := by decide +kernel
theorem dX4_shine_1 : decode cX4_shine 1 = .ok (.istore_n 1, 1) := by decide +kernel
theorem dX4_shine_2 : decode cX4_shine 2 = .ok (.iload_n 1, 1) := by decide +kernel
theorem dX4_shine_3 : decode cX4_shine 3 = .ok (.aload_n 0, 1) := by decide +kernel
theorem dX4_shine_4 : decode cX4_shine 4 = .ok (.getfield 52, 3) := by decide +kernel
theorem dX4_shine_7 : decode cX4_shine 7 = .ok (.if_icmp .ge 84, 3) := by decide +kernel
theorem dX4_shine_10 : decode cX4_shine 10 = .ok (.aload_n 0, 1) := by decide +kernel
theorem dX4_shine_11 : decode cX4_shine 11 = .ok (.getfield 49, 3) := by decide +kernel
theorem dX4_shine_14 : decode cX4_shine 14 = .ok (.ifCond .le 77, 3) := by decide +kernel
theorem dX4_shine_17 : decode cX4_shine 17 = .ok (.aload_n 0, 1) := by decide +kernel
theorem dX4_shine_18 : decode cX4_shine 18 = .ok (.getfield 27, 3) := by decide +kernel
theorem dX4_shine_21 : decode cX4_shine 21 = .ok (.aload_n 0, 1) := by decide +kernel
theorem dX4_shine_22 : decode cX4_shine 22 = .ok (.getfield 58, 3) := by decide +kernel
theorem dX4_shine_25 : decode cX4_shine 25 = .ok (.iaload, 1) := by decide +kernel
theorem dX4_shine_26 : decode cX4_shine 26 = .ok (.sipush 250, 3) := by decide +kernel
theorem dX4_shine_29 : decode cX4_shine 29 = .ok (.if_icmp .ge 26, 3) := by decide +kernel
theorem dX4_shine_32 : decode cX4_shine 32 = .ok (.aload_n 0, 1) := by decide +kernel
theorem dX4_shine_33 : decode cX4_shine 33 = .ok (.getfield 27, 3) := by decide +kernel
theorem dX4_shine_36 : decode cX4_shine 36 = .ok (.aload_n 0, 1) := by decide +kernel
theorem dX4_shine_37 : decode cX4_shine 37 = .ok (.getfield 58, 3) := by decide +kernel
theorem dX4_shine_40 : decode cX4_shine 40 = .ok (.dup2, 1) := by decide +kernel
theorem dX4_shine_41 : decode cX4_shine 41 = .ok (.iaload, 1) := by decide +kernel
theorem dX4_shine_42 : decode cX4_shine 42 = .ok (.iconst 1, 1) := by decide +kernel
theorem dX4_shine_43 : decode cX4_shine 43 = .ok (.iadd, 1) := by decide +kernel
theorem dX4_shine_44 : decode cX4_shine 44 = .ok (.iastore, 1) := by decide +kernel
theorem dX4_shine_45 : decode cX4_shine 45 = .ok (.aload_n 0, 1) := by decide +kernel
theorem dX4_shine_46 : decode cX4_shine 46 = .ok (.dup, 1) := by decide +kernel
theorem dX4_shine_47 : decode cX4_shine 47 = .ok (.getfield 49, 3) := by decide +kernel
theorem dX4_shine_50 : decode cX4_shine 50 = .ok (.iconst 1, 1) := by decide +kernel
theorem dX4_shine_51 : decode cX4_shine 51 = .ok (.isub, 1) := by decide +kernel
theorem dX4_shine_52 : decode cX4_shine 52 = .ok (.putfield 49, 3) := by decide +kernel
theorem dX4_shine_55 : decode cX4_shine 55 = .ok (.aload_n 0, 1) := by decide +kernel
theorem dX4_shine_56 : decode cX4_shine 56 = .ok (.aload_n 0, 1) := by decide +kernel
theorem dX4_shine_57 : decode cX4_shine 57 = .ok (.getfield 58, 3) := by decide +kernel
theorem dX4_shine_60 : decode cX4_shine 60 = .ok (.iconst 1, 1) := by decide +kernel
theorem dX4_shine_61 : decode cX4_shine 61 = .ok (.iadd, 1) := by decide +kernel
theorem dX4_shine_62 : decode cX4_shine 62 = .ok (.aload_n 0, 1) := by decide +kernel
theorem dX4_shine_63 : decode cX4_shine 63 = .ok (.getfield 17, 3) := by decide +kernel
theorem dX4_shine_66 : decode cX4_shine 66 = .ok (.getfield 21, 3) := by decide +kernel
theorem dX4_shine_69 : decode cX4_shine 69 = .ok (.if_icmp .ge 12, 3) := by decide +kernel
theorem dX4_shine_72 : decode cX4_shine 72 = .ok (.aload_n 0, 1) := by decide +kernel
theorem dX4_shine_73 : decode cX4_shine 73 = .ok (.getfield 58, 3) := by decide +kernel
theorem dX4_shine_76 : decode cX4_shine 76 = .ok (.iconst 1, 1) := by decide +kernel
theorem dX4_shine_77 : decode cX4_shine 77 = .ok (.iadd, 1) := by decide +kernel
theorem dX4_shine_78 : decode cX4_shine 78 = .ok (.goto 4, 3) := by decide +kernel
theorem dX4_shine_81 : decode cX4_shine 81 = .ok (.iconst 0, 1) := by decide +kernel
theorem dX4_shine_82 : decode cX4_shine 82 = .ok (.putfield 58, 3) := by decide +kernel
theorem dX4_shine_85 : decode cX4_shine 85 = .ok (.iinc 1 1, 3) := by decide +kernel
theorem dX4_shine_88 : decode cX4_shine 88 = .ok (.goto (-86), 3) := by decide +kernel
theorem dX4_shine_91 : decode cX4_shine 91 = .ok (.return_, 1) := by decide +kernel
def fn_X4_shine_L2 (L : cp_Lay) (q : Nat) : Nat → Nat → Int32 → cp_Dt → Option (cp_Dt)
  | 0, _, _, _ => none
  | n + 1, a0, i1, D =>
    (cp_gI L D a0 4 6).bind fun v1 =>
    if v1 ≤ i1 then (some D)
    else ((cp_gI L D a0 4 5).bind fun v3 =>
    if v3 ≤ 0 then (some D)
    else ((cp_gR L a0 4 1).bind fun r5 =>
    (cp_gI L D a0 4 8).bind fun v6 =>
    (cp_aI L D 0 r5 v6).bind fun v7 =>
    if (250 : Int32) ≤ v7 then ((cp_gI L D a0 4 8).bind fun v9 =>
    (cp_gR L a0 4 0).bind fun r10 =>
    (cp_gI L D r10 5 2).bind fun v11 =>
    if v11 ≤ (v9 + (1 : Int32)) then ((cp_pI L D a0 4 8 (0 : Int32)).bind fun D13 =>
    fn_X4_shine_L2 L q n a0 (i1 + 1) D13)
    else ((cp_gI L D a0 4 8).bind fun v14 =>
    (cp_pI L D a0 4 8 (v14 + (1 : Int32))).bind fun D15 =>
    fn_X4_shine_L2 L q n a0 (i1 + 1) D15))
    else ((cp_gR L a0 4 1).bind fun r16 =>
    (cp_gI L D a0 4 8).bind fun v17 =>
    (cp_aI L D 0 r16 v17).bind fun v18 =>
    (cp_aS L D 0 r16 v17 (v18 + (1 : Int32))).bind fun D19 =>
    (cp_gI L D19 a0 4 5).bind fun v20 =>
    (cp_pI L D19 a0 4 5 (v20 - (1 : Int32))).bind fun D21 =>
    (cp_gI L D21 a0 4 8).bind fun v22 =>
    (cp_gR L a0 4 0).bind fun r23 =>
    (cp_gI L D21 r23 5 2).bind fun v24 =>
    if v24 ≤ (v22 + (1 : Int32)) then ((cp_pI L D21 a0 4 8 (0 : Int32)).bind fun D26 =>
    fn_X4_shine_L2 L q n a0 (i1 + 1) D26)
    else ((cp_gI L D21 a0 4 8).bind fun v27 =>
    (cp_pI L D21 a0 4 8 (v27 + (1 : Int32))).bind fun D28 =>
    fn_X4_shine_L2 L q n a0 (i1 + 1) D28))))
def fn_X4_shine (L : cp_Lay) (q : Nat) (k0 : Nat) (D : cp_Dt) : Option (cp_Dt) :=
  fn_X4_shine_L2 L q q k0 (0 : Int32) D
set_option maxHeartbeats 4000000 in
set_option maxRecDepth 100000 in
theorem ct_X4_shine (l : Launch) (G : va_G) (L : cp_Lay) (hJ : cp_J L) (q : Nat) (k0 : Nat) (D : cp_Dt) (res : cp_Dt) (hF : fn_X4_shine L q k0 D = some res) : cp_Met l G yX4_shine wsX4_shine ({ frames := 0, cells := 0, slots := 0, locals := 0 }) L ([.ref (L.2.1 k0)] : List Value) D res none := by
  refine Met.ofW (cc := cX4_shine) (maxL := 2) (ret := none) (by decide) rfl ?_
  intro p e s m args below meth c s₁ B hml hv
  obtain ⟨rfl, hP, hK, hN, hZ⟩ := hv
  have hx := B.exec
  have hb := B.bytes
  have hr := B.returns
  have hts := atoms_spec (ws := wsX4_shine) B.pre
  have hown : s.vm.findClass "CreaturePond$Pond" = some m.cls := findClass_of_methodNamed B.named
  have hlocks := B.notSynchronized
  have hS : va_S (cp_A L) s.heap s.heap [] := va_S.rf
  have htT : ∀ w ∈ cp_T, w.before ([.ref (L.2.1 k0)] : List Value).toArray s = true := fun w h => hts w (List.mem_cons_of_mem _ h)
  have hl := lv_entry (([.ref (L.2.1 k0)] : List Value)) (n := 2) (Nat.le_of_ble_eq_true rfl)
  rw [lg_entry_eq]
  generalize (lg_sl (([.ref (L.2.1 k0)] : List Value)) ++ List.replicate (2 - (lg_sl (([.ref (L.2.1 k0)] : List Value))).length) Slot.unset).toArray = ls at hl ⊢
  have hl : lv_has ls 2 [(0, .ref (L.2.1 k0))] := hl
  have hL2 : ∀ (n : Nat) (a0 : Nat) (i1 : Int32) (D : cp_Dt) (H : Heap) (locs : List Loc) (ls : Array Slot), fn_X4_shine_L2 L q n a0 i1 D = some res → va_P G vwCl (cp_ws L D) H → va_S (cp_A L) s.heap H locs → lv_has ls 2 [(0, .ref (L.2.1 a0)), (1, .int i1)] → W p l e (headSpec wsX4_shine ({ frames := 0, cells := 0, slots := 0, locals := 0 })).room s m ([.ref (L.2.1 k0)] : List Value).toArray below meth c H locs 0 0 (MQ below (cp_Q G L res none) ([.ref (L.2.1 k0)] : List Value).toArray s 0 0 (cp_A L)) (F0 m 2 ls []) := by
    intro n
    induction n with
    | zero =>
      intro a0 i1 D H locs ls hF
      cases hF
    | succ n ih =>
      intro a0 i1 D H locs ls hF hP hS hl
      unfold fn_X4_shine_L2 at hF
      refine lv_iload_n hx hb dX4_shine_2 rfl (lv_at hl 1 rfl) ?_
      refine lv_aload_n hx hb dX4_shine_3 rfl (lv_at hl 0 rfl) ?_
      obtain ⟨v1, ev1, hF⟩ := cp_bind hF
      refine cp_getI (T := TX4) (N := 12) (ci := 4) (j := 6) hx hb htT hinX4 hown hK hP rfl (by decide) rfl (htT _ tw_103) ev1 dX4_shine_4 ?_
      refine lv_icmp_ge (tgt := 91) hx hb dX4_shine_7 (by decide) (fun hc2 => ?_) (fun hc2 => ?_)
      · rw [if_pos hc2] at hF
        exact cp_vret hx hb hr hlocks hF hP hS dX4_shine_91
      · rw [if_neg hc2] at hF
        refine lv_aload_n hx hb dX4_shine_10 rfl (lv_at hl 0 rfl) ?_
        obtain ⟨v3, ev3, hF⟩ := cp_bind hF
        refine cp_getI (T := TX4) (N := 12) (ci := 4) (j := 5) hx hb htT hinX4 hown hK hP rfl (by decide) rfl (htT _ tw_102) ev3 dX4_shine_11 ?_
        refine lv_if_le (tgt := 91) hx hb dX4_shine_14 (by decide) (fun hc4 => ?_) (fun hc4 => ?_)
        · rw [if_pos hc4] at hF
          exact cp_vret hx hb hr hlocks hF hP hS dX4_shine_91
        · rw [if_neg hc4] at hF
          refine lv_aload_n hx hb dX4_shine_17 rfl (lv_at hl 0 rfl) ?_
          obtain ⟨r5, er5, hF⟩ := cp_bind hF
          refine cp_getR (T := TX4) (N := 12) (ci := 4) (j := 1) hx hb htT hinX4 hown hK hP rfl (by decide) rfl (htT _ tw_98) er5 dX4_shine_18 ?_
          refine lv_aload_n hx hb dX4_shine_21 rfl (lv_at hl 0 rfl) ?_
          obtain ⟨v6, ev6, hF⟩ := cp_bind hF
          refine cp_getI (T := TX4) (N := 12) (ci := 4) (j := 8) hx hb htT hinX4 hown hK hP rfl (by decide) rfl (htT _ tw_105) ev6 dX4_shine_22 ?_
          obtain ⟨v7, ev7, hF⟩ := cp_bind hF
          refine cp_iald hx hb hK hP ev7 dX4_shine_25 ?_
          refine lv_sipush (v := (250 : Int32)) hx hb dX4_shine_26 (by decide) ?_
          refine lv_icmp_ge (tgt := 55) hx hb dX4_shine_29 (by decide) (fun hc8 => ?_) (fun hc8 => ?_)
          · rw [if_pos hc8] at hF
            refine lv_aload_n hx hb dX4_shine_55 rfl (lv_at hl 0 rfl) ?_
            refine lv_aload_n hx hb dX4_shine_56 rfl (lv_at hl 0 rfl) ?_
            obtain ⟨v9, ev9, hF⟩ := cp_bind hF
            refine cp_getI (T := TX4) (N := 12) (ci := 4) (j := 8) hx hb htT hinX4 hown hK hP rfl (by decide) rfl (htT _ tw_105) ev9 dX4_shine_57 ?_
            refine lv_iconst (v := (1 : Int32)) hx hb dX4_shine_60 (by decide) ?_
            refine lv_iadd hx hb dX4_shine_61 ?_
            refine lv_aload_n hx hb dX4_shine_62 rfl (lv_at hl 0 rfl) ?_
            obtain ⟨r10, er10, hF⟩ := cp_bind hF
            refine cp_getR (T := TX4) (N := 12) (ci := 4) (j := 0) hx hb htT hinX4 hown hK hP rfl (by decide) rfl (htT _ tw_97) er10 dX4_shine_63 ?_
            obtain ⟨v11, ev11, hF⟩ := cp_bind hF
            refine cp_getIN (T := TX5) (N := 4) (ci := 5) (j := 2) hx hb htT hinX5 hown hK hP rfl (by decide) rfl (hN _ (List.mem_of_getElem? (i := 1) rfl)) ev11 dX4_shine_66 ?_
            refine lv_icmp_ge (tgt := 81) hx hb dX4_shine_69 (by decide) (fun hc12 => ?_) (fun hc12 => ?_)
            · rw [if_pos hc12] at hF
              refine lv_iconst (v := (0 : Int32)) hx hb dX4_shine_81 (by decide) ?_
              obtain ⟨D13, eD13, hF⟩ := cp_bind hF
              refine cp_put (T := TX4) (N := 12) (ci := 4) (j := 8) hx hb htT hinX4 tyX4 tyX4_ok nmX4 hown hK hJ hP hS rfl (by decide) rfl (htT _ tw_105) rfl rfl rfl eD13 dX4_shine_82 (fun H locs hP hS => ?_)
              refine lv_iinc (k := 1) (v := (i1 + 1)) (lv' := [(1, .int (i1 + 1)), (0, .ref (L.2.1 a0))]) hx hb dX4_shine_85 hl rfl (congrArg (fun z => i1 + z) (by decide)) (by decide) rfl (fun ls hl => ?_)
              refine lv_goto (tgt := 2) hx hb dX4_shine_88 (by decide) ?_
              exact ih a0 (i1 + 1) D13 _ _ _ hF hP hS (lv_sub hl [1, 0] rfl)
            · rw [if_neg hc12] at hF
              refine lv_aload_n hx hb dX4_shine_72 rfl (lv_at hl 0 rfl) ?_
              obtain ⟨v14, ev14, hF⟩ := cp_bind hF
              refine cp_getI (T := TX4) (N := 12) (ci := 4) (j := 8) hx hb htT hinX4 hown hK hP rfl (by decide) rfl (htT _ tw_105) ev14 dX4_shine_73 ?_
              refine lv_iconst (v := (1 : Int32)) hx hb dX4_shine_76 (by decide) ?_
              refine lv_iadd hx hb dX4_shine_77 ?_
              refine lv_goto (tgt := 82) hx hb dX4_shine_78 (by decide) ?_
              obtain ⟨D15, eD15, hF⟩ := cp_bind hF
              refine cp_put (T := TX4) (N := 12) (ci := 4) (j := 8) hx hb htT hinX4 tyX4 tyX4_ok nmX4 hown hK hJ hP hS rfl (by decide) rfl (htT _ tw_105) rfl rfl rfl eD15 dX4_shine_82 (fun H locs hP hS => ?_)
              refine lv_iinc (k := 1) (v := (i1 + 1)) (lv' := [(1, .int (i1 + 1)), (0, .ref (L.2.1 a0))]) hx hb dX4_shine_85 hl rfl (congrArg (fun z => i1 + z) (by decide)) (by decide) rfl (fun ls hl => ?_)
              refine lv_goto (tgt := 2) hx hb dX4_shine_88 (by decide) ?_
              exact ih a0 (i1 + 1) D15 _ _ _ hF hP hS (lv_sub hl [1, 0] rfl)
          · rw [if_neg hc8] at hF
            refine lv_aload_n hx hb dX4_shine_32 rfl (lv_at hl 0 rfl) ?_
            obtain ⟨r16, er16, hF⟩ := cp_bind hF
            refine cp_getR (T := TX4) (N := 12) (ci := 4) (j := 1) hx hb htT hinX4 hown hK hP rfl (by decide) rfl (htT _ tw_98) er16 dX4_shine_33 ?_
            refine lv_aload_n hx hb dX4_shine_36 rfl (lv_at hl 0 rfl) ?_
            obtain ⟨v17, ev17, hF⟩ := cp_bind hF
            refine cp_getI (T := TX4) (N := 12) (ci := 4) (j := 8) hx hb htT hinX4 hown hK hP rfl (by decide) rfl (htT _ tw_105) ev17 dX4_shine_37 ?_
            refine lv_dup2_11 hx hb dX4_shine_40 rfl rfl ?_
            obtain ⟨v18, ev18, hF⟩ := cp_bind hF
            refine cp_iald hx hb hK hP ev18 dX4_shine_41 ?_
            refine lv_iconst (v := (1 : Int32)) hx hb dX4_shine_42 (by decide) ?_
            refine lv_iadd hx hb dX4_shine_43 ?_
            obtain ⟨D19, eD19, hF⟩ := cp_bind hF
            refine cp_iast hx hb hK hJ hP hS eD19 dX4_shine_44 (fun H locs hP hS => ?_)
            refine lv_aload_n hx hb dX4_shine_45 rfl (lv_at hl 0 rfl) ?_
            refine lv_dup hx hb dX4_shine_46 rfl ?_
            obtain ⟨v20, ev20, hF⟩ := cp_bind hF
            refine cp_getI (T := TX4) (N := 12) (ci := 4) (j := 5) hx hb htT hinX4 hown hK hP rfl (by decide) rfl (htT _ tw_102) ev20 dX4_shine_47 ?_
            refine lv_iconst (v := (1 : Int32)) hx hb dX4_shine_50 (by decide) ?_
            refine lv_isub hx hb dX4_shine_51 ?_
            obtain ⟨D21, eD21, hF⟩ := cp_bind hF
            refine cp_put (T := TX4) (N := 12) (ci := 4) (j := 5) hx hb htT hinX4 tyX4 tyX4_ok nmX4 hown hK hJ hP hS rfl (by decide) rfl (htT _ tw_102) rfl rfl rfl eD21 dX4_shine_52 (fun H locs hP hS => ?_)
            refine lv_aload_n hx hb dX4_shine_55 rfl (lv_at hl 0 rfl) ?_
            refine lv_aload_n hx hb dX4_shine_56 rfl (lv_at hl 0 rfl) ?_
            obtain ⟨v22, ev22, hF⟩ := cp_bind hF
            refine cp_getI (T := TX4) (N := 12) (ci := 4) (j := 8) hx hb htT hinX4 hown hK hP rfl (by decide) rfl (htT _ tw_105) ev22 dX4_shine_57 ?_
            refine lv_iconst (v := (1 : Int32)) hx hb dX4_shine_60 (by decide) ?_
            refine lv_iadd hx hb dX4_shine_61 ?_
            refine lv_aload_n hx hb dX4_shine_62 rfl (lv_at hl 0 rfl) ?_
            obtain ⟨r23, er23, hF⟩ := cp_bind hF
            refine cp_getR (T := TX4) (N := 12) (ci := 4) (j := 0) hx hb htT hinX4 hown hK hP rfl (by decide) rfl (htT _ tw_97) er23 dX4_shine_63 ?_
            obtain ⟨v24, ev24, hF⟩ := cp_bind hF
            refine cp_getIN (T := TX5) (N := 4) (ci := 5) (j := 2) hx hb htT hinX5 hown hK hP rfl (by decide) rfl (hN _ (List.mem_of_getElem? (i := 1) rfl)) ev24 dX4_shine_66 ?_
            refine lv_icmp_ge (tgt := 81) hx hb dX4_shine_69 (by decide) (fun hc25 => ?_) (fun hc25 => ?_)
            · rw [if_pos hc25] at hF
              refine lv_iconst (v := (0 : Int32)) hx hb dX4_shine_81 (by decide) ?_
              obtain ⟨D26, eD26, hF⟩ := cp_bind hF
              refine cp_put (T := TX4) (N := 12) (ci := 4) (j := 8) hx hb htT hinX4 tyX4 tyX4_ok nmX4 hown hK hJ hP hS rfl (by decide) rfl (htT _ tw_105) rfl rfl rfl eD26 dX4_shine_82 (fun H locs hP hS => ?_)
              refine lv_iinc (k := 1) (v := (i1 + 1)) (lv' := [(1, .int (i1 + 1)), (0, .ref (L.2.1 a0))]) hx hb dX4_shine_85 hl rfl (congrArg (fun z => i1 + z) (by decide)) (by decide) rfl (fun ls hl => ?_)
              refine lv_goto (tgt := 2) hx hb dX4_shine_88 (by decide) ?_
              exact ih a0 (i1 + 1) D26 _ _ _ hF hP hS (lv_sub hl [1, 0] rfl)
            · rw [if_neg hc25] at hF
              refine lv_aload_n hx hb dX4_shine_72 rfl (lv_at hl 0 rfl) ?_
              obtain ⟨v27, ev27, hF⟩ := cp_bind hF
              refine cp_getI (T := TX4) (N := 12) (ci := 4) (j := 8) hx hb htT hinX4 hown hK hP rfl (by decide) rfl (htT _ tw_105) ev27 dX4_shine_73 ?_
              refine lv_iconst (v := (1 : Int32)) hx hb dX4_shine_76 (by decide) ?_
              refine lv_iadd hx hb dX4_shine_77 ?_
              refine lv_goto (tgt := 82) hx hb dX4_shine_78 (by decide) ?_
              obtain ⟨D28, eD28, hF⟩ := cp_bind hF
              refine cp_put (T := TX4) (N := 12) (ci := 4) (j := 8) hx hb htT hinX4 tyX4 tyX4_ok nmX4 hown hK hJ hP hS rfl (by decide) rfl (htT _ tw_105) rfl rfl rfl eD28 dX4_shine_82 (fun H locs hP hS => ?_)
              refine lv_iinc (k := 1) (v := (i1 + 1)) (lv' := [(1, .int (i1 + 1)), (0, .ref (L.2.1 a0))]) hx hb dX4_shine_85 hl rfl (congrArg (fun z => i1 + z) (by decide)) (by decide) rfl (fun ls hl => ?_)
              refine lv_goto (tgt := 2) hx hb dX4_shine_88 (by decide) ?_
              exact ih a0 (i1 + 1) D28 _ _ _ hF hP hS (lv_sub hl [1, 0] rfl)
  unfold fn_X4_shine at hF
  refine lv_iconst (v := (0 : Int32)) hx hb dX4_shine_0 (by decide) ?_
  refine lv_istore_n (lv' := [(1, .int (0 : Int32)), (0, .ref (L.2.1 k0))]) hx hb dX4_shine_1 rfl hl (by decide) rfl (fun ls hl => ?_)
  exact hL2 q k0 (0 : Int32) D _ _ _ hF hP hS (lv_sub hl [1, 0] rfl)
theorem dX4_pay_0 : decode cX4_pay 0 = .ok (.iload_n 2, 1) := by decide +kernel
theorem dX4_pay_1 : decode cX4_pay 1 = .ok (.aload_n 1, 1) := by decide +kernel
theorem dX4_pay_2 : decode cX4_pay 2 = .ok (.getfield 83, 3) := by decide +kernel
theorem dX4_pay_5 : decode cX4_pay 5 = .ok (.invokestatic 90, 3) := by decide +kernel
theorem dX4_pay_8 : decode cX4_pay 8 = .ok (.istore_n 3, 1) := by decide +kernel
theorem dX4_pay_9 : decode cX4_pay 9 = .ok (.aload_n 1, 1) := by decide +kernel
theorem dX4_pay_10 : decode cX4_pay 10 = .ok (.dup, 1) := by decide +kernel
theorem dX4_pay_11 : decode cX4_pay 11 = .ok (.getfield 83, 3) := by decide +kernel
theorem dX4_pay_14 : decode cX4_pay 14 = .ok (.iload_n 3, 1) := by decide +kernel
theorem dX4_pay_15 : decode cX4_pay 15 = .ok (.isub, 1) := by decide +kernel
theorem dX4_pay_16 : decode cX4_pay 16 = .ok (.putfield 83, 3) := by decide +kernel
theorem dX4_pay_19 : decode cX4_pay 19 = .ok (.aload_n 0, 1) := by decide +kernel
theorem dX4_pay_20 : decode cX4_pay 20 = .ok (.dup, 1) := by decide +kernel
theorem dX4_pay_21 : decode cX4_pay 21 = .ok (.getfield 49, 3) := by decide +kernel
theorem dX4_pay_24 : decode cX4_pay 24 = .ok (.iload_n 3, 1) := by decide +kernel
theorem dX4_pay_25 : decode cX4_pay 25 = .ok (.iadd, 1) := by decide +kernel
theorem dX4_pay_26 : decode cX4_pay 26 = .ok (.putfield 49, 3) := by decide +kernel
theorem dX4_pay_29 : decode cX4_pay 29 = .ok (.return_, 1) := by decide +kernel
def fn_X4_pay (L : cp_Lay) (q : Nat) (k0 : Nat) (k1 : Nat) (x2 : Int32) (D : cp_Dt) : Option (cp_Dt) :=
  (cp_gI L D k1 1 7).bind fun v1 =>
  (cp_gI L D k1 1 7).bind fun v2 =>
  (cp_pI L D k1 1 7 (v2 - (cp_mn x2 v1))).bind fun D3 =>
  (cp_gI L D3 k0 4 5).bind fun v4 =>
  (cp_pI L D3 k0 4 5 (v4 + (cp_mn x2 v1))).bind fun D5 =>
  some D5
set_option maxHeartbeats 4000000 in
set_option maxRecDepth 100000 in
theorem ct_X4_pay (l : Launch) (G : va_G) (L : cp_Lay) (hJ : cp_J L) (q : Nat) (k0 : Nat) (k1 : Nat) (x2 : Int32) (D : cp_Dt) (res : cp_Dt) (hF : fn_X4_pay L q k0 k1 x2 D = some res) : cp_Met l G yX4_pay wsX4_pay ({ frames := 1, cells := 0, slots := 0, locals := 21 }) L ([.ref (L.2.1 k0), .ref (L.2.1 k1), .int x2] : List Value) D res none := by
  refine Met.ofW (cc := cX4_pay) (maxL := 4) (ret := none) (by decide) rfl ?_
  intro p e s m args below meth c s₁ B hml hv
  obtain ⟨rfl, hP, hK, hN, hZ⟩ := hv
  have hx := B.exec
  have hb := B.bytes
  have hr := B.returns
  have hts := atoms_spec (ws := wsX4_pay) B.pre
  have hown : s.vm.findClass "CreaturePond$Pond" = some m.cls := findClass_of_methodNamed B.named
  have hlocks := B.notSynchronized
  have hS : va_S (cp_A L) s.heap s.heap [] := va_S.rf
  have htT : ∀ w ∈ cp_T, w.before ([.ref (L.2.1 k0), .ref (L.2.1 k1), .int x2] : List Value).toArray s = true := fun w h => hts w (List.mem_cons_of_mem _ h)
  have hl := lv_entry (([.ref (L.2.1 k0), .ref (L.2.1 k1), .int x2] : List Value)) (n := 4) (Nat.le_of_ble_eq_true rfl)
  rw [lg_entry_eq]
  generalize (lg_sl (([.ref (L.2.1 k0), .ref (L.2.1 k1), .int x2] : List Value)) ++ List.replicate (4 - (lg_sl (([.ref (L.2.1 k0), .ref (L.2.1 k1), .int x2] : List Value))).length) Slot.unset).toArray = ls at hl ⊢
  have hl : lv_has ls 4 [(0, .ref (L.2.1 k0)), (1, .ref (L.2.1 k1)), (2, .int x2)] := hl
  unfold fn_X4_pay at hF
  refine lv_iload_n hx hb dX4_pay_0 rfl (lv_at hl 2 rfl) ?_
  refine lv_aload_n hx hb dX4_pay_1 rfl (lv_at hl 1 rfl) ?_
  obtain ⟨v1, ev1, hF⟩ := cp_bind hF
  refine cp_getIN (T := TX1) (N := 14) (ci := 1) (j := 7) hx hb htT hinX1 hown hK hP rfl (by decide) rfl (hN _ (List.mem_of_getElem? (i := 25) rfl)) ev1 dX4_pay_2 ?_
  refine va_mmin hx hb (by rw [hml]; exact hl.1.symm) hown (htT _ tw_268) (htT _ tw_27) (htT _ tw_3) (htT _ tw_28) (Nat.le_of_ble_eq_true rfl) (Nat.le_of_ble_eq_true rfl) (Nat.zero_le _) (Nat.zero_le _) dX4_pay_5 ?_
  refine lv_istore_n (lv' := [(3, .int (cp_mn x2 v1)), (0, .ref (L.2.1 k0)), (1, .ref (L.2.1 k1)), (2, .int x2)]) hx hb dX4_pay_8 rfl hl (by decide) rfl (fun ls hl => ?_)
  refine lv_aload_n hx hb dX4_pay_9 rfl (lv_at hl 2 rfl) ?_
  refine lv_dup hx hb dX4_pay_10 rfl ?_
  obtain ⟨v2, ev2, hF⟩ := cp_bind hF
  refine cp_getIN (T := TX1) (N := 14) (ci := 1) (j := 7) hx hb htT hinX1 hown hK hP rfl (by decide) rfl (hN _ (List.mem_of_getElem? (i := 25) rfl)) ev2 dX4_pay_11 ?_
  refine lv_iload_n hx hb dX4_pay_14 rfl (lv_at hl 0 rfl) ?_
  refine lv_isub hx hb dX4_pay_15 ?_
  obtain ⟨D3, eD3, hF⟩ := cp_bind hF
  refine cp_putN (T := TX1) (N := 14) (ci := 1) (j := 7) hx hb htT hinX1 tyX1 tyX1_ok nmX1 hown hK hJ hP hS rfl (by decide) rfl (hN _ (List.mem_of_getElem? (i := 25) rfl)) rfl rfl rfl eD3 dX4_pay_16 (fun H locs hP hS => ?_)
  refine lv_aload_n hx hb dX4_pay_19 rfl (lv_at hl 1 rfl) ?_
  refine lv_dup hx hb dX4_pay_20 rfl ?_
  obtain ⟨v4, ev4, hF⟩ := cp_bind hF
  refine cp_getI (T := TX4) (N := 12) (ci := 4) (j := 5) hx hb htT hinX4 hown hK hP rfl (by decide) rfl (htT _ tw_102) ev4 dX4_pay_21 ?_
  refine lv_iload_n hx hb dX4_pay_24 rfl (lv_at hl 0 rfl) ?_
  refine lv_iadd hx hb dX4_pay_25 ?_
  obtain ⟨D5, eD5, hF⟩ := cp_bind hF
  refine cp_put (T := TX4) (N := 12) (ci := 4) (j := 5) hx hb htT hinX4 tyX4 tyX4_ok nmX4 hown hK hJ hP hS rfl (by decide) rfl (htT _ tw_102) rfl rfl rfl eD5 dX4_pay_26 (fun H locs hP hS => ?_)
  exact cp_vret hx hb hr hlocks hF hP hS dX4_pay_29
theorem dX4_aheadOf_0 : decode cX4_aheadOf 0 = .ok (.aload_n 0, 1) := by decide +kernel
theorem dX4_aheadOf_1 : decode cX4_aheadOf 1 = .ok (.getfield 17, 3) := by decide +kernel
theorem dX4_aheadOf_4 : decode cX4_aheadOf 4 = .ok (.getfield 70, 3) := by decide +kernel
theorem dX4_aheadOf_7 : decode cX4_aheadOf 7 = .ok (.aload_n 1, 1) := by decide +kernel
theorem dX4_aheadOf_8 : decode cX4_aheadOf 8 = .ok (.getfield 73, 3) := by decide +kernel
theorem dX4_aheadOf_11 : decode cX4_aheadOf 11 = .ok (.iconst 4, 1) := by decide +kernel
theorem dX4_aheadOf_12 : decode cX4_aheadOf 12 = .ok (.imul, 1) := by decide +kernel
theorem dX4_aheadOf_13 : decode cX4_aheadOf 13 = .ok (.aload_n 1, 1) := by decide +kernel
theorem dX4_aheadOf_14 : decode cX4_aheadOf 14 = .ok (.getfield 76, 3) := by decide +kernel
theorem dX4_aheadOf_17 : decode cX4_aheadOf 17 = .ok (.iadd, 1) := by decide +kernel
theorem dX4_aheadOf_18 : decode cX4_aheadOf 18 = .ok (.iaload, 1) := by decide +kernel
theorem dX4_aheadOf_19 : decode cX4_aheadOf 19 = .ok (.ireturn, 1) := by decide +kernel
def fn_X4_aheadOf (L : cp_Lay) (q : Nat) (k0 : Nat) (k1 : Nat) (D : cp_Dt) : Option (Int32 × cp_Dt) :=
  (cp_gR L k0 4 0).bind fun r1 =>
  (cp_gR L r1 5 3).bind fun r2 =>
  (cp_gI L D k1 1 5).bind fun v3 =>
  (cp_gI L D k1 1 6).bind fun v4 =>
  (cp_aI L D 0 r2 ((v3 * (4 : Int32)) + v4)).bind fun v5 =>
  some (v5, D)
set_option maxHeartbeats 4000000 in
set_option maxRecDepth 100000 in
theorem ct_X4_aheadOf (l : Launch) (G : va_G) (L : cp_Lay) (hJ : cp_J L) (q : Nat) (k0 : Nat) (k1 : Nat) (D : cp_Dt) (res : Int32 × cp_Dt) (hF : fn_X4_aheadOf L q k0 k1 D = some res) : cp_Met l G yX4_aheadOf wsX4_aheadOf ({ frames := 0, cells := 0, slots := 0, locals := 0 }) L ([.ref (L.2.1 k0), .ref (L.2.1 k1)] : List Value) D res.2 (some (.int res.1)) := by
  refine Met.ofW (cc := cX4_aheadOf) (maxL := 2) (ret := (some .int)) (by decide) rfl ?_
  intro p e s m args below meth c s₁ B hml hv
  obtain ⟨rfl, hP, hK, hN, hZ⟩ := hv
  have hx := B.exec
  have hb := B.bytes
  have hr := B.returns
  have hts := atoms_spec (ws := wsX4_aheadOf) B.pre
  have hown : s.vm.findClass "CreaturePond$Pond" = some m.cls := findClass_of_methodNamed B.named
  have hlocks := B.notSynchronized
  have hS : va_S (cp_A L) s.heap s.heap [] := va_S.rf
  have htT : ∀ w ∈ cp_T, w.before ([.ref (L.2.1 k0), .ref (L.2.1 k1)] : List Value).toArray s = true := fun w h => hts w (List.mem_cons_of_mem _ h)
  have hl := lv_entry (([.ref (L.2.1 k0), .ref (L.2.1 k1)] : List Value)) (n := 2) (Nat.le_of_ble_eq_true rfl)
  rw [lg_entry_eq]
  generalize (lg_sl (([.ref (L.2.1 k0), .ref (L.2.1 k1)] : List Value)) ++ List.replicate (2 - (lg_sl (([.ref (L.2.1 k0), .ref (L.2.1 k1)] : List Value))).length) Slot.unset).toArray = ls at hl ⊢
  have hl : lv_has ls 2 [(0, .ref (L.2.1 k0)), (1, .ref (L.2.1 k1))] := hl
  unfold fn_X4_aheadOf at hF
  refine lv_aload_n hx hb dX4_aheadOf_0 rfl (lv_at hl 0 rfl) ?_
  obtain ⟨r1, er1, hF⟩ := cp_bind hF
  refine cp_getR (T := TX4) (N := 12) (ci := 4) (j := 0) hx hb htT hinX4 hown hK hP rfl (by decide) rfl (htT _ tw_97) er1 dX4_aheadOf_1 ?_
  obtain ⟨r2, er2, hF⟩ := cp_bind hF
  refine cp_getRN (T := TX5) (N := 4) (ci := 5) (j := 3) hx hb htT hinX5 hown hK hP rfl (by decide) rfl (hN _ (List.mem_of_getElem? (i := 2) rfl)) er2 dX4_aheadOf_4 ?_
  refine lv_aload_n hx hb dX4_aheadOf_7 rfl (lv_at hl 1 rfl) ?_
  obtain ⟨v3, ev3, hF⟩ := cp_bind hF
  refine cp_getIN (T := TX1) (N := 14) (ci := 1) (j := 5) hx hb htT hinX1 hown hK hP rfl (by decide) rfl (hN _ (List.mem_of_getElem? (i := 16) rfl)) ev3 dX4_aheadOf_8 ?_
  refine lv_iconst (v := (4 : Int32)) hx hb dX4_aheadOf_11 (by decide) ?_
  refine lv_imul hx hb dX4_aheadOf_12 ?_
  refine lv_aload_n hx hb dX4_aheadOf_13 rfl (lv_at hl 1 rfl) ?_
  obtain ⟨v4, ev4, hF⟩ := cp_bind hF
  refine cp_getIN (T := TX1) (N := 14) (ci := 1) (j := 6) hx hb htT hinX1 hown hK hP rfl (by decide) rfl (hN _ (List.mem_of_getElem? (i := 20) rfl)) ev4 dX4_aheadOf_14 ?_
  refine lv_iadd hx hb dX4_aheadOf_17 ?_
  obtain ⟨v5, ev5, hF⟩ := cp_bind hF
  refine cp_iald hx hb hK hP ev5 dX4_aheadOf_18 ?_
  exact cp_iret hx hb hr hlocks hF hP hS dX4_aheadOf_19
theorem dX4_nextNumber_0 : decode cX4_nextNumber 0 = .ok (.aload_n 0, 1) := by decide +kernel
theorem dX4_nextNumber_1 : decode cX4_nextNumber 1 = .ok (.getfield 55, 3) := by decide +kernel
theorem dX4_nextNumber_4 : decode cX4_nextNumber 4 = .ok (.bipush 16, 2) := by decide +kernel
theorem dX4_nextNumber_6 : decode cX4_nextNumber 6 = .ok (.iushr, 1) := by decide +kernel
theorem dX4_nextNumber_7 : decode cX4_nextNumber 7 = .ok (.istore_n 1, 1) := by decide +kernel
theorem dX4_nextNumber_8 : decode cX4_nextNumber 8 = .ok (.aload_n 0, 1) := by decide +kernel
theorem dX4_nextNumber_9 : decode cX4_nextNumber 9 = .ok (.aload_n 0, 1) := by decide +kernel
theorem dX4_nextNumber_10 : decode cX4_nextNumber 10 = .ok (.getfield 55, 3) := by decide +kernel
theorem dX4_nextNumber_13 : decode cX4_nextNumber 13 = .ok (.ldc 96, 2) := by decide +kernel
theorem dX4_nextNumber_15 : decode cX4_nextNumber 15 = .ok (.imul, 1) := by decide +kernel
theorem dX4_nextNumber_16 : decode cX4_nextNumber 16 = .ok (.iconst 1, 1) := by decide +kernel
theorem dX4_nextNumber_17 : decode cX4_nextNumber 17 = .ok (.iadd, 1) := by decide +kernel
theorem dX4_nextNumber_18 : decode cX4_nextNumber 18 = .ok (.putfield 55, 3) := by decide +kernel
theorem dX4_nextNumber_21 : decode cX4_nextNumber 21 = .ok (.iload_n 1, 1) := by decide +kernel
theorem dX4_nextNumber_22 : decode cX4_nextNumber 22 = .ok (.ireturn, 1) := by decide +kernel
def fn_X4_nextNumber (L : cp_Lay) (q : Nat) (k0 : Nat) (D : cp_Dt) : Option (Int32 × cp_Dt) :=
  (cp_gI L D k0 4 7).bind fun v1 =>
  (cp_gI L D k0 4 7).bind fun v2 =>
  (cp_pI L D k0 4 7 ((v2 * (134775813 : Int32)) + (1 : Int32))).bind fun D3 =>
  some ((v1.toUInt32 >>> ((16 : Int32).toUInt32 &&& Int32.toUInt32 31)).toInt32, D3)
set_option maxHeartbeats 4000000 in
set_option maxRecDepth 100000 in
theorem ct_X4_nextNumber (l : Launch) (G : va_G) (L : cp_Lay) (hJ : cp_J L) (q : Nat) (k0 : Nat) (D : cp_Dt) (res : Int32 × cp_Dt) (hF : fn_X4_nextNumber L q k0 D = some res) : cp_Met l G yX4_nextNumber wsX4_nextNumber ({ frames := 0, cells := 0, slots := 0, locals := 0 }) L ([.ref (L.2.1 k0)] : List Value) D res.2 (some (.int res.1)) := by
  refine Met.ofW (cc := cX4_nextNumber) (maxL := 2) (ret := (some .int)) (by decide) rfl ?_
  intro p e s m args below meth c s₁ B hml hv
  obtain ⟨rfl, hP, hK, hN, hZ⟩ := hv
  have hx := B.exec
  have hb := B.bytes
  have hr := B.returns
  have hts := atoms_spec (ws := wsX4_nextNumber) B.pre
  have hown : s.vm.findClass "CreaturePond$Pond" = some m.cls := findClass_of_methodNamed B.named
  have hlocks := B.notSynchronized
  have hS : va_S (cp_A L) s.heap s.heap [] := va_S.rf
  have htT : ∀ w ∈ cp_T, w.before ([.ref (L.2.1 k0)] : List Value).toArray s = true := fun w h => hts w (List.mem_cons_of_mem _ h)
  have hl := lv_entry (([.ref (L.2.1 k0)] : List Value)) (n := 2) (Nat.le_of_ble_eq_true rfl)
  rw [lg_entry_eq]
  generalize (lg_sl (([.ref (L.2.1 k0)] : List Value)) ++ List.replicate (2 - (lg_sl (([.ref (L.2.1 k0)] : List Value))).length) Slot.unset).toArray = ls at hl ⊢
  have hl : lv_has ls 2 [(0, .ref (L.2.1 k0))] := hl
  unfold fn_X4_nextNumber at hF
  refine lv_aload_n hx hb dX4_nextNumber_0 rfl (lv_at hl 0 rfl) ?_
  obtain ⟨v1, ev1, hF⟩ := cp_bind hF
  refine cp_getI (T := TX4) (N := 12) (ci := 4) (j := 7) hx hb htT hinX4 hown hK hP rfl (by decide) rfl (htT _ tw_104) ev1 dX4_nextNumber_1 ?_
  refine lv_bipush (v := (16 : Int32)) hx hb dX4_nextNumber_4 (by decide) ?_
  refine lv_iushr hx hb dX4_nextNumber_6 rfl ?_
  refine lv_istore_n (lv' := [(1, .int ((v1.toUInt32 >>> ((16 : Int32).toUInt32 &&& Int32.toUInt32 31)).toInt32)), (0, .ref (L.2.1 k0))]) hx hb dX4_nextNumber_7 rfl hl (by decide) rfl (fun ls hl => ?_)
  refine lv_aload_n hx hb dX4_nextNumber_8 rfl (lv_at hl 1 rfl) ?_
  refine lv_aload_n hx hb dX4_nextNumber_9 rfl (lv_at hl 1 rfl) ?_
  obtain ⟨v2, ev2, hF⟩ := cp_bind hF
  refine cp_getI (T := TX4) (N := 12) (ci := 4) (j := 7) hx hb htT hinX4 hown hK hP rfl (by decide) rfl (htT _ tw_104) ev2 dX4_nextNumber_10 ?_
  refine lv_ldc (v := (134775813 : Int32)) hx hb hown (htT _ tw_330) dX4_nextNumber_13 ?_
  refine lv_imul hx hb dX4_nextNumber_15 ?_
  refine lv_iconst (v := (1 : Int32)) hx hb dX4_nextNumber_16 (by decide) ?_
  refine lv_iadd hx hb dX4_nextNumber_17 ?_
  obtain ⟨D3, eD3, hF⟩ := cp_bind hF
  refine cp_put (T := TX4) (N := 12) (ci := 4) (j := 7) hx hb htT hinX4 tyX4 tyX4_ok nmX4 hown hK hJ hP hS rfl (by decide) rfl (htT _ tw_104) rfl rfl rfl eD3 dX4_nextNumber_18 (fun H locs hP hS => ?_)
  refine lv_iload_n hx hb dX4_nextNumber_21 rfl (lv_at hl 0 rfl) ?_
  exact cp_iret hx hb hr hlocks hF hP hS dX4_nextNumber_22
theorem dX4_end_0 : decode cX4_end 0 = .ok (.aload_n 0, 1) := by decide +kernel
theorem dX4_end_1 : decode cX4_end 1 = .ok (.getfield 27, 3) := by decide +kernel
theorem dX4_end_4 : decode cX4_end 4 = .ok (.aload_n 1, 1) := by decide +kernel
theorem dX4_end_5 : decode cX4_end 5 = .ok (.getfield 73, 3) := by decide +kernel
theorem dX4_end_8 : decode cX4_end 8 = .ok (.iaload, 1) := by decide +kernel
theorem dX4_end_9 : decode cX4_end 9 = .ok (.aload_n 1, 1) := by decide +kernel
theorem dX4_end_10 : decode cX4_end 10 = .ok (.getfield 83, 3) := by decide +kernel
theorem dX4_end_13 : decode cX4_end 13 = .ok (.iadd, 1) := by decide +kernel
theorem dX4_end_14 : decode cX4_end 14 = .ok (.istore_n 2, 1) := by decide +kernel
theorem dX4_end_15 : decode cX4_end 15 = .ok (.iload_n 2, 1) := by decide +kernel
theorem dX4_end_16 : decode cX4_end 16 = .ok (.sipush 250, 3) := by decide +kernel
theorem dX4_end_19 : decode cX4_end 19 = .ok (.invokestatic 90, 3) := by decide +kernel
theorem dX4_end_22 : decode cX4_end 22 = .ok (.istore_n 3, 1) := by decide +kernel
theorem dX4_end_23 : decode cX4_end 23 = .ok (.aload_n 0, 1) := by decide +kernel
theorem dX4_end_24 : decode cX4_end 24 = .ok (.getfield 27, 3) := by decide +kernel
theorem dX4_end_27 : decode cX4_end 27 = .ok (.aload_n 1, 1) := by decide +kernel
theorem dX4_end_28 : decode cX4_end 28 = .ok (.getfield 73, 3) := by decide +kernel
theorem dX4_end_31 : decode cX4_end 31 = .ok (.iload_n 3, 1) := by decide +kernel
theorem dX4_end_32 : decode cX4_end 32 = .ok (.iastore, 1) := by decide +kernel
theorem dX4_end_33 : decode cX4_end 33 = .ok (.aload_n 0, 1) := by decide +kernel
theorem dX4_end_34 : decode cX4_end 34 = .ok (.dup, 1) := by decide +kernel
theorem dX4_end_35 : decode cX4_end 35 = .ok (.getfield 49, 3) := by decide +kernel
theorem dX4_end_38 : decode cX4_end 38 = .ok (.iload_n 2, 1) := by decide +kernel
theorem dX4_end_39 : decode cX4_end 39 = .ok (.iload_n 3, 1) := by decide +kernel
theorem dX4_end_40 : decode cX4_end 40 = .ok (.isub, 1) := by decide +kernel
theorem dX4_end_41 : decode cX4_end 41 = .ok (.iadd, 1) := by decide +kernel
theorem dX4_end_42 : decode cX4_end 42 = .ok (.putfield 49, 3) := by decide +kernel
theorem dX4_end_45 : decode cX4_end 45 = .ok (.aload_n 0, 1) := by decide +kernel
theorem dX4_end_46 : decode cX4_end 46 = .ok (.getfield 35, 3) := by decide +kernel
theorem dX4_end_49 : decode cX4_end 49 = .ok (.aload_n 1, 1) := by decide +kernel
theorem dX4_end_50 : decode cX4_end 50 = .ok (.getfield 73, 3) := by decide +kernel
theorem dX4_end_53 : decode cX4_end 53 = .ok (.iconst (-1), 1) := by decide +kernel
theorem dX4_end_54 : decode cX4_end 54 = .ok (.iastore, 1) := by decide +kernel
theorem dX4_end_55 : decode cX4_end 55 = .ok (.aload_n 1, 1) := by decide +kernel
theorem dX4_end_56 : decode cX4_end 56 = .ok (.iconst 0, 1) := by decide +kernel
theorem dX4_end_57 : decode cX4_end 57 = .ok (.putfield 79, 3) := by decide +kernel
theorem dX4_end_60 : decode cX4_end 60 = .ok (.aload_n 0, 1) := by decide +kernel
theorem dX4_end_61 : decode cX4_end 61 = .ok (.dup, 1) := by decide +kernel
theorem dX4_end_62 : decode cX4_end 62 = .ok (.getfield 64, 3) := by decide +kernel
theorem dX4_end_65 : decode cX4_end 65 = .ok (.iconst 1, 1) := by decide +kernel
theorem dX4_end_66 : decode cX4_end 66 = .ok (.iadd, 1) := by decide +kernel
theorem dX4_end_67 : decode cX4_end 67 = .ok (.putfield 64, 3) := by decide +kernel
theorem dX4_end_70 : decode cX4_end 70 = .ok (.return_, 1) := by decide +kernel
def fn_X4_end (L : cp_Lay) (q : Nat) (k0 : Nat) (k1 : Nat) (D : cp_Dt) : Option (cp_Dt) :=
  (cp_gR L k0 4 1).bind fun r1 =>
  (cp_gI L D k1 1 5).bind fun v2 =>
  (cp_aI L D 0 r1 v2).bind fun v3 =>
  (cp_gI L D k1 1 7).bind fun v4 =>
  (cp_gR L k0 4 1).bind fun r5 =>
  (cp_gI L D k1 1 5).bind fun v6 =>
  (cp_aS L D 0 r5 v6 (cp_mn (v3 + v4) (250 : Int32))).bind fun D7 =>
  (cp_gI L D7 k0 4 5).bind fun v8 =>
  (cp_pI L D7 k0 4 5 (v8 + ((v3 + v4) - (cp_mn (v3 + v4) (250 : Int32))))).bind fun D9 =>
  (cp_gR L k0 4 3).bind fun r10 =>
  (cp_gI L D9 k1 1 5).bind fun v11 =>
  (cp_aS L D9 0 r10 v11 (-1 : Int32)).bind fun D12 =>
  (cp_pZ L D12 k1 1 3 (0 : Int32)).bind fun D13 =>
  (cp_gI L D13 k0 4 10).bind fun v14 =>
  (cp_pI L D13 k0 4 10 (v14 + (1 : Int32))).bind fun D15 =>
  some D15
set_option maxHeartbeats 4000000 in
set_option maxRecDepth 100000 in
theorem ct_X4_end (l : Launch) (G : va_G) (L : cp_Lay) (hJ : cp_J L) (q : Nat) (k0 : Nat) (k1 : Nat) (D : cp_Dt) (res : cp_Dt) (hF : fn_X4_end L q k0 k1 D = some res) : cp_Met l G yX4_end wsX4_end ({ frames := 1, cells := 0, slots := 0, locals := 21 }) L ([.ref (L.2.1 k0), .ref (L.2.1 k1)] : List Value) D res none := by
  refine Met.ofW (cc := cX4_end) (maxL := 4) (ret := none) (by decide) rfl ?_
  intro p e s m args below meth c s₁ B hml hv
  obtain ⟨rfl, hP, hK, hN, hZ⟩ := hv
  have hx := B.exec
  have hb := B.bytes
  have hr := B.returns
  have hts := atoms_spec (ws := wsX4_end) B.pre
  have hown : s.vm.findClass "CreaturePond$Pond" = some m.cls := findClass_of_methodNamed B.named
  have hlocks := B.notSynchronized
  have hS : va_S (cp_A L) s.heap s.heap [] := va_S.rf
  have htT : ∀ w ∈ cp_T, w.before ([.ref (L.2.1 k0), .ref (L.2.1 k1)] : List Value).toArray s = true := fun w h => hts w (List.mem_cons_of_mem _ h)
  have hl := lv_entry (([.ref (L.2.1 k0), .ref (L.2.1 k1)] : List Value)) (n := 4) (Nat.le_of_ble_eq_true rfl)
  rw [lg_entry_eq]
  generalize (lg_sl (([.ref (L.2.1 k0), .ref (L.2.1 k1)] : List Value)) ++ List.replicate (4 - (lg_sl (([.ref (L.2.1 k0), .ref (L.2.1 k1)] : List Value))).length) Slot.unset).toArray = ls at hl ⊢
  have hl : lv_has ls 4 [(0, .ref (L.2.1 k0)), (1, .ref (L.2.1 k1))] := hl
  unfold fn_X4_end at hF
  refine lv_aload_n hx hb dX4_end_0 rfl (lv_at hl 0 rfl) ?_
  obtain ⟨r1, er1, hF⟩ := cp_bind hF
  refine cp_getR (T := TX4) (N := 12) (ci := 4) (j := 1) hx hb htT hinX4 hown hK hP rfl (by decide) rfl (htT _ tw_98) er1 dX4_end_1 ?_
  refine lv_aload_n hx hb dX4_end_4 rfl (lv_at hl 1 rfl) ?_
  obtain ⟨v2, ev2, hF⟩ := cp_bind hF
  refine cp_getIN (T := TX1) (N := 14) (ci := 1) (j := 5) hx hb htT hinX1 hown hK hP rfl (by decide) rfl (hN _ (List.mem_of_getElem? (i := 16) rfl)) ev2 dX4_end_5 ?_
  obtain ⟨v3, ev3, hF⟩ := cp_bind hF
  refine cp_iald hx hb hK hP ev3 dX4_end_8 ?_
  refine lv_aload_n hx hb dX4_end_9 rfl (lv_at hl 1 rfl) ?_
  obtain ⟨v4, ev4, hF⟩ := cp_bind hF
  refine cp_getIN (T := TX1) (N := 14) (ci := 1) (j := 7) hx hb htT hinX1 hown hK hP rfl (by decide) rfl (hN _ (List.mem_of_getElem? (i := 25) rfl)) ev4 dX4_end_10 ?_
  refine lv_iadd hx hb dX4_end_13 ?_
  refine lv_istore_n (lv' := [(2, .int (v3 + v4)), (0, .ref (L.2.1 k0)), (1, .ref (L.2.1 k1))]) hx hb dX4_end_14 rfl hl (by decide) rfl (fun ls hl => ?_)
  refine lv_iload_n hx hb dX4_end_15 rfl (lv_at hl 0 rfl) ?_
  refine lv_sipush (v := (250 : Int32)) hx hb dX4_end_16 (by decide) ?_
  refine va_mmin hx hb (by rw [hml]; exact hl.1.symm) hown (htT _ tw_268) (htT _ tw_27) (htT _ tw_3) (htT _ tw_28) (Nat.le_of_ble_eq_true rfl) (Nat.le_of_ble_eq_true rfl) (Nat.zero_le _) (Nat.zero_le _) dX4_end_19 ?_
  refine lv_istore_n (lv' := [(3, .int (cp_mn (v3 + v4) (250 : Int32))), (2, .int (v3 + v4)), (0, .ref (L.2.1 k0)), (1, .ref (L.2.1 k1))]) hx hb dX4_end_22 rfl hl (by decide) rfl (fun ls hl => ?_)
  refine lv_aload_n hx hb dX4_end_23 rfl (lv_at hl 2 rfl) ?_
  obtain ⟨r5, er5, hF⟩ := cp_bind hF
  refine cp_getR (T := TX4) (N := 12) (ci := 4) (j := 1) hx hb htT hinX4 hown hK hP rfl (by decide) rfl (htT _ tw_98) er5 dX4_end_24 ?_
  refine lv_aload_n hx hb dX4_end_27 rfl (lv_at hl 3 rfl) ?_
  obtain ⟨v6, ev6, hF⟩ := cp_bind hF
  refine cp_getIN (T := TX1) (N := 14) (ci := 1) (j := 5) hx hb htT hinX1 hown hK hP rfl (by decide) rfl (hN _ (List.mem_of_getElem? (i := 16) rfl)) ev6 dX4_end_28 ?_
  refine lv_iload_n hx hb dX4_end_31 rfl (lv_at hl 0 rfl) ?_
  obtain ⟨D7, eD7, hF⟩ := cp_bind hF
  refine cp_iast hx hb hK hJ hP hS eD7 dX4_end_32 (fun H locs hP hS => ?_)
  refine lv_aload_n hx hb dX4_end_33 rfl (lv_at hl 2 rfl) ?_
  refine lv_dup hx hb dX4_end_34 rfl ?_
  obtain ⟨v8, ev8, hF⟩ := cp_bind hF
  refine cp_getI (T := TX4) (N := 12) (ci := 4) (j := 5) hx hb htT hinX4 hown hK hP rfl (by decide) rfl (htT _ tw_102) ev8 dX4_end_35 ?_
  refine lv_iload_n hx hb dX4_end_38 rfl (lv_at hl 1 rfl) ?_
  refine lv_iload_n hx hb dX4_end_39 rfl (lv_at hl 0 rfl) ?_
  refine lv_isub hx hb dX4_end_40 ?_
  refine lv_iadd hx hb dX4_end_41 ?_
  obtain ⟨D9, eD9, hF⟩ := cp_bind hF
  refine cp_put (T := TX4) (N := 12) (ci := 4) (j := 5) hx hb htT hinX4 tyX4 tyX4_ok nmX4 hown hK hJ hP hS rfl (by decide) rfl (htT _ tw_102) rfl rfl rfl eD9 dX4_end_42 (fun H locs hP hS => ?_)
  refine lv_aload_n hx hb dX4_end_45 rfl (lv_at hl 2 rfl) ?_
  obtain ⟨r10, er10, hF⟩ := cp_bind hF
  refine cp_getR (T := TX4) (N := 12) (ci := 4) (j := 3) hx hb htT hinX4 hown hK hP rfl (by decide) rfl (htT _ tw_100) er10 dX4_end_46 ?_
  refine lv_aload_n hx hb dX4_end_49 rfl (lv_at hl 3 rfl) ?_
  obtain ⟨v11, ev11, hF⟩ := cp_bind hF
  refine cp_getIN (T := TX1) (N := 14) (ci := 1) (j := 5) hx hb htT hinX1 hown hK hP rfl (by decide) rfl (hN _ (List.mem_of_getElem? (i := 16) rfl)) ev11 dX4_end_50 ?_
  refine lv_iconst (v := (-1 : Int32)) hx hb dX4_end_53 (by decide) ?_
  obtain ⟨D12, eD12, hF⟩ := cp_bind hF
  refine cp_iast hx hb hK hJ hP hS eD12 dX4_end_54 (fun H locs hP hS => ?_)
  refine lv_aload_n hx hb dX4_end_55 rfl (lv_at hl 3 rfl) ?_
  refine lv_iconst (v := (0 : Int32)) hx hb dX4_end_56 (by decide) ?_
  obtain ⟨D13, eD13, hF⟩ := cp_bind hF
  refine cp_putN (T := TX1) (N := 14) (ci := 1) (j := 3) hx hb htT hinX1 tyX1 tyX1_ok nmX1 hown hK hJ hP hS rfl (by decide) rfl (hN _ (List.mem_of_getElem? (i := 13) rfl)) rfl (cp_pZ_spec eD13).2.1 (cp_pZ_spec eD13).2.2 (cp_pZ_spec eD13).1 dX4_end_57 (fun H locs hP hS => ?_)
  refine lv_aload_n hx hb dX4_end_60 rfl (lv_at hl 2 rfl) ?_
  refine lv_dup hx hb dX4_end_61 rfl ?_
  obtain ⟨v14, ev14, hF⟩ := cp_bind hF
  refine cp_getI (T := TX4) (N := 12) (ci := 4) (j := 10) hx hb htT hinX4 hown hK hP rfl (by decide) rfl (htT _ tw_107) ev14 dX4_end_62 ?_
  refine lv_iconst (v := (1 : Int32)) hx hb dX4_end_65 (by decide) ?_
  refine lv_iadd hx hb dX4_end_66 ?_
  obtain ⟨D15, eD15, hF⟩ := cp_bind hF
  refine cp_put (T := TX4) (N := 12) (ci := 4) (j := 10) hx hb htT hinX4 tyX4 tyX4_ok nmX4 hown hK hJ hP hS rfl (by decide) rfl (htT _ tw_107) rfl rfl rfl eD15 dX4_end_67 (fun H locs hP hS => ?_)
  exact cp_vret hx hb hr hlocks hF hP hS dX4_end_70
theorem dX4_hasOtherDweller_0 : decode cX4_hasOtherDweller 0 = .ok (.aload_n 0, 1) := by decide +kernel
theorem dX4_hasOtherDweller_1 : decode cX4_hasOtherDweller 1 = .ok (.getfield 35, 3) := by decide +kernel
theorem dX4_hasOtherDweller_4 : decode cX4_hasOtherDweller 4 = .ok (.iload_n 2, 1) := by decide +kernel
theorem dX4_hasOtherDweller_5 : decode cX4_hasOtherDweller 5 = .ok (.iaload, 1) := by decide +kernel
theorem dX4_hasOtherDweller_6 : decode cX4_hasOtherDweller 6 = .ok (.istore_n 3, 1) := by decide +kernel
theorem dX4_hasOtherDweller_7 : decode cX4_hasOtherDweller 7 = .ok (.iload_n 3, 1) := by decide +kernel
theorem dX4_hasOtherDweller_8 : decode cX4_hasOtherDweller 8 = .ok (.aload_n 1, 1) := by decide +kernel
theorem dX4_hasOtherDweller_9 : decode cX4_hasOtherDweller 9 = .ok (.getfield 35, 3) := by decide +kernel
theorem dX4_hasOtherDweller_12 : decode cX4_hasOtherDweller 12 = .ok (.iload_n 2, 1) := by decide +kernel
theorem dX4_hasOtherDweller_13 : decode cX4_hasOtherDweller 13 = .ok (.iaload, 1) := by decide +kernel
theorem dX4_hasOtherDweller_14 : decode cX4_hasOtherDweller 14 = .ok (.if_icmp .eq 5, 3) := by decide +kernel
theorem dX4_hasOtherDweller_17 : decode cX4_hasOtherDweller 17 = .ok (.iconst 1, 1) := by decide +kernel
theorem dX4_hasOtherDweller_18 : decode cX4_hasOtherDweller 18 = .ok (.ireturn, 1) := by decide +kernel
theorem dX4_hasOtherDweller_19 : decode cX4_hasOtherDweller 19 = .ok (.iload_n 3, 1) := by decide +kernel
theorem dX4_hasOtherDweller_20 : decode cX4_hasOtherDweller 20 = .ok (.iconst (-1), 1) := by decide +kernel
theorem dX4_hasOtherDweller_21 : decode cX4_hasOtherDweller 21 = .ok (.if_icmp .ne 5, 3) := by decide +kernel
theorem dX4_hasOtherDweller_24 : decode cX4_hasOtherDweller 24 = .ok (.iconst 0, 1) := by decide +kernel
theorem dX4_hasOtherDweller_25 : decode cX4_hasOtherDweller 25 = .ok (.ireturn, 1) := by decide +kernel
theorem dX4_hasOtherDweller_26 : decode cX4_hasOtherDweller 26 = .ok (.aload_n 0, 1) := by decide +kernel
theorem dX4_hasOtherDweller_27 : decode cX4_hasOtherDweller 27 = .ok (.getfield 11, 3) := by decide +kernel
theorem dX4_hasOtherDweller_30 : decode cX4_hasOtherDweller 30 = .ok (.iload_n 3, 1) := by decide +kernel
theorem dX4_hasOtherDweller_31 : decode cX4_hasOtherDweller 31 = .ok (.aaload, 1) := by decide +kernel
theorem dX4_hasOtherDweller_32 : decode cX4_hasOtherDweller 32 = .ok (.astore 4, 2) := by decide +kernel
theorem dX4_hasOtherDweller_34 : decode cX4_hasOtherDweller 34 = .ok (.aload_n 1, 1) := by decide +kernel
theorem dX4_hasOtherDweller_35 : decode cX4_hasOtherDweller 35 = .ok (.getfield 11, 3) := by decide +kernel
theorem dX4_hasOtherDweller_38 : decode cX4_hasOtherDweller 38 = .ok (.iload_n 3, 1) := by decide +kernel
theorem dX4_hasOtherDweller_39 : decode cX4_hasOtherDweller 39 = .ok (.aaload, 1) := by decide +kernel
theorem dX4_hasOtherDweller_40 : decode cX4_hasOtherDweller 40 = .ok (.astore 5, 2) := by decide +kernel
theorem dX4_hasOtherDweller_42 : decode cX4_hasOtherDweller 42 = .ok (.aload 4, 2) := by decide +kernel
theorem dX4_hasOtherDweller_44 : decode cX4_hasOtherDweller 44 = .ok (.getfield 76, 3) := by decide +kernel
theorem dX4_hasOtherDweller_47 : decode cX4_hasOtherDweller 47 = .ok (.aload 5, 2) := by decide +kernel
theorem dX4_hasOtherDweller_49 : decode cX4_hasOtherDweller 49 = .ok (.getfield 76, 3) := by decide +kernel
theorem dX4_hasOtherDweller_52 : decode cX4_hasOtherDweller 52 = .ok (.if_icmp .ne 16, 3) := by decide +kernel
theorem dX4_hasOtherDweller_55 : decode cX4_hasOtherDweller 55 = .ok (.aload 4, 2) := by decide +kernel
theorem dX4_hasOtherDweller_57 : decode cX4_hasOtherDweller 57 = .ok (.getfield 83, 3) := by decide +kernel
theorem dX4_hasOtherDweller_60 : decode cX4_hasOtherDweller 60 = .ok (.aload 5, 2) := by decide +kernel
theorem dX4_hasOtherDweller_62 : decode cX4_hasOtherDweller 62 = .ok (.getfield 83, 3) := by decide +kernel
theorem dX4_hasOtherDweller_65 : decode cX4_hasOtherDweller 65 = .ok (.if_icmp .eq 7, 3) := by decide +kernel
theorem dX4_hasOtherDweller_68 : decode cX4_hasOtherDweller 68 = .ok (.iconst 1, 1) := by decide +kernel
theorem dX4_hasOtherDweller_69 : decode cX4_hasOtherDweller 69 = .ok (.goto 4, 3) := by decide +kernel
theorem dX4_hasOtherDweller_72 : decode cX4_hasOtherDweller 72 = .ok (.iconst 0, 1) := by decide +kernel
theorem dX4_hasOtherDweller_73 : decode cX4_hasOtherDweller 73 = .ok (.ireturn, 1) := by decide +kernel
def fn_X4_hasOtherDweller (L : cp_Lay) (q : Nat) (k0 : Nat) (k1 : Nat) (x2 : Int32) (D : cp_Dt) : Option (Int32 × cp_Dt) :=
  (cp_gR L k0 4 3).bind fun r1 =>
  (cp_aI L D 0 r1 x2).bind fun v2 =>
  (cp_gR L k1 4 3).bind fun r3 =>
  (cp_aI L D 0 r3 x2).bind fun v4 =>
  if v2 = v4 then (if v2 = (-1 : Int32) then (some ((0 : Int32), D))
  else ((cp_gR L k0 4 4).bind fun r7 =>
  (cp_aR L r7 v2).bind fun r8 =>
  (cp_gR L k1 4 4).bind fun r9 =>
  (cp_aR L r9 v2).bind fun r10 =>
  (cp_gI L D r8 1 6).bind fun v11 =>
  (cp_gI L D r10 1 6).bind fun v12 =>
  if v11 = v12 then ((cp_gI L D r8 1 7).bind fun v14 =>
  (cp_gI L D r10 1 7).bind fun v15 =>
  if v14 = v15 then (some ((0 : Int32), D))
  else (some ((1 : Int32), D)))
  else (some ((1 : Int32), D))))
  else (some ((1 : Int32), D))
set_option maxHeartbeats 4000000 in
set_option maxRecDepth 100000 in
theorem ct_X4_hasOtherDweller (l : Launch) (G : va_G) (L : cp_Lay) (hJ : cp_J L) (q : Nat) (k0 : Nat) (k1 : Nat) (x2 : Int32) (D : cp_Dt) (res : Int32 × cp_Dt) (hF : fn_X4_hasOtherDweller L q k0 k1 x2 D = some res) : cp_Met l G yX4_hasOtherDweller wsX4_hasOtherDweller ({ frames := 0, cells := 0, slots := 0, locals := 0 }) L ([.ref (L.2.1 k0), .ref (L.2.1 k1), .int x2] : List Value) D res.2 (some (.int res.1)) := by
  refine Met.ofW (cc := cX4_hasOtherDweller) (maxL := 6) (ret := (some .boolean)) (by decide) rfl ?_
  intro p e s m args below meth c s₁ B hml hv
  obtain ⟨rfl, hP, hK, hN, hZ⟩ := hv
  have hx := B.exec
  have hb := B.bytes
  have hr := B.returns
  have hts := atoms_spec (ws := wsX4_hasOtherDweller) B.pre
  have hown : s.vm.findClass "CreaturePond$Pond" = some m.cls := findClass_of_methodNamed B.named
  have hlocks := B.notSynchronized
  have hS : va_S (cp_A L) s.heap s.heap [] := va_S.rf
  have htT : ∀ w ∈ cp_T, w.before ([.ref (L.2.1 k0), .ref (L.2.1 k1), .int x2] : List Value).toArray s = true := fun w h => hts w (List.mem_cons_of_mem _ h)
  have hl := lv_entry (([.ref (L.2.1 k0), .ref (L.2.1 k1), .int x2] : List Value)) (n := 6) (Nat.le_of_ble_eq_true rfl)
  rw [lg_entry_eq]
  generalize (lg_sl (([.ref (L.2.1 k0), .ref (L.2.1 k1), .int x2] : List Value)) ++ List.replicate (6 - (lg_sl (([.ref (L.2.1 k0), .ref (L.2.1 k1), .int x2] : List Value))).length) Slot.unset).toArray = ls at hl ⊢
  have hl : lv_has ls 6 [(0, .ref (L.2.1 k0)), (1, .ref (L.2.1 k1)), (2, .int x2)] := hl
  unfold fn_X4_hasOtherDweller at hF
  refine lv_aload_n hx hb dX4_hasOtherDweller_0 rfl (lv_at hl 0 rfl) ?_
  obtain ⟨r1, er1, hF⟩ := cp_bind hF
  refine cp_getR (T := TX4) (N := 12) (ci := 4) (j := 3) hx hb htT hinX4 hown hK hP rfl (by decide) rfl (htT _ tw_100) er1 dX4_hasOtherDweller_1 ?_
  refine lv_iload_n hx hb dX4_hasOtherDweller_4 rfl (lv_at hl 2 rfl) ?_
  obtain ⟨v2, ev2, hF⟩ := cp_bind hF
  refine cp_iald hx hb hK hP ev2 dX4_hasOtherDweller_5 ?_
  refine lv_istore_n (lv' := [(3, .int v2), (0, .ref (L.2.1 k0)), (1, .ref (L.2.1 k1)), (2, .int x2)]) hx hb dX4_hasOtherDweller_6 rfl hl (by decide) rfl (fun ls hl => ?_)
  refine lv_iload_n hx hb dX4_hasOtherDweller_7 rfl (lv_at hl 0 rfl) ?_
  refine lv_aload_n hx hb dX4_hasOtherDweller_8 rfl (lv_at hl 2 rfl) ?_
  obtain ⟨r3, er3, hF⟩ := cp_bind hF
  refine cp_getR (T := TX4) (N := 12) (ci := 4) (j := 3) hx hb htT hinX4 hown hK hP rfl (by decide) rfl (htT _ tw_100) er3 dX4_hasOtherDweller_9 ?_
  refine lv_iload_n hx hb dX4_hasOtherDweller_12 rfl (lv_at hl 3 rfl) ?_
  obtain ⟨v4, ev4, hF⟩ := cp_bind hF
  refine cp_iald hx hb hK hP ev4 dX4_hasOtherDweller_13 ?_
  refine lv_icmp_eq (tgt := 19) hx hb dX4_hasOtherDweller_14 (by decide) (fun hc5 => ?_) (fun hc5 => ?_)
  · rw [if_pos hc5] at hF
    refine lv_iload_n hx hb dX4_hasOtherDweller_19 rfl (lv_at hl 0 rfl) ?_
    refine lv_iconst (v := (-1 : Int32)) hx hb dX4_hasOtherDweller_20 (by decide) ?_
    refine lv_icmp_ne (tgt := 26) hx hb dX4_hasOtherDweller_21 (by decide) (fun hc6 => ?_) (fun hc6 => ?_)
    · rw [if_neg hc6] at hF
      refine lv_aload_n hx hb dX4_hasOtherDweller_26 rfl (lv_at hl 1 rfl) ?_
      obtain ⟨r7, er7, hF⟩ := cp_bind hF
      refine cp_getR (T := TX4) (N := 12) (ci := 4) (j := 4) hx hb htT hinX4 hown hK hP rfl (by decide) rfl (htT _ tw_101) er7 dX4_hasOtherDweller_27 ?_
      refine lv_iload_n hx hb dX4_hasOtherDweller_30 rfl (lv_at hl 0 rfl) ?_
      obtain ⟨r8, er8, hF⟩ := cp_bind hF
      refine cp_aald hx hb hK hP er8 dX4_hasOtherDweller_31 ?_
      refine lv_astore (lv' := [(4, .ref (L.2.1 r8)), (3, .int v2), (0, .ref (L.2.1 k0)), (1, .ref (L.2.1 k1)), (2, .int x2)]) hx hb dX4_hasOtherDweller_32 hl (by decide) rfl (fun ls hl => ?_)
      refine lv_aload_n hx hb dX4_hasOtherDweller_34 rfl (lv_at hl 3 rfl) ?_
      obtain ⟨r9, er9, hF⟩ := cp_bind hF
      refine cp_getR (T := TX4) (N := 12) (ci := 4) (j := 4) hx hb htT hinX4 hown hK hP rfl (by decide) rfl (htT _ tw_101) er9 dX4_hasOtherDweller_35 ?_
      refine lv_iload_n hx hb dX4_hasOtherDweller_38 rfl (lv_at hl 1 rfl) ?_
      obtain ⟨r10, er10, hF⟩ := cp_bind hF
      refine cp_aald hx hb hK hP er10 dX4_hasOtherDweller_39 ?_
      refine lv_astore (lv' := [(5, .ref (L.2.1 r10)), (4, .ref (L.2.1 r8)), (3, .int v2), (0, .ref (L.2.1 k0)), (1, .ref (L.2.1 k1)), (2, .int x2)]) hx hb dX4_hasOtherDweller_40 hl (by decide) rfl (fun ls hl => ?_)
      refine lv_aload hx hb dX4_hasOtherDweller_42 (lv_at hl 1 rfl) ?_
      obtain ⟨v11, ev11, hF⟩ := cp_bind hF
      refine cp_getIN (T := TX1) (N := 14) (ci := 1) (j := 6) hx hb htT hinX1 hown hK hP rfl (by decide) rfl (hN _ (List.mem_of_getElem? (i := 20) rfl)) ev11 dX4_hasOtherDweller_44 ?_
      refine lv_aload hx hb dX4_hasOtherDweller_47 (lv_at hl 0 rfl) ?_
      obtain ⟨v12, ev12, hF⟩ := cp_bind hF
      refine cp_getIN (T := TX1) (N := 14) (ci := 1) (j := 6) hx hb htT hinX1 hown hK hP rfl (by decide) rfl (hN _ (List.mem_of_getElem? (i := 20) rfl)) ev12 dX4_hasOtherDweller_49 ?_
      refine lv_icmp_ne (tgt := 68) hx hb dX4_hasOtherDweller_52 (by decide) (fun hc13 => ?_) (fun hc13 => ?_)
      · rw [if_neg hc13] at hF
        refine lv_iconst (v := (1 : Int32)) hx hb dX4_hasOtherDweller_68 (by decide) ?_
        refine lv_goto (tgt := 73) hx hb dX4_hasOtherDweller_69 (by decide) ?_
        exact cp_zret hx hb hr hlocks (by decide) hF hP hS dX4_hasOtherDweller_73
      · rw [if_pos hc13] at hF
        refine lv_aload hx hb dX4_hasOtherDweller_55 (lv_at hl 1 rfl) ?_
        obtain ⟨v14, ev14, hF⟩ := cp_bind hF
        refine cp_getIN (T := TX1) (N := 14) (ci := 1) (j := 7) hx hb htT hinX1 hown hK hP rfl (by decide) rfl (hN _ (List.mem_of_getElem? (i := 25) rfl)) ev14 dX4_hasOtherDweller_57 ?_
        refine lv_aload hx hb dX4_hasOtherDweller_60 (lv_at hl 0 rfl) ?_
        obtain ⟨v15, ev15, hF⟩ := cp_bind hF
        refine cp_getIN (T := TX1) (N := 14) (ci := 1) (j := 7) hx hb htT hinX1 hown hK hP rfl (by decide) rfl (hN _ (List.mem_of_getElem? (i := 25) rfl)) ev15 dX4_hasOtherDweller_62 ?_
        refine lv_icmp_eq (tgt := 72) hx hb dX4_hasOtherDweller_65 (by decide) (fun hc16 => ?_) (fun hc16 => ?_)
        · rw [if_pos hc16] at hF
          refine lv_iconst (v := (0 : Int32)) hx hb dX4_hasOtherDweller_72 (by decide) ?_
          exact cp_zret hx hb hr hlocks (by decide) hF hP hS dX4_hasOtherDweller_73
        · rw [if_neg hc16] at hF
          refine lv_iconst (v := (1 : Int32)) hx hb dX4_hasOtherDweller_68 (by decide) ?_
          refine lv_goto (tgt := 73) hx hb dX4_hasOtherDweller_69 (by decide) ?_
          exact cp_zret hx hb hr hlocks (by decide) hF hP hS dX4_hasOtherDweller_73
    · rw [if_pos hc6] at hF
      refine lv_iconst (v := (0 : Int32)) hx hb dX4_hasOtherDweller_24 (by decide) ?_
      exact cp_zret hx hb hr hlocks (by decide) hF hP hS dX4_hasOtherDweller_25
  · rw [if_neg hc5] at hF
    refine lv_iconst (v := (1 : Int32)) hx hb dX4_hasOtherDweller_17 (by decide) ?_
    exact cp_zret hx hb hr hlocks (by decide) hF hP hS dX4_hasOtherDweller_18
