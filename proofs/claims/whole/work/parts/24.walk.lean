theorem dX2_breed_0 : decode cX2_breed 0 = .ok (.aload_n 0, 1) := by decide +kernel
theorem dX2_breed_1 : decode cX2_breed 1 = .ok (.getfield 9, 3) := by decide +kernel
theorem dX2_breed_4 : decode cX2_breed 4 = .ok (.getfield 23, 3) := by decide +kernel
theorem dX2_breed_7 : decode cX2_breed 7 = .ok (.iload_n 1, 1) := by decide +kernel
theorem dX2_breed_8 : decode cX2_breed 8 = .ok (.aaload, 1) := by decide +kernel
theorem dX2_breed_9 : decode cX2_breed 9 = .ok (.astore_n 3, 1) := by decide +kernel
theorem dX2_breed_10 : decode cX2_breed 10 = .ok (.aload_n 0, 1) := by decide +kernel
theorem dX2_breed_11 : decode cX2_breed 11 = .ok (.getfield 9, 3) := by decide +kernel
theorem dX2_breed_14 : decode cX2_breed 14 = .ok (.getfield 23, 3) := by decide +kernel
theorem dX2_breed_17 : decode cX2_breed 17 = .ok (.iload_n 2, 1) := by decide +kernel
theorem dX2_breed_18 : decode cX2_breed 18 = .ok (.aaload, 1) := by decide +kernel
theorem dX2_breed_19 : decode cX2_breed 19 = .ok (.astore 4, 2) := by decide +kernel
theorem dX2_breed_21 : decode cX2_breed 21 = .ok (.aload_n 0, 1) := by decide +kernel
theorem dX2_breed_22 : decode cX2_breed 22 = .ok (.aload_n 3, 1) := by decide +kernel
theorem dX2_breed_23 : decode cX2_breed 23 = .ok (.getfield 46, 3) := by decide +kernel
theorem dX2_breed_26 : decode cX2_breed 26 = .ok (.invokevirtual 50, 3) := by decide +kernel
theorem dX2_breed_29 : decode cX2_breed 29 = .ok (.istore 5, 2) := by decide +kernel
theorem dX2_breed_31 : decode cX2_breed 31 = .ok (.aload_n 0, 1) := by decide +kernel
theorem dX2_breed_32 : decode cX2_breed 32 = .ok (.getfield 9, 3) := by decide +kernel
theorem dX2_breed_35 : decode cX2_breed 35 = .ok (.invokevirtual 53, 3) := by decide +kernel
theorem dX2_breed_38 : decode cX2_breed 38 = .ok (.istore 6, 2) := by decide +kernel
theorem dX2_breed_40 : decode cX2_breed 40 = .ok (.aload_n 3, 1) := by decide +kernel
theorem dX2_breed_41 : decode cX2_breed 41 = .ok (.getfield 57, 3) := by decide +kernel
theorem dX2_breed_44 : decode cX2_breed 44 = .ok (.bipush 40, 2) := by decide +kernel
theorem dX2_breed_46 : decode cX2_breed 46 = .ok (.if_icmp .lt 25, 3) := by decide +kernel
theorem dX2_breed_49 : decode cX2_breed 49 = .ok (.aload 4, 2) := by decide +kernel
theorem dX2_breed_51 : decode cX2_breed 51 = .ok (.getfield 57, 3) := by decide +kernel
theorem dX2_breed_54 : decode cX2_breed 54 = .ok (.bipush 40, 2) := by decide +kernel
theorem dX2_breed_56 : decode cX2_breed 56 = .ok (.if_icmp .lt 15, 3) := by decide +kernel
theorem dX2_breed_59 : decode cX2_breed 59 = .ok (.iload 5, 2) := by decide +kernel
theorem dX2_breed_61 : decode cX2_breed 61 = .ok (.iconst (-1), 1) := by decide +kernel
theorem dX2_breed_62 : decode cX2_breed 62 = .ok (.if_icmp .eq 9, 3) := by decide +kernel
theorem dX2_breed_65 : decode cX2_breed 65 = .ok (.iload 6, 2) := by decide +kernel
theorem dX2_breed_67 : decode cX2_breed 67 = .ok (.iconst (-1), 1) := by decide +kernel
theorem dX2_breed_68 : decode cX2_breed 68 = .ok (.if_icmp .ne 4, 3) := by decide +kernel
theorem dX2_breed_71 : decode cX2_breed 71 = .ok (.return_, 1) := by decide +kernel
theorem dX2_breed_72 : decode cX2_breed 72 = .ok (.aload_n 0, 1) := by decide +kernel
theorem dX2_breed_73 : decode cX2_breed 73 = .ok (.getfield 9, 3) := by decide +kernel
theorem dX2_breed_76 : decode cX2_breed 76 = .ok (.iload 6, 2) := by decide +kernel
theorem dX2_breed_78 : decode cX2_breed 78 = .ok (.iload 5, 2) := by decide +kernel
theorem dX2_breed_80 : decode cX2_breed 80 = .ok (.aload_n 3, 1) := by decide +kernel
theorem dX2_breed_81 : decode cX2_breed 81 = .ok (.getfield 60, 3) := by decide +kernel
theorem dX2_breed_84 : decode cX2_breed 84 = .ok (.aload_n 0, 1) := by decide +kernel
theorem dX2_breed_85 : decode cX2_breed 85 = .ok (.aload_n 3, 1) := by decide +kernel
theorem dX2_breed_86 : decode cX2_breed 86 = .ok (.invokevirtual 63, 3) := by decide +kernel
theorem dX2_breed_89 : decode cX2_breed 89 = .ok (.aload_n 0, 1) := by decide +kernel
theorem dX2_breed_90 : decode cX2_breed 90 = .ok (.aload 4, 2) := by decide +kernel
theorem dX2_breed_92 : decode cX2_breed 92 = .ok (.invokevirtual 63, 3) := by decide +kernel
theorem dX2_breed_95 : decode cX2_breed 95 = .ok (.iadd, 1) := by decide +kernel
theorem dX2_breed_96 : decode cX2_breed 96 = .ok (.invokevirtual 66, 3) := by decide +kernel
theorem dX2_breed_99 : decode cX2_breed 99 = .ok (.astore 7, 2) := by decide +kernel
theorem dX2_breed_101 : decode cX2_breed 101 = .ok (.aload 7, 2) := by decide +kernel
theorem dX2_breed_103 : decode cX2_breed 103 = .ok (.iload_n 1, 1) := by decide +kernel
theorem dX2_breed_104 : decode cX2_breed 104 = .ok (.putfield 70, 3) := by decide +kernel
theorem dX2_breed_107 : decode cX2_breed 107 = .ok (.aload 7, 2) := by decide +kernel
theorem dX2_breed_109 : decode cX2_breed 109 = .ok (.iload_n 2, 1) := by decide +kernel
theorem dX2_breed_110 : decode cX2_breed 110 = .ok (.putfield 73, 3) := by decide +kernel
theorem dX2_breed_113 : decode cX2_breed 113 = .ok (.aload 7, 2) := by decide +kernel
theorem dX2_breed_115 : decode cX2_breed 115 = .ok (.aload_n 3, 1) := by decide +kernel
theorem dX2_breed_116 : decode cX2_breed 116 = .ok (.getfield 76, 3) := by decide +kernel
theorem dX2_breed_119 : decode cX2_breed 119 = .ok (.aload 4, 2) := by decide +kernel
theorem dX2_breed_121 : decode cX2_breed 121 = .ok (.getfield 76, 3) := by decide +kernel
theorem dX2_breed_124 : decode cX2_breed 124 = .ok (.invokestatic 79, 3) := by decide +kernel
theorem dX2_breed_127 : decode cX2_breed 127 = .ok (.iconst 1, 1) := by decide +kernel
theorem dX2_breed_128 : decode cX2_breed 128 = .ok (.iadd, 1) := by decide +kernel
theorem dX2_breed_129 : decode cX2_breed 129 = .ok (.putfield 76, 3) := by decide +kernel
theorem dX2_breed_132 : decode cX2_breed 132 = .ok (.aload_n 0, 1) := by decide +kernel
theorem dX2_breed_133 : decode cX2_breed 133 = .ok (.aload 7, 2) := by decide +kernel
theorem dX2_breed_135 : decode cX2_breed 135 = .ok (.aload_n 3, 1) := by decide +kernel
theorem dX2_breed_136 : decode cX2_breed 136 = .ok (.aload 4, 2) := by decide +kernel
theorem dX2_breed_138 : decode cX2_breed 138 = .ok (.invokevirtual 85, 3) := by decide +kernel
theorem dX2_breed_141 : decode cX2_breed 141 = .ok (.aload_n 0, 1) := by decide +kernel
theorem dX2_breed_142 : decode cX2_breed 142 = .ok (.aload 7, 2) := by decide +kernel
theorem dX2_breed_144 : decode cX2_breed 144 = .ok (.invokevirtual 89, 3) := by decide +kernel
theorem dX2_breed_147 : decode cX2_breed 147 = .ok (.aload_n 0, 1) := by decide +kernel
theorem dX2_breed_148 : decode cX2_breed 148 = .ok (.getfield 9, 3) := by decide +kernel
theorem dX2_breed_151 : decode cX2_breed 151 = .ok (.dup, 1) := by decide +kernel
theorem dX2_breed_152 : decode cX2_breed 152 = .ok (.getfield 93, 3) := by decide +kernel
theorem dX2_breed_155 : decode cX2_breed 155 = .ok (.iconst 1, 1) := by decide +kernel
theorem dX2_breed_156 : decode cX2_breed 156 = .ok (.iadd, 1) := by decide +kernel
theorem dX2_breed_157 : decode cX2_breed 157 = .ok (.putfield 93, 3) := by decide +kernel
theorem dX2_breed_160 : decode cX2_breed 160 = .ok (.return_, 1) := by decide +kernel
def fn_X2_breed (L : cp_Lay) (q : Nat) (k0 : Nat) (x1 : Int32) (x2 : Int32) (D : cp_Dt) : Option (cp_Dt) :=
  (cp_gR L k0 2 0).bind fun r1 =>
  (cp_gR L r1 4 4).bind fun r2 =>
  (cp_aR L r2 x1).bind fun r3 =>
  (cp_gR L k0 2 0).bind fun r4 =>
  (cp_gR L r4 4 4).bind fun r5 =>
  (cp_aR L r5 x2).bind fun r6 =>
  (cp_gI L D r3 1 5).bind fun v7 =>
  (cp_fl L k0 2).bind fun f8 =>
  (fn_X2_firstFreeAround L q k0 v7 D).bind fun y9 =>
  (cp_gR L k0 2 0).bind fun r10 =>
  (cp_fl L r10 4).bind fun f11 =>
  (fn_X4_freeNumber L q r10 y9.2).bind fun y12 =>
  (cp_gI L y12.2 r3 1 7).bind fun v13 =>
  if v13 < (40 : Int32) then (some y12.2)
  else ((cp_gI L y12.2 r6 1 7).bind fun v15 =>
  if v15 < (40 : Int32) then (some y12.2)
  else (if y9.1 = (-1 : Int32) then (some y12.2)
  else (if y12.1 = (-1 : Int32) then (some y12.2)
  else ((cp_gR L k0 2 0).bind fun r19 =>
  (cp_gI L y12.2 r3 1 6).bind fun v20 =>
  (cp_fl L k0 2).bind fun f21 =>
  (fn_X2_payAndHalve L q k0 r3 y12.2).bind fun y22 =>
  (cp_fl L k0 2).bind fun f23 =>
  (fn_X2_payAndHalve L q k0 r6 y22.2).bind fun y24 =>
  (cp_fl L r19 4).bind fun f25 =>
  (fn_X4_settle L q r19 y12.1 y9.1 v20 (y22.1 + y24.1) y24.2).bind fun y26 =>
  (cp_pI L y26.2 y26.1 1 11 x1).bind fun D27 =>
  (cp_pI L D27 y26.1 1 12 x2).bind fun D28 =>
  (cp_gI L D28 r3 1 13).bind fun v29 =>
  (cp_gI L D28 r6 1 13).bind fun v30 =>
  (cp_pI L D28 y26.1 1 13 ((cp_mx v29 v30) + (1 : Int32))).bind fun D31 =>
  (cp_fl L k0 2).bind fun f32 =>
  (fn_X2_mixCode L q k0 y26.1 r3 r6 D31).bind fun D33 =>
  (cp_fl L k0 2).bind fun f34 =>
  (fn_X2_changeCode L q k0 y26.1 D33).bind fun D35 =>
  (cp_gR L k0 2 0).bind fun r36 =>
  (cp_gI L D35 r36 4 9).bind fun v37 =>
  (cp_pI L D35 r36 4 9 (v37 + (1 : Int32))).bind fun D38 =>
  some D38))))
set_option maxHeartbeats 4000000 in
set_option maxRecDepth 100000 in
theorem ct_X2_breed (l : Launch) (G : va_G) (L : cp_Lay) (hJ : cp_J L) (q : Nat) (k0 : Nat) (x1 : Int32) (x2 : Int32) (D : cp_Dt) (res : cp_Dt) (hF : fn_X2_breed L q k0 x1 x2 D = some res) : cp_Met l G yX2_breed wsX2_breed ({ frames := 3, cells := 0, slots := 0, locals := 72 }) L ([.ref (L.2.1 k0), .int x1, .int x2] : List Value) D res none := by
  refine Met.ofW (cc := cX2_breed) (maxL := 8) (ret := none) (by decide) rfl ?_
  intro p e s m args below meth c s₁ B hml hv
  obtain ⟨rfl, hP, hK, hN, hZ⟩ := hv
  have hx := B.exec
  have hb := B.bytes
  have hr := B.returns
  have hts := atoms_spec (ws := wsX2_breed) B.pre
  have hown : s.vm.findClass "CreaturePond$Breeding" = some m.cls := findClass_of_methodNamed B.named
  have hlocks := B.notSynchronized
  have hS : va_S (cp_A L) s.heap s.heap [] := va_S.rf
  have htT : ∀ w ∈ cp_T, w.before ([.ref (L.2.1 k0), .int x1, .int x2] : List Value).toArray s = true := fun w h => hts w (List.mem_cons_of_mem _ h)
  have hl := lv_entry (([.ref (L.2.1 k0), .int x1, .int x2] : List Value)) (n := 8) (Nat.le_of_ble_eq_true rfl)
  rw [lg_entry_eq]
  generalize (lg_sl (([.ref (L.2.1 k0), .int x1, .int x2] : List Value)) ++ List.replicate (8 - (lg_sl (([.ref (L.2.1 k0), .int x1, .int x2] : List Value))).length) Slot.unset).toArray = ls at hl ⊢
  have hl : lv_has ls 8 [(0, .ref (L.2.1 k0)), (1, .int x1), (2, .int x2)] := hl
  unfold fn_X2_breed at hF
  refine lv_aload_n hx hb dX2_breed_0 rfl (lv_at hl 0 rfl) ?_
  obtain ⟨r1, er1, hF⟩ := cp_bind hF
  refine cp_getR (T := TX2) (N := 1) (ci := 2) (j := 0) hx hb htT hinX2 hown hK hP rfl (by decide) rfl (htT _ tw_133) er1 dX2_breed_1 ?_
  obtain ⟨r2, er2, hF⟩ := cp_bind hF
  refine cp_getRN (T := TX4) (N := 12) (ci := 4) (j := 4) hx hb htT hinX4 hown hK hP rfl (by decide) rfl (hN _ (List.mem_of_getElem? (i := 44) rfl)) er2 dX2_breed_4 ?_
  refine lv_iload_n hx hb dX2_breed_7 rfl (lv_at hl 1 rfl) ?_
  obtain ⟨r3, er3, hF⟩ := cp_bind hF
  refine cp_aald hx hb hK hP er3 dX2_breed_8 ?_
  refine lv_astore_n (lv' := [(3, .ref (L.2.1 r3)), (0, .ref (L.2.1 k0)), (1, .int x1), (2, .int x2)]) hx hb dX2_breed_9 rfl hl (by decide) rfl (fun ls hl => ?_)
  refine lv_aload_n hx hb dX2_breed_10 rfl (lv_at hl 1 rfl) ?_
  obtain ⟨r4, er4, hF⟩ := cp_bind hF
  refine cp_getR (T := TX2) (N := 1) (ci := 2) (j := 0) hx hb htT hinX2 hown hK hP rfl (by decide) rfl (htT _ tw_133) er4 dX2_breed_11 ?_
  obtain ⟨r5, er5, hF⟩ := cp_bind hF
  refine cp_getRN (T := TX4) (N := 12) (ci := 4) (j := 4) hx hb htT hinX4 hown hK hP rfl (by decide) rfl (hN _ (List.mem_of_getElem? (i := 44) rfl)) er5 dX2_breed_14 ?_
  refine lv_iload_n hx hb dX2_breed_17 rfl (lv_at hl 3 rfl) ?_
  obtain ⟨r6, er6, hF⟩ := cp_bind hF
  refine cp_aald hx hb hK hP er6 dX2_breed_18 ?_
  refine lv_astore (lv' := [(4, .ref (L.2.1 r6)), (3, .ref (L.2.1 r3)), (0, .ref (L.2.1 k0)), (1, .int x1), (2, .int x2)]) hx hb dX2_breed_19 hl (by decide) rfl (fun ls hl => ?_)
  refine lv_aload_n hx hb dX2_breed_21 rfl (lv_at hl 2 rfl) ?_
  refine lv_aload_n hx hb dX2_breed_22 rfl (lv_at hl 1 rfl) ?_
  obtain ⟨v7, ev7, hF⟩ := cp_bind hF
  refine cp_getIN (T := TX1) (N := 14) (ci := 1) (j := 5) hx hb htT hinX1 hown hK hP rfl (by decide) rfl (hN _ (List.mem_of_getElem? (i := 17) rfl)) ev7 dX2_breed_23 ?_
  obtain ⟨f8, ef8, hF⟩ := cp_bind hF
  obtain ⟨y9, ey9, hF⟩ := cp_bind hF
  refine cp_call (st1 := [.int y9.1]) (va_runV (As := [.int v7]) (rest := []) ⟨hx, hb, hml, hown, htT⟩ (ct_X2_firstFreeAround l G L hJ q k0 v7 D y9 ey9) ⟨callB_of 1 htT gdX2_firstFreeAround rfl rfl rfl (htT _ tw_7) (htT _ tw_316) hdX2_firstFreeAround ⟨Nat.le_of_ble_eq_true rfl, Nat.le_of_ble_eq_true rfl⟩, (htT _ tw_317), (htT _ tw_562)⟩ ⟨cp_blind, cp_recv hK hP rfl ef8, cp_pre hP hK hN hZ hS⟩ rfl rfl hl.1 rfl (lv_room (Nat.le_of_ble_eq_true rfl)) dX2_breed_26 ⟨Nat.zero_le _, Nat.zero_le _⟩) hS (fun H locs hP hS => ?_)
  refine lv_istore (lv' := [(5, .int y9.1), (4, .ref (L.2.1 r6)), (3, .ref (L.2.1 r3)), (0, .ref (L.2.1 k0)), (1, .int x1), (2, .int x2)]) hx hb dX2_breed_29 hl (by decide) rfl (fun ls hl => ?_)
  refine lv_aload_n hx hb dX2_breed_31 rfl (lv_at hl 3 rfl) ?_
  obtain ⟨r10, er10, hF⟩ := cp_bind hF
  refine cp_getR (T := TX2) (N := 1) (ci := 2) (j := 0) hx hb htT hinX2 hown hK hP rfl (by decide) rfl (htT _ tw_133) er10 dX2_breed_32 ?_
  obtain ⟨f11, ef11, hF⟩ := cp_bind hF
  obtain ⟨y12, ey12, hF⟩ := cp_bind hF
  refine cp_call (st1 := [.int y12.1]) (va_runVN (As := []) (rest := []) ⟨hx, hb, hml, hown, htT⟩ (ct_X4_freeNumber l G L hJ q r10 y9.2 y12 ey12) ⟨va_cnB 0 htT gdX4_freeNumber rfl rfl rfl (hN _ (List.mem_of_getElem? (i := 79) rfl)) (htT _ tw_4) hdX4_freeNumber ⟨Nat.le_of_ble_eq_true rfl, Nat.le_of_ble_eq_true rfl⟩, (htT _ tw_231), (htT _ tw_538)⟩ ⟨cp_blind, cp_recv hK hP rfl ef11, cp_pre hP hK hN hZ hS⟩ rfl rfl hl.1 rfl (lv_room (Nat.le_of_ble_eq_true rfl)) dX2_breed_35 ⟨Nat.zero_le _, Nat.zero_le _⟩) hS (fun H locs hP hS => ?_)
  refine lv_istore (lv' := [(6, .int y12.1), (5, .int y9.1), (4, .ref (L.2.1 r6)), (3, .ref (L.2.1 r3)), (0, .ref (L.2.1 k0)), (1, .int x1), (2, .int x2)]) hx hb dX2_breed_38 hl (by decide) rfl (fun ls hl => ?_)
  refine lv_aload_n hx hb dX2_breed_40 rfl (lv_at hl 3 rfl) ?_
  obtain ⟨v13, ev13, hF⟩ := cp_bind hF
  refine cp_getIN (T := TX1) (N := 14) (ci := 1) (j := 7) hx hb htT hinX1 hown hK hP rfl (by decide) rfl (hN _ (List.mem_of_getElem? (i := 24) rfl)) ev13 dX2_breed_41 ?_
  refine lv_bipush (v := (40 : Int32)) hx hb dX2_breed_44 (by decide) ?_
  refine lv_icmp_lt (tgt := 71) hx hb dX2_breed_46 (by decide) (fun hc14 => ?_) (fun hc14 => ?_)
  · rw [if_pos hc14] at hF
    exact cp_vret hx hb hr hlocks hF hP hS dX2_breed_71
  · rw [if_neg hc14] at hF
    refine lv_aload hx hb dX2_breed_49 (lv_at hl 2 rfl) ?_
    obtain ⟨v15, ev15, hF⟩ := cp_bind hF
    refine cp_getIN (T := TX1) (N := 14) (ci := 1) (j := 7) hx hb htT hinX1 hown hK hP rfl (by decide) rfl (hN _ (List.mem_of_getElem? (i := 24) rfl)) ev15 dX2_breed_51 ?_
    refine lv_bipush (v := (40 : Int32)) hx hb dX2_breed_54 (by decide) ?_
    refine lv_icmp_lt (tgt := 71) hx hb dX2_breed_56 (by decide) (fun hc16 => ?_) (fun hc16 => ?_)
    · rw [if_pos hc16] at hF
      exact cp_vret hx hb hr hlocks hF hP hS dX2_breed_71
    · rw [if_neg hc16] at hF
      refine lv_iload hx hb dX2_breed_59 (lv_at hl 1 rfl) ?_
      refine lv_iconst (v := (-1 : Int32)) hx hb dX2_breed_61 (by decide) ?_
      refine lv_icmp_eq (tgt := 71) hx hb dX2_breed_62 (by decide) (fun hc17 => ?_) (fun hc17 => ?_)
      · rw [if_pos hc17] at hF
        exact cp_vret hx hb hr hlocks hF hP hS dX2_breed_71
      · rw [if_neg hc17] at hF
        refine lv_iload hx hb dX2_breed_65 (lv_at hl 0 rfl) ?_
        refine lv_iconst (v := (-1 : Int32)) hx hb dX2_breed_67 (by decide) ?_
        refine lv_icmp_ne (tgt := 72) hx hb dX2_breed_68 (by decide) (fun hc18 => ?_) (fun hc18 => ?_)
        · rw [if_neg hc18] at hF
          refine lv_aload_n hx hb dX2_breed_72 rfl (lv_at hl 4 rfl) ?_
          obtain ⟨r19, er19, hF⟩ := cp_bind hF
          refine cp_getR (T := TX2) (N := 1) (ci := 2) (j := 0) hx hb htT hinX2 hown hK hP rfl (by decide) rfl (htT _ tw_133) er19 dX2_breed_73 ?_
          refine lv_iload hx hb dX2_breed_76 (lv_at hl 0 rfl) ?_
          refine lv_iload hx hb dX2_breed_78 (lv_at hl 1 rfl) ?_
          refine lv_aload_n hx hb dX2_breed_80 rfl (lv_at hl 3 rfl) ?_
          obtain ⟨v20, ev20, hF⟩ := cp_bind hF
          refine cp_getIN (T := TX1) (N := 14) (ci := 1) (j := 6) hx hb htT hinX1 hown hK hP rfl (by decide) rfl (hN _ (List.mem_of_getElem? (i := 21) rfl)) ev20 dX2_breed_81 ?_
          refine lv_aload_n hx hb dX2_breed_84 rfl (lv_at hl 4 rfl) ?_
          refine lv_aload_n hx hb dX2_breed_85 rfl (lv_at hl 3 rfl) ?_
          obtain ⟨f21, ef21, hF⟩ := cp_bind hF
          obtain ⟨y22, ey22, hF⟩ := cp_bind hF
          refine cp_call (st1 := [.int y22.1, .int v20, .int y9.1, .int y12.1, .ref (L.2.1 r19)]) (va_runV (As := [.ref (L.2.1 r3)]) (rest := [.int v20, .int y9.1, .int y12.1, .ref (L.2.1 r19)]) ⟨hx, hb, hml, hown, htT⟩ (ct_X2_payAndHalve l G L hJ q k0 r3 y12.2 y22 ey22) ⟨callB_of 1 htT gdX2_payAndHalve rfl rfl rfl (htT _ tw_7) (htT _ tw_321) hdX2_payAndHalve ⟨Nat.le_of_ble_eq_true rfl, Nat.le_of_ble_eq_true rfl⟩, (htT _ tw_322), (htT _ tw_564)⟩ ⟨cp_blind, cp_recv hK hP rfl ef21, cp_pre hP hK hN hZ hS⟩ rfl rfl hl.1 rfl (lv_room (Nat.le_of_ble_eq_true rfl)) dX2_breed_86 ⟨Nat.zero_le _, Nat.zero_le _⟩) hS (fun H locs hP hS => ?_)
          refine lv_aload_n hx hb dX2_breed_89 rfl (lv_at hl 4 rfl) ?_
          refine lv_aload hx hb dX2_breed_90 (lv_at hl 2 rfl) ?_
          obtain ⟨f23, ef23, hF⟩ := cp_bind hF
          obtain ⟨y24, ey24, hF⟩ := cp_bind hF
          refine cp_call (st1 := [.int y24.1, .int y22.1, .int v20, .int y9.1, .int y12.1, .ref (L.2.1 r19)]) (va_runV (As := [.ref (L.2.1 r6)]) (rest := [.int y22.1, .int v20, .int y9.1, .int y12.1, .ref (L.2.1 r19)]) ⟨hx, hb, hml, hown, htT⟩ (ct_X2_payAndHalve l G L hJ q k0 r6 y22.2 y24 ey24) ⟨callB_of 1 htT gdX2_payAndHalve rfl rfl rfl (htT _ tw_7) (htT _ tw_321) hdX2_payAndHalve ⟨Nat.le_of_ble_eq_true rfl, Nat.le_of_ble_eq_true rfl⟩, (htT _ tw_322), (htT _ tw_564)⟩ ⟨cp_blind, cp_recv hK hP rfl ef23, cp_pre hP hK hN hZ hS⟩ rfl rfl hl.1 rfl (lv_room (Nat.le_of_ble_eq_true rfl)) dX2_breed_92 ⟨Nat.zero_le _, Nat.zero_le _⟩) hS (fun H locs hP hS => ?_)
          refine lv_iadd hx hb dX2_breed_95 ?_
          obtain ⟨f25, ef25, hF⟩ := cp_bind hF
          obtain ⟨y26, ey26, hF⟩ := cp_bind hF
          refine cp_call (st1 := [.ref (L.2.1 y26.1)]) (va_runVN (As := [.int y12.1, .int y9.1, .int v20, .int (y22.1 + y24.1)]) (rest := []) ⟨hx, hb, hml, hown, htT⟩ (ct_X4_settle l G L hJ q r19 y12.1 y9.1 v20 (y22.1 + y24.1) y24.2 y26 ey26) ⟨va_cnB 4 htT gdX4_settle rfl rfl rfl (hN _ (List.mem_of_getElem? (i := 81) rfl)) (htT _ tw_4) hdX4_settle ⟨Nat.le_of_ble_eq_true rfl, Nat.le_of_ble_eq_true rfl⟩, (htT _ tw_241), (htT _ tw_539)⟩ ⟨cp_blind, cp_recv hK hP rfl ef25, cp_pre hP hK hN hZ hS⟩ rfl rfl hl.1 rfl (lv_room (Nat.le_of_ble_eq_true rfl)) dX2_breed_96 ⟨Nat.zero_le _, Nat.zero_le _⟩) hS (fun H locs hP hS => ?_)
          refine lv_astore (lv' := [(7, .ref (L.2.1 y26.1)), (6, .int y12.1), (5, .int y9.1), (4, .ref (L.2.1 r6)), (3, .ref (L.2.1 r3)), (0, .ref (L.2.1 k0)), (1, .int x1), (2, .int x2)]) hx hb dX2_breed_99 hl (by decide) rfl (fun ls hl => ?_)
          refine lv_aload hx hb dX2_breed_101 (lv_at hl 0 rfl) ?_
          refine lv_iload_n hx hb dX2_breed_103 rfl (lv_at hl 6 rfl) ?_
          obtain ⟨D27, eD27, hF⟩ := cp_bind hF
          refine cp_putN (T := TX1) (N := 14) (ci := 1) (j := 11) hx hb htT hinX1 tyX1 tyX1_ok nmX1 hown hK hJ hP hS rfl (by decide) rfl (hN _ (List.mem_of_getElem? (i := 32) rfl)) rfl rfl rfl eD27 dX2_breed_104 (fun H locs hP hS => ?_)
          refine lv_aload hx hb dX2_breed_107 (lv_at hl 0 rfl) ?_
          refine lv_iload_n hx hb dX2_breed_109 rfl (lv_at hl 7 rfl) ?_
          obtain ⟨D28, eD28, hF⟩ := cp_bind hF
          refine cp_putN (T := TX1) (N := 14) (ci := 1) (j := 12) hx hb htT hinX1 tyX1 tyX1_ok nmX1 hown hK hJ hP hS rfl (by decide) rfl (hN _ (List.mem_of_getElem? (i := 33) rfl)) rfl rfl rfl eD28 dX2_breed_110 (fun H locs hP hS => ?_)
          refine lv_aload hx hb dX2_breed_113 (lv_at hl 0 rfl) ?_
          refine lv_aload_n hx hb dX2_breed_115 rfl (lv_at hl 4 rfl) ?_
          obtain ⟨v29, ev29, hF⟩ := cp_bind hF
          refine cp_getIN (T := TX1) (N := 14) (ci := 1) (j := 13) hx hb htT hinX1 hown hK hP rfl (by decide) rfl (hN _ (List.mem_of_getElem? (i := 34) rfl)) ev29 dX2_breed_116 ?_
          refine lv_aload hx hb dX2_breed_119 (lv_at hl 3 rfl) ?_
          obtain ⟨v30, ev30, hF⟩ := cp_bind hF
          refine cp_getIN (T := TX1) (N := 14) (ci := 1) (j := 13) hx hb htT hinX1 hown hK hP rfl (by decide) rfl (hN _ (List.mem_of_getElem? (i := 34) rfl)) ev30 dX2_breed_121 ?_
          refine va_mmax hx hb (by rw [hml]; exact hl.1.symm) hown (htT _ tw_324) (htT _ tw_30) (htT _ tw_3) (htT _ tw_31) (Nat.le_of_ble_eq_true rfl) (Nat.le_of_ble_eq_true rfl) (Nat.zero_le _) (Nat.zero_le _) dX2_breed_124 ?_
          refine lv_iconst (v := (1 : Int32)) hx hb dX2_breed_127 (by decide) ?_
          refine lv_iadd hx hb dX2_breed_128 ?_
          obtain ⟨D31, eD31, hF⟩ := cp_bind hF
          refine cp_putN (T := TX1) (N := 14) (ci := 1) (j := 13) hx hb htT hinX1 tyX1 tyX1_ok nmX1 hown hK hJ hP hS rfl (by decide) rfl (hN _ (List.mem_of_getElem? (i := 34) rfl)) rfl rfl rfl eD31 dX2_breed_129 (fun H locs hP hS => ?_)
          refine lv_aload_n hx hb dX2_breed_132 rfl (lv_at hl 5 rfl) ?_
          refine lv_aload hx hb dX2_breed_133 (lv_at hl 0 rfl) ?_
          refine lv_aload_n hx hb dX2_breed_135 rfl (lv_at hl 4 rfl) ?_
          refine lv_aload hx hb dX2_breed_136 (lv_at hl 3 rfl) ?_
          obtain ⟨f32, ef32, hF⟩ := cp_bind hF
          obtain ⟨D33, eD33, hF⟩ := cp_bind hF
          refine cp_call (st1 := []) (va_runV (As := [.ref (L.2.1 y26.1), .ref (L.2.1 r3), .ref (L.2.1 r6)]) (rest := []) ⟨hx, hb, hml, hown, htT⟩ (ct_X2_mixCode l G L hJ q k0 y26.1 r3 r6 D31 D33 eD33) ⟨callB_of 3 htT gdX2_mixCode rfl rfl rfl (htT _ tw_7) (htT _ tw_325) hdX2_mixCode ⟨Nat.le_of_ble_eq_true rfl, Nat.le_of_ble_eq_true rfl⟩, (htT _ tw_326), (htT _ tw_565)⟩ ⟨cp_blind, cp_recv hK hP rfl ef32, cp_pre hP hK hN hZ hS⟩ rfl rfl hl.1 rfl (lv_room (Nat.le_of_ble_eq_true rfl)) dX2_breed_138 ⟨Nat.zero_le _, Nat.zero_le _⟩) hS (fun H locs hP hS => ?_)
          refine lv_aload_n hx hb dX2_breed_141 rfl (lv_at hl 5 rfl) ?_
          refine lv_aload hx hb dX2_breed_142 (lv_at hl 0 rfl) ?_
          obtain ⟨f34, ef34, hF⟩ := cp_bind hF
          obtain ⟨D35, eD35, hF⟩ := cp_bind hF
          refine cp_call (st1 := []) (va_runV (As := [.ref (L.2.1 y26.1)]) (rest := []) ⟨hx, hb, hml, hown, htT⟩ (ct_X2_changeCode l G L hJ q k0 y26.1 D33 D35 eD35) ⟨callB_of 1 htT gdX2_changeCode rfl rfl rfl (htT _ tw_7) (htT _ tw_335) hdX2_changeCode ⟨Nat.le_of_ble_eq_true rfl, Nat.le_of_ble_eq_true rfl⟩, (htT _ tw_336), (htT _ tw_568)⟩ ⟨cp_blind, cp_recv hK hP rfl ef34, cp_pre hP hK hN hZ hS⟩ rfl rfl hl.1 rfl (lv_room (Nat.le_of_ble_eq_true rfl)) dX2_breed_144 ⟨Nat.zero_le _, Nat.zero_le _⟩) hS (fun H locs hP hS => ?_)
          refine lv_aload_n hx hb dX2_breed_147 rfl (lv_at hl 5 rfl) ?_
          obtain ⟨r36, er36, hF⟩ := cp_bind hF
          refine cp_getR (T := TX2) (N := 1) (ci := 2) (j := 0) hx hb htT hinX2 hown hK hP rfl (by decide) rfl (htT _ tw_133) er36 dX2_breed_148 ?_
          refine lv_dup hx hb dX2_breed_151 rfl ?_
          obtain ⟨v37, ev37, hF⟩ := cp_bind hF
          refine cp_getIN (T := TX4) (N := 12) (ci := 4) (j := 9) hx hb htT hinX4 hown hK hP rfl (by decide) rfl (hN _ (List.mem_of_getElem? (i := 50) rfl)) ev37 dX2_breed_152 ?_
          refine lv_iconst (v := (1 : Int32)) hx hb dX2_breed_155 (by decide) ?_
          refine lv_iadd hx hb dX2_breed_156 ?_
          obtain ⟨D38, eD38, hF⟩ := cp_bind hF
          refine cp_putN (T := TX4) (N := 12) (ci := 4) (j := 9) hx hb htT hinX4 tyX4 tyX4_ok nmX4 hown hK hJ hP hS rfl (by decide) rfl (hN _ (List.mem_of_getElem? (i := 50) rfl)) rfl rfl rfl eD38 dX2_breed_157 (fun H locs hP hS => ?_)
          exact cp_vret hx hb hr hlocks hF hP hS dX2_breed_160
        · rw [if_pos hc18] at hF
          exact cp_vret hx hb hr hlocks hF hP hS dX2_breed_71
theorem dX6_grain_0 : decode cX6_grain 0 = .ok (.aload_n 0, 1) := by decide +kernel
theorem dX6_grain_1 : decode cX6_grain 1 = .ok (.iconst 0, 1) := by decide +kernel
theorem dX6_grain_2 : decode cX6_grain 2 = .ok (.putfield 23, 3) := by decide +kernel
theorem dX6_grain_5 : decode cX6_grain 5 = .ok (.iload_n 3, 1) := by decide +kernel
theorem dX6_grain_6 : decode cX6_grain 6 = .ok (.ifCond .lt 10, 3) := by decide +kernel
theorem dX6_grain_9 : decode cX6_grain 9 = .ok (.iload_n 3, 1) := by decide +kernel
theorem dX6_grain_10 : decode cX6_grain 10 = .ok (.sipush 250, 3) := by decide +kernel
theorem dX6_grain_13 : decode cX6_grain 13 = .ok (.if_icmp .le 5, 3) := by decide +kernel
theorem dX6_grain_16 : decode cX6_grain 16 = .ok (.iconst 0, 1) := by decide +kernel
theorem dX6_grain_17 : decode cX6_grain 17 = .ok (.ireturn, 1) := by decide +kernel
theorem dX6_grain_18 : decode cX6_grain 18 = .ok (.aload_n 0, 1) := by decide +kernel
theorem dX6_grain_19 : decode cX6_grain 19 = .ok (.getfield 7, 3) := by decide +kernel
theorem dX6_grain_22 : decode cX6_grain 22 = .ok (.aload_n 0, 1) := by decide +kernel
theorem dX6_grain_23 : decode cX6_grain 23 = .ok (.iload_n 1, 1) := by decide +kernel
theorem dX6_grain_24 : decode cX6_grain 24 = .ok (.iload_n 2, 1) := by decide +kernel
theorem dX6_grain_25 : decode cX6_grain 25 = .ok (.invokevirtual 38, 3) := by decide +kernel
theorem dX6_grain_28 : decode cX6_grain 28 = .ok (.iload_n 3, 1) := by decide +kernel
theorem dX6_grain_29 : decode cX6_grain 29 = .ok (.iastore, 1) := by decide +kernel
theorem dX6_grain_30 : decode cX6_grain 30 = .ok (.iconst 1, 1) := by decide +kernel
theorem dX6_grain_31 : decode cX6_grain 31 = .ok (.ireturn, 1) := by decide +kernel
def fn_X6_grain (L : cp_Lay) (q : Nat) (k0 : Nat) (x1 : Int32) (x2 : Int32) (x3 : Int32) (D : cp_Dt) : Option (Int32 × cp_Dt) :=
  (cp_pI L D k0 6 0 (0 : Int32)).bind fun D1 =>
  if x3 < 0 then (some ((0 : Int32), D1))
  else (if x3 ≤ (250 : Int32) then ((cp_gR L k0 6 3).bind fun r4 =>
  (cp_fl L k0 6).bind fun f5 =>
  (fn_X6_cellAt L q k0 x1 x2 D1).bind fun y6 =>
  (cp_aS L y6.2 0 r4 y6.1 x3).bind fun D7 =>
  some ((1 : Int32), D7))
  else (some ((0 : Int32), D1)))
set_option maxHeartbeats 4000000 in
set_option maxRecDepth 100000 in
theorem ct_X6_grain (l : Launch) (G : va_G) (L : cp_Lay) (hJ : cp_J L) (q : Nat) (k0 : Nat) (x1 : Int32) (x2 : Int32) (x3 : Int32) (D : cp_Dt) (res : Int32 × cp_Dt) (hF : fn_X6_grain L q k0 x1 x2 x3 D = some res) : cp_Met l G yX6_grain wsX6_grain ({ frames := 2, cells := 0, slots := 0, locals := 44 }) L ([.ref (L.2.1 k0), .int x1, .int x2, .int x3] : List Value) D res.2 (some (.int res.1)) := by
  refine Met.ofW (cc := cX6_grain) (maxL := 4) (ret := (some .boolean)) (by decide) rfl ?_
  intro p e s m args below meth c s₁ B hml hv
  obtain ⟨rfl, hP, hK, hN, hZ⟩ := hv
  have hx := B.exec
  have hb := B.bytes
  have hr := B.returns
  have hts := atoms_spec (ws := wsX6_grain) B.pre
  have hown : s.vm.findClass "CreaturePondModel" = some m.cls := findClass_of_methodNamed B.named
  have hlocks := B.notSynchronized
  have hS : va_S (cp_A L) s.heap s.heap [] := va_S.rf
  have htT : ∀ w ∈ cp_T, w.before ([.ref (L.2.1 k0), .int x1, .int x2, .int x3] : List Value).toArray s = true := fun w h => hts w (List.mem_cons_of_mem _ h)
  have hl := lv_entry (([.ref (L.2.1 k0), .int x1, .int x2, .int x3] : List Value)) (n := 4) (Nat.le_of_ble_eq_true rfl)
  rw [lg_entry_eq]
  generalize (lg_sl (([.ref (L.2.1 k0), .int x1, .int x2, .int x3] : List Value)) ++ List.replicate (4 - (lg_sl (([.ref (L.2.1 k0), .int x1, .int x2, .int x3] : List Value))).length) Slot.unset).toArray = ls at hl ⊢
  have hl : lv_has ls 4 [(0, .ref (L.2.1 k0)), (1, .int x1), (2, .int x2), (3, .int x3)] := hl
  unfold fn_X6_grain at hF
  refine lv_aload_n hx hb dX6_grain_0 rfl (lv_at hl 0 rfl) ?_
  refine lv_iconst (v := (0 : Int32)) hx hb dX6_grain_1 (by decide) ?_
  obtain ⟨D1, eD1, hF⟩ := cp_bind hF
  refine cp_put (T := TX6) (N := 6) (ci := 6) (j := 0) hx hb htT hinX6 tyX6 tyX6_ok nmX6 hown hK hJ hP hS rfl (by decide) rfl (htT _ tw_375) rfl rfl rfl eD1 dX6_grain_2 (fun H locs hP hS => ?_)
  refine lv_iload_n hx hb dX6_grain_5 rfl (lv_at hl 3 rfl) ?_
  refine lv_if_lt (tgt := 16) hx hb dX6_grain_6 (by decide) (fun hc2 => ?_) (fun hc2 => ?_)
  · rw [if_pos hc2] at hF
    refine lv_iconst (v := (0 : Int32)) hx hb dX6_grain_16 (by decide) ?_
    exact cp_zret hx hb hr hlocks (by decide) hF hP hS dX6_grain_17
  · rw [if_neg hc2] at hF
    refine lv_iload_n hx hb dX6_grain_9 rfl (lv_at hl 3 rfl) ?_
    refine lv_sipush (v := (250 : Int32)) hx hb dX6_grain_10 (by decide) ?_
    refine lv_icmp_le (tgt := 18) hx hb dX6_grain_13 (by decide) (fun hc3 => ?_) (fun hc3 => ?_)
    · rw [if_pos hc3] at hF
      refine lv_aload_n hx hb dX6_grain_18 rfl (lv_at hl 0 rfl) ?_
      obtain ⟨r4, er4, hF⟩ := cp_bind hF
      refine cp_getR (T := TX6) (N := 6) (ci := 6) (j := 3) hx hb htT hinX6 hown hK hP rfl (by decide) rfl (htT _ tw_378) er4 dX6_grain_19 ?_
      refine lv_aload_n hx hb dX6_grain_22 rfl (lv_at hl 0 rfl) ?_
      refine lv_iload_n hx hb dX6_grain_23 rfl (lv_at hl 1 rfl) ?_
      refine lv_iload_n hx hb dX6_grain_24 rfl (lv_at hl 2 rfl) ?_
      obtain ⟨f5, ef5, hF⟩ := cp_bind hF
      obtain ⟨y6, ey6, hF⟩ := cp_bind hF
      refine cp_call (st1 := [.int y6.1, .ref (L.2.1 r4)]) (va_runV (As := [.int x1, .int x2]) (rest := [.ref (L.2.1 r4)]) ⟨hx, hb, hml, hown, htT⟩ (ct_X6_cellAt l G L hJ q k0 x1 x2 D1 y6 ey6) ⟨callB_of 2 htT gdX6_cellAt rfl rfl rfl (htT _ tw_8) (htT _ tw_404) hdX6_cellAt ⟨Nat.le_of_ble_eq_true rfl, Nat.le_of_ble_eq_true rfl⟩, (htT _ tw_405), (htT _ tw_573)⟩ ⟨cp_blind, cp_recv hK hP rfl ef5, cp_pre hP hK hN hZ hS⟩ rfl rfl hl.1 rfl (lv_room (Nat.le_of_ble_eq_true rfl)) dX6_grain_25 ⟨Nat.zero_le _, Nat.zero_le _⟩) hS (fun H locs hP hS => ?_)
      refine lv_iload_n hx hb dX6_grain_28 rfl (lv_at hl 3 rfl) ?_
      obtain ⟨D7, eD7, hF⟩ := cp_bind hF
      refine cp_iast hx hb hK hJ hP hS eD7 dX6_grain_29 (fun H locs hP hS => ?_)
      refine lv_iconst (v := (1 : Int32)) hx hb dX6_grain_30 (by decide) ?_
      exact cp_zret hx hb hr hlocks (by decide) hF hP hS dX6_grain_31
    · rw [if_neg hc3] at hF
      refine lv_iconst (v := (0 : Int32)) hx hb dX6_grain_16 (by decide) ?_
      exact cp_zret hx hb hr hlocks (by decide) hF hP hS dX6_grain_17
theorem dX6_animal_0 : decode cX6_animal 0 = .ok (.aload_n 0, 1) := by decide +kernel
theorem dX6_animal_1 : decode cX6_animal 1 = .ok (.iload_n 3, 1) := by decide +kernel
theorem dX6_animal_2 : decode cX6_animal 2 = .ok (.ifCond .lt 22, 3) := by decide +kernel
theorem dX6_animal_5 : decode cX6_animal 5 = .ok (.iload_n 3, 1) := by decide +kernel
theorem dX6_animal_6 : decode cX6_animal 6 = .ok (.iconst 3, 1) := by decide +kernel
theorem dX6_animal_7 : decode cX6_animal 7 = .ok (.if_icmp .gt 17, 3) := by decide +kernel
theorem dX6_animal_10 : decode cX6_animal 10 = .ok (.iload 4, 2) := by decide +kernel
theorem dX6_animal_12 : decode cX6_animal 12 = .ok (.iconst 1, 1) := by decide +kernel
theorem dX6_animal_13 : decode cX6_animal 13 = .ok (.if_icmp .lt 11, 3) := by decide +kernel
theorem dX6_animal_16 : decode cX6_animal 16 = .ok (.iload 4, 2) := by decide +kernel
theorem dX6_animal_18 : decode cX6_animal 18 = .ok (.sipush 1000, 3) := by decide +kernel
theorem dX6_animal_21 : decode cX6_animal 21 = .ok (.if_icmp .le 7, 3) := by decide +kernel
theorem dX6_animal_24 : decode cX6_animal 24 = .ok (.iconst 1, 1) := by decide +kernel
theorem dX6_animal_25 : decode cX6_animal 25 = .ok (.goto 30, 3) := by decide +kernel
theorem dX6_animal_28 : decode cX6_animal 28 = .ok (.aload_n 0, 1) := by decide +kernel
theorem dX6_animal_29 : decode cX6_animal 29 = .ok (.aload_n 0, 1) := by decide +kernel
theorem dX6_animal_30 : decode cX6_animal 30 = .ok (.iload_n 1, 1) := by decide +kernel
theorem dX6_animal_31 : decode cX6_animal 31 = .ok (.iload_n 2, 1) := by decide +kernel
theorem dX6_animal_32 : decode cX6_animal 32 = .ok (.invokevirtual 38, 3) := by decide +kernel
theorem dX6_animal_35 : decode cX6_animal 35 = .ok (.invokevirtual 51, 3) := by decide +kernel
theorem dX6_animal_38 : decode cX6_animal 38 = .ok (.ifCond .ge 12, 3) := by decide +kernel
theorem dX6_animal_41 : decode cX6_animal 41 = .ok (.aload_n 0, 1) := by decide +kernel
theorem dX6_animal_42 : decode cX6_animal 42 = .ok (.invokevirtual 85, 3) := by decide +kernel
theorem dX6_animal_45 : decode cX6_animal 45 = .ok (.bipush 16, 2) := by decide +kernel
theorem dX6_animal_47 : decode cX6_animal 47 = .ok (.if_icmp .ne 7, 3) := by decide +kernel
theorem dX6_animal_50 : decode cX6_animal 50 = .ok (.iconst 2, 1) := by decide +kernel
theorem dX6_animal_51 : decode cX6_animal 51 = .ok (.goto 4, 3) := by decide +kernel
theorem dX6_animal_54 : decode cX6_animal 54 = .ok (.iconst 0, 1) := by decide +kernel
theorem dX6_animal_55 : decode cX6_animal 55 = .ok (.putfield 23, 3) := by decide +kernel
theorem dX6_animal_58 : decode cX6_animal 58 = .ok (.aload_n 0, 1) := by decide +kernel
theorem dX6_animal_59 : decode cX6_animal 59 = .ok (.getfield 23, 3) := by decide +kernel
theorem dX6_animal_62 : decode cX6_animal 62 = .ok (.ifCond .le 5, 3) := by decide +kernel
theorem dX6_animal_65 : decode cX6_animal 65 = .ok (.iconst 0, 1) := by decide +kernel
theorem dX6_animal_66 : decode cX6_animal 66 = .ok (.ireturn, 1) := by decide +kernel
theorem dX6_animal_67 : decode cX6_animal 67 = .ok (.aload_n 0, 1) := by decide +kernel
theorem dX6_animal_68 : decode cX6_animal 68 = .ok (.invokevirtual 85, 3) := by decide +kernel
theorem dX6_animal_71 : decode cX6_animal 71 = .ok (.istore 5, 2) := by decide +kernel
theorem dX6_animal_73 : decode cX6_animal 73 = .ok (.aload_n 0, 1) := by decide +kernel
theorem dX6_animal_74 : decode cX6_animal 74 = .ok (.iload 5, 2) := by decide +kernel
theorem dX6_animal_76 : decode cX6_animal 76 = .ok (.aload_n 0, 1) := by decide +kernel
theorem dX6_animal_77 : decode cX6_animal 77 = .ok (.iload_n 1, 1) := by decide +kernel
theorem dX6_animal_78 : decode cX6_animal 78 = .ok (.iload_n 2, 1) := by decide +kernel
theorem dX6_animal_79 : decode cX6_animal 79 = .ok (.invokevirtual 38, 3) := by decide +kernel
theorem dX6_animal_82 : decode cX6_animal 82 = .ok (.iload_n 3, 1) := by decide +kernel
theorem dX6_animal_83 : decode cX6_animal 83 = .ok (.iload 4, 2) := by decide +kernel
theorem dX6_animal_85 : decode cX6_animal 85 = .ok (.invokevirtual 88, 3) := by decide +kernel
theorem dX6_animal_88 : decode cX6_animal 88 = .ok (.iload 5, 2) := by decide +kernel
theorem dX6_animal_90 : decode cX6_animal 90 = .ok (.ireturn, 1) := by decide +kernel
def fn_X6_animal (L : cp_Lay) (q : Nat) (k0 : Nat) (x1 : Int32) (x2 : Int32) (x3 : Int32) (x4 : Int32) (D : cp_Dt) : Option (Int32 × cp_Dt) :=
  if x3 < 0 then ((cp_pI L D k0 6 0 (1 : Int32)).bind fun D2 =>
  (cp_gI L D2 k0 6 0).bind fun v3 =>
  if v3 ≤ 0 then ((cp_fl L k0 6).bind fun f5 =>
  (fn_X6_free L q k0 D2).bind fun y6 =>
  (cp_fl L k0 6).bind fun f7 =>
  (fn_X6_cellAt L q k0 x1 x2 y6.2).bind fun y8 =>
  (cp_fl L k0 6).bind fun f9 =>
  (fn_X6_make L q k0 y6.1 y8.1 x3 x4 y8.2).bind fun D10 =>
  some (y6.1, D10))
  else (some ((0 : Int32), D2)))
  else (if (3 : Int32) < x3 then ((cp_pI L D k0 6 0 (1 : Int32)).bind fun D12 =>
  (cp_gI L D12 k0 6 0).bind fun v13 =>
  if v13 ≤ 0 then ((cp_fl L k0 6).bind fun f15 =>
  (fn_X6_free L q k0 D12).bind fun y16 =>
  (cp_fl L k0 6).bind fun f17 =>
  (fn_X6_cellAt L q k0 x1 x2 y16.2).bind fun y18 =>
  (cp_fl L k0 6).bind fun f19 =>
  (fn_X6_make L q k0 y16.1 y18.1 x3 x4 y18.2).bind fun D20 =>
  some (y16.1, D20))
  else (some ((0 : Int32), D12)))
  else (if x4 < (1 : Int32) then ((cp_pI L D k0 6 0 (1 : Int32)).bind fun D22 =>
  (cp_gI L D22 k0 6 0).bind fun v23 =>
  if v23 ≤ 0 then ((cp_fl L k0 6).bind fun f25 =>
  (fn_X6_free L q k0 D22).bind fun y26 =>
  (cp_fl L k0 6).bind fun f27 =>
  (fn_X6_cellAt L q k0 x1 x2 y26.2).bind fun y28 =>
  (cp_fl L k0 6).bind fun f29 =>
  (fn_X6_make L q k0 y26.1 y28.1 x3 x4 y28.2).bind fun D30 =>
  some (y26.1, D30))
  else (some ((0 : Int32), D22)))
  else (if x4 ≤ (1000 : Int32) then ((cp_fl L k0 6).bind fun f32 =>
  (fn_X6_cellAt L q k0 x1 x2 D).bind fun y33 =>
  (cp_fl L k0 6).bind fun f34 =>
  (fn_X6_inCell L q k0 y33.1 y33.2).bind fun y35 =>
  if 0 ≤ y35.1 then ((cp_pI L y35.2 k0 6 0 (2 : Int32)).bind fun D37 =>
  (cp_gI L D37 k0 6 0).bind fun v38 =>
  if v38 ≤ 0 then ((cp_fl L k0 6).bind fun f40 =>
  (fn_X6_free L q k0 D37).bind fun y41 =>
  (cp_fl L k0 6).bind fun f42 =>
  (fn_X6_cellAt L q k0 x1 x2 y41.2).bind fun y43 =>
  (cp_fl L k0 6).bind fun f44 =>
  (fn_X6_make L q k0 y41.1 y43.1 x3 x4 y43.2).bind fun D45 =>
  some (y41.1, D45))
  else (some ((0 : Int32), D37)))
  else ((cp_fl L k0 6).bind fun f46 =>
  (fn_X6_free L q k0 y35.2).bind fun y47 =>
  if y47.1 = (16 : Int32) then ((cp_pI L y47.2 k0 6 0 (2 : Int32)).bind fun D58 =>
  (cp_gI L D58 k0 6 0).bind fun v59 =>
  if v59 ≤ 0 then ((cp_fl L k0 6).bind fun f61 =>
  (fn_X6_free L q k0 D58).bind fun y62 =>
  (cp_fl L k0 6).bind fun f63 =>
  (fn_X6_cellAt L q k0 x1 x2 y62.2).bind fun y64 =>
  (cp_fl L k0 6).bind fun f65 =>
  (fn_X6_make L q k0 y62.1 y64.1 x3 x4 y64.2).bind fun D66 =>
  some (y62.1, D66))
  else (some ((0 : Int32), D58)))
  else ((cp_pI L y47.2 k0 6 0 (0 : Int32)).bind fun D49 =>
  (cp_gI L D49 k0 6 0).bind fun v50 =>
  if v50 ≤ 0 then ((cp_fl L k0 6).bind fun f52 =>
  (fn_X6_free L q k0 D49).bind fun y53 =>
  (cp_fl L k0 6).bind fun f54 =>
  (fn_X6_cellAt L q k0 x1 x2 y53.2).bind fun y55 =>
  (cp_fl L k0 6).bind fun f56 =>
  (fn_X6_make L q k0 y53.1 y55.1 x3 x4 y55.2).bind fun D57 =>
  some (y53.1, D57))
  else (some ((0 : Int32), D49)))))
  else ((cp_pI L D k0 6 0 (1 : Int32)).bind fun D67 =>
  (cp_gI L D67 k0 6 0).bind fun v68 =>
  if v68 ≤ 0 then ((cp_fl L k0 6).bind fun f70 =>
  (fn_X6_free L q k0 D67).bind fun y71 =>
  (cp_fl L k0 6).bind fun f72 =>
  (fn_X6_cellAt L q k0 x1 x2 y71.2).bind fun y73 =>
  (cp_fl L k0 6).bind fun f74 =>
  (fn_X6_make L q k0 y71.1 y73.1 x3 x4 y73.2).bind fun D75 =>
  some (y71.1, D75))
  else (some ((0 : Int32), D67))))))
set_option maxHeartbeats 4000000 in
set_option maxRecDepth 100000 in
theorem ct_X6_animal (l : Launch) (G : va_G) (L : cp_Lay) (hJ : cp_J L) (q : Nat) (k0 : Nat) (x1 : Int32) (x2 : Int32) (x3 : Int32) (x4 : Int32) (D : cp_Dt) (res : Int32 × cp_Dt) (hF : fn_X6_animal L q k0 x1 x2 x3 x4 D = some res) : cp_Met l G yX6_animal wsX6_animal ({ frames := 3, cells := 0, slots := 0, locals := 62 }) L ([.ref (L.2.1 k0), .int x1, .int x2, .int x3, .int x4] : List Value) D res.2 (some (.int res.1)) := by
  refine Met.ofW (cc := cX6_animal) (maxL := 6) (ret := (some .int)) (by decide) rfl ?_
  intro p e s m args below meth c s₁ B hml hv
  obtain ⟨rfl, hP, hK, hN, hZ⟩ := hv
  have hx := B.exec
  have hb := B.bytes
  have hr := B.returns
  have hts := atoms_spec (ws := wsX6_animal) B.pre
  have hown : s.vm.findClass "CreaturePondModel" = some m.cls := findClass_of_methodNamed B.named
  have hlocks := B.notSynchronized
  have hS : va_S (cp_A L) s.heap s.heap [] := va_S.rf
  have htT : ∀ w ∈ cp_T, w.before ([.ref (L.2.1 k0), .int x1, .int x2, .int x3, .int x4] : List Value).toArray s = true := fun w h => hts w (List.mem_cons_of_mem _ h)
  have hl := lv_entry (([.ref (L.2.1 k0), .int x1, .int x2, .int x3, .int x4] : List Value)) (n := 6) (Nat.le_of_ble_eq_true rfl)
  rw [lg_entry_eq]
  generalize (lg_sl (([.ref (L.2.1 k0), .int x1, .int x2, .int x3, .int x4] : List Value)) ++ List.replicate (6 - (lg_sl (([.ref (L.2.1 k0), .int x1, .int x2, .int x3, .int x4] : List Value))).length) Slot.unset).toArray = ls at hl ⊢
  have hl : lv_has ls 6 [(0, .ref (L.2.1 k0)), (1, .int x1), (2, .int x2), (3, .int x3), (4, .int x4)] := hl
  unfold fn_X6_animal at hF
  refine lv_aload_n hx hb dX6_animal_0 rfl (lv_at hl 0 rfl) ?_
  refine lv_iload_n hx hb dX6_animal_1 rfl (lv_at hl 3 rfl) ?_
  refine lv_if_lt (tgt := 24) hx hb dX6_animal_2 (by decide) (fun hc1 => ?_) (fun hc1 => ?_)
  · rw [if_pos hc1] at hF
    refine lv_iconst (v := (1 : Int32)) hx hb dX6_animal_24 (by decide) ?_
    refine lv_goto (tgt := 55) hx hb dX6_animal_25 (by decide) ?_
    obtain ⟨D2, eD2, hF⟩ := cp_bind hF
    refine cp_put (T := TX6) (N := 6) (ci := 6) (j := 0) hx hb htT hinX6 tyX6 tyX6_ok nmX6 hown hK hJ hP hS rfl (by decide) rfl (htT _ tw_375) rfl rfl rfl eD2 dX6_animal_55 (fun H locs hP hS => ?_)
    refine lv_aload_n hx hb dX6_animal_58 rfl (lv_at hl 0 rfl) ?_
    obtain ⟨v3, ev3, hF⟩ := cp_bind hF
    refine cp_getI (T := TX6) (N := 6) (ci := 6) (j := 0) hx hb htT hinX6 hown hK hP rfl (by decide) rfl (htT _ tw_375) ev3 dX6_animal_59 ?_
    refine lv_if_le (tgt := 67) hx hb dX6_animal_62 (by decide) (fun hc4 => ?_) (fun hc4 => ?_)
    · rw [if_pos hc4] at hF
      refine lv_aload_n hx hb dX6_animal_67 rfl (lv_at hl 0 rfl) ?_
      obtain ⟨f5, ef5, hF⟩ := cp_bind hF
      obtain ⟨y6, ey6, hF⟩ := cp_bind hF
      refine cp_call (st1 := [.int y6.1]) (va_runV (As := []) (rest := []) ⟨hx, hb, hml, hown, htT⟩ (ct_X6_free l G L hJ q k0 D2 y6 ey6) ⟨callB_of 0 htT gdX6_free rfl rfl rfl (htT _ tw_8) (htT _ tw_420) hdX6_free ⟨Nat.le_of_ble_eq_true rfl, Nat.le_of_ble_eq_true rfl⟩, (htT _ tw_421), (htT _ tw_575)⟩ ⟨cp_blind, cp_recv hK hP rfl ef5, cp_pre hP hK hN hZ hS⟩ rfl rfl hl.1 rfl (lv_room (Nat.le_of_ble_eq_true rfl)) dX6_animal_68 ⟨Nat.zero_le _, Nat.zero_le _⟩) hS (fun H locs hP hS => ?_)
      refine lv_istore (lv' := [(5, .int y6.1), (0, .ref (L.2.1 k0)), (1, .int x1), (2, .int x2), (3, .int x3), (4, .int x4)]) hx hb dX6_animal_71 hl (by decide) rfl (fun ls hl => ?_)
      refine lv_aload_n hx hb dX6_animal_73 rfl (lv_at hl 1 rfl) ?_
      refine lv_iload hx hb dX6_animal_74 (lv_at hl 0 rfl) ?_
      refine lv_aload_n hx hb dX6_animal_76 rfl (lv_at hl 1 rfl) ?_
      refine lv_iload_n hx hb dX6_animal_77 rfl (lv_at hl 2 rfl) ?_
      refine lv_iload_n hx hb dX6_animal_78 rfl (lv_at hl 3 rfl) ?_
      obtain ⟨f7, ef7, hF⟩ := cp_bind hF
      obtain ⟨y8, ey8, hF⟩ := cp_bind hF
      refine cp_call (st1 := [.int y8.1, .int y6.1, .ref (L.2.1 k0)]) (va_runV (As := [.int x1, .int x2]) (rest := [.int y6.1, .ref (L.2.1 k0)]) ⟨hx, hb, hml, hown, htT⟩ (ct_X6_cellAt l G L hJ q k0 x1 x2 y6.2 y8 ey8) ⟨callB_of 2 htT gdX6_cellAt rfl rfl rfl (htT _ tw_8) (htT _ tw_404) hdX6_cellAt ⟨Nat.le_of_ble_eq_true rfl, Nat.le_of_ble_eq_true rfl⟩, (htT _ tw_405), (htT _ tw_573)⟩ ⟨cp_blind, cp_recv hK hP rfl ef7, cp_pre hP hK hN hZ hS⟩ rfl rfl hl.1 rfl (lv_room (Nat.le_of_ble_eq_true rfl)) dX6_animal_79 ⟨Nat.zero_le _, Nat.zero_le _⟩) hS (fun H locs hP hS => ?_)
      refine lv_iload_n hx hb dX6_animal_82 rfl (lv_at hl 4 rfl) ?_
      refine lv_iload hx hb dX6_animal_83 (lv_at hl 5 rfl) ?_
      obtain ⟨f9, ef9, hF⟩ := cp_bind hF
      obtain ⟨D10, eD10, hF⟩ := cp_bind hF
      refine cp_call (st1 := []) (va_runV (As := [.int y6.1, .int y8.1, .int x3, .int x4]) (rest := []) ⟨hx, hb, hml, hown, htT⟩ (ct_X6_make l G L hJ q k0 y6.1 y8.1 x3 x4 y8.2 D10 eD10) ⟨callB_of 4 htT gdX6_make rfl rfl rfl (htT _ tw_8) (htT _ tw_426) hdX6_make ⟨Nat.le_of_ble_eq_true rfl, Nat.le_of_ble_eq_true rfl⟩, (htT _ tw_427), (htT _ tw_577)⟩ ⟨cp_blind, cp_recv hK hP rfl ef9, cp_pre hP hK hN hZ hS⟩ rfl rfl hl.1 rfl (lv_room (Nat.le_of_ble_eq_true rfl)) dX6_animal_85 ⟨Nat.zero_le _, Nat.zero_le _⟩) hS (fun H locs hP hS => ?_)
      refine lv_iload hx hb dX6_animal_88 (lv_at hl 0 rfl) ?_
      exact cp_iret hx hb hr hlocks hF hP hS dX6_animal_90
    · rw [if_neg hc4] at hF
      refine lv_iconst (v := (0 : Int32)) hx hb dX6_animal_65 (by decide) ?_
      exact cp_iret hx hb hr hlocks hF hP hS dX6_animal_66
  · rw [if_neg hc1] at hF
    refine lv_iload_n hx hb dX6_animal_5 rfl (lv_at hl 3 rfl) ?_
    refine lv_iconst (v := (3 : Int32)) hx hb dX6_animal_6 (by decide) ?_
    refine lv_icmp_gt (tgt := 24) hx hb dX6_animal_7 (by decide) (fun hc11 => ?_) (fun hc11 => ?_)
    · rw [if_pos hc11] at hF
      refine lv_iconst (v := (1 : Int32)) hx hb dX6_animal_24 (by decide) ?_
      refine lv_goto (tgt := 55) hx hb dX6_animal_25 (by decide) ?_
      obtain ⟨D12, eD12, hF⟩ := cp_bind hF
      refine cp_put (T := TX6) (N := 6) (ci := 6) (j := 0) hx hb htT hinX6 tyX6 tyX6_ok nmX6 hown hK hJ hP hS rfl (by decide) rfl (htT _ tw_375) rfl rfl rfl eD12 dX6_animal_55 (fun H locs hP hS => ?_)
      refine lv_aload_n hx hb dX6_animal_58 rfl (lv_at hl 0 rfl) ?_
      obtain ⟨v13, ev13, hF⟩ := cp_bind hF
      refine cp_getI (T := TX6) (N := 6) (ci := 6) (j := 0) hx hb htT hinX6 hown hK hP rfl (by decide) rfl (htT _ tw_375) ev13 dX6_animal_59 ?_
      refine lv_if_le (tgt := 67) hx hb dX6_animal_62 (by decide) (fun hc14 => ?_) (fun hc14 => ?_)
      · rw [if_pos hc14] at hF
        refine lv_aload_n hx hb dX6_animal_67 rfl (lv_at hl 0 rfl) ?_
        obtain ⟨f15, ef15, hF⟩ := cp_bind hF
        obtain ⟨y16, ey16, hF⟩ := cp_bind hF
        refine cp_call (st1 := [.int y16.1]) (va_runV (As := []) (rest := []) ⟨hx, hb, hml, hown, htT⟩ (ct_X6_free l G L hJ q k0 D12 y16 ey16) ⟨callB_of 0 htT gdX6_free rfl rfl rfl (htT _ tw_8) (htT _ tw_420) hdX6_free ⟨Nat.le_of_ble_eq_true rfl, Nat.le_of_ble_eq_true rfl⟩, (htT _ tw_421), (htT _ tw_575)⟩ ⟨cp_blind, cp_recv hK hP rfl ef15, cp_pre hP hK hN hZ hS⟩ rfl rfl hl.1 rfl (lv_room (Nat.le_of_ble_eq_true rfl)) dX6_animal_68 ⟨Nat.zero_le _, Nat.zero_le _⟩) hS (fun H locs hP hS => ?_)
        refine lv_istore (lv' := [(5, .int y16.1), (0, .ref (L.2.1 k0)), (1, .int x1), (2, .int x2), (3, .int x3), (4, .int x4)]) hx hb dX6_animal_71 hl (by decide) rfl (fun ls hl => ?_)
        refine lv_aload_n hx hb dX6_animal_73 rfl (lv_at hl 1 rfl) ?_
        refine lv_iload hx hb dX6_animal_74 (lv_at hl 0 rfl) ?_
        refine lv_aload_n hx hb dX6_animal_76 rfl (lv_at hl 1 rfl) ?_
        refine lv_iload_n hx hb dX6_animal_77 rfl (lv_at hl 2 rfl) ?_
        refine lv_iload_n hx hb dX6_animal_78 rfl (lv_at hl 3 rfl) ?_
        obtain ⟨f17, ef17, hF⟩ := cp_bind hF
        obtain ⟨y18, ey18, hF⟩ := cp_bind hF
        refine cp_call (st1 := [.int y18.1, .int y16.1, .ref (L.2.1 k0)]) (va_runV (As := [.int x1, .int x2]) (rest := [.int y16.1, .ref (L.2.1 k0)]) ⟨hx, hb, hml, hown, htT⟩ (ct_X6_cellAt l G L hJ q k0 x1 x2 y16.2 y18 ey18) ⟨callB_of 2 htT gdX6_cellAt rfl rfl rfl (htT _ tw_8) (htT _ tw_404) hdX6_cellAt ⟨Nat.le_of_ble_eq_true rfl, Nat.le_of_ble_eq_true rfl⟩, (htT _ tw_405), (htT _ tw_573)⟩ ⟨cp_blind, cp_recv hK hP rfl ef17, cp_pre hP hK hN hZ hS⟩ rfl rfl hl.1 rfl (lv_room (Nat.le_of_ble_eq_true rfl)) dX6_animal_79 ⟨Nat.zero_le _, Nat.zero_le _⟩) hS (fun H locs hP hS => ?_)
        refine lv_iload_n hx hb dX6_animal_82 rfl (lv_at hl 4 rfl) ?_
        refine lv_iload hx hb dX6_animal_83 (lv_at hl 5 rfl) ?_
        obtain ⟨f19, ef19, hF⟩ := cp_bind hF
        obtain ⟨D20, eD20, hF⟩ := cp_bind hF
        refine cp_call (st1 := []) (va_runV (As := [.int y16.1, .int y18.1, .int x3, .int x4]) (rest := []) ⟨hx, hb, hml, hown, htT⟩ (ct_X6_make l G L hJ q k0 y16.1 y18.1 x3 x4 y18.2 D20 eD20) ⟨callB_of 4 htT gdX6_make rfl rfl rfl (htT _ tw_8) (htT _ tw_426) hdX6_make ⟨Nat.le_of_ble_eq_true rfl, Nat.le_of_ble_eq_true rfl⟩, (htT _ tw_427), (htT _ tw_577)⟩ ⟨cp_blind, cp_recv hK hP rfl ef19, cp_pre hP hK hN hZ hS⟩ rfl rfl hl.1 rfl (lv_room (Nat.le_of_ble_eq_true rfl)) dX6_animal_85 ⟨Nat.zero_le _, Nat.zero_le _⟩) hS (fun H locs hP hS => ?_)
        refine lv_iload hx hb dX6_animal_88 (lv_at hl 0 rfl) ?_
        exact cp_iret hx hb hr hlocks hF hP hS dX6_animal_90
      · rw [if_neg hc14] at hF
        refine lv_iconst (v := (0 : Int32)) hx hb dX6_animal_65 (by decide) ?_
        exact cp_iret hx hb hr hlocks hF hP hS dX6_animal_66
    · rw [if_neg hc11] at hF
      refine lv_iload hx hb dX6_animal_10 (lv_at hl 4 rfl) ?_
      refine lv_iconst (v := (1 : Int32)) hx hb dX6_animal_12 (by decide) ?_
      refine lv_icmp_lt (tgt := 24) hx hb dX6_animal_13 (by decide) (fun hc21 => ?_) (fun hc21 => ?_)
      · rw [if_pos hc21] at hF
        refine lv_iconst (v := (1 : Int32)) hx hb dX6_animal_24 (by decide) ?_
        refine lv_goto (tgt := 55) hx hb dX6_animal_25 (by decide) ?_
        obtain ⟨D22, eD22, hF⟩ := cp_bind hF
        refine cp_put (T := TX6) (N := 6) (ci := 6) (j := 0) hx hb htT hinX6 tyX6 tyX6_ok nmX6 hown hK hJ hP hS rfl (by decide) rfl (htT _ tw_375) rfl rfl rfl eD22 dX6_animal_55 (fun H locs hP hS => ?_)
        refine lv_aload_n hx hb dX6_animal_58 rfl (lv_at hl 0 rfl) ?_
        obtain ⟨v23, ev23, hF⟩ := cp_bind hF
        refine cp_getI (T := TX6) (N := 6) (ci := 6) (j := 0) hx hb htT hinX6 hown hK hP rfl (by decide) rfl (htT _ tw_375) ev23 dX6_animal_59 ?_
        refine lv_if_le (tgt := 67) hx hb dX6_animal_62 (by decide) (fun hc24 => ?_) (fun hc24 => ?_)
        · rw [if_pos hc24] at hF
          refine lv_aload_n hx hb dX6_animal_67 rfl (lv_at hl 0 rfl) ?_
          obtain ⟨f25, ef25, hF⟩ := cp_bind hF
          obtain ⟨y26, ey26, hF⟩ := cp_bind hF
          refine cp_call (st1 := [.int y26.1]) (va_runV (As := []) (rest := []) ⟨hx, hb, hml, hown, htT⟩ (ct_X6_free l G L hJ q k0 D22 y26 ey26) ⟨callB_of 0 htT gdX6_free rfl rfl rfl (htT _ tw_8) (htT _ tw_420) hdX6_free ⟨Nat.le_of_ble_eq_true rfl, Nat.le_of_ble_eq_true rfl⟩, (htT _ tw_421), (htT _ tw_575)⟩ ⟨cp_blind, cp_recv hK hP rfl ef25, cp_pre hP hK hN hZ hS⟩ rfl rfl hl.1 rfl (lv_room (Nat.le_of_ble_eq_true rfl)) dX6_animal_68 ⟨Nat.zero_le _, Nat.zero_le _⟩) hS (fun H locs hP hS => ?_)
          refine lv_istore (lv' := [(5, .int y26.1), (0, .ref (L.2.1 k0)), (1, .int x1), (2, .int x2), (3, .int x3), (4, .int x4)]) hx hb dX6_animal_71 hl (by decide) rfl (fun ls hl => ?_)
          refine lv_aload_n hx hb dX6_animal_73 rfl (lv_at hl 1 rfl) ?_
          refine lv_iload hx hb dX6_animal_74 (lv_at hl 0 rfl) ?_
          refine lv_aload_n hx hb dX6_animal_76 rfl (lv_at hl 1 rfl) ?_
          refine lv_iload_n hx hb dX6_animal_77 rfl (lv_at hl 2 rfl) ?_
          refine lv_iload_n hx hb dX6_animal_78 rfl (lv_at hl 3 rfl) ?_
          obtain ⟨f27, ef27, hF⟩ := cp_bind hF
          obtain ⟨y28, ey28, hF⟩ := cp_bind hF
          refine cp_call (st1 := [.int y28.1, .int y26.1, .ref (L.2.1 k0)]) (va_runV (As := [.int x1, .int x2]) (rest := [.int y26.1, .ref (L.2.1 k0)]) ⟨hx, hb, hml, hown, htT⟩ (ct_X6_cellAt l G L hJ q k0 x1 x2 y26.2 y28 ey28) ⟨callB_of 2 htT gdX6_cellAt rfl rfl rfl (htT _ tw_8) (htT _ tw_404) hdX6_cellAt ⟨Nat.le_of_ble_eq_true rfl, Nat.le_of_ble_eq_true rfl⟩, (htT _ tw_405), (htT _ tw_573)⟩ ⟨cp_blind, cp_recv hK hP rfl ef27, cp_pre hP hK hN hZ hS⟩ rfl rfl hl.1 rfl (lv_room (Nat.le_of_ble_eq_true rfl)) dX6_animal_79 ⟨Nat.zero_le _, Nat.zero_le _⟩) hS (fun H locs hP hS => ?_)
          refine lv_iload_n hx hb dX6_animal_82 rfl (lv_at hl 4 rfl) ?_
          refine lv_iload hx hb dX6_animal_83 (lv_at hl 5 rfl) ?_
          obtain ⟨f29, ef29, hF⟩ := cp_bind hF
          obtain ⟨D30, eD30, hF⟩ := cp_bind hF
          refine cp_call (st1 := []) (va_runV (As := [.int y26.1, .int y28.1, .int x3, .int x4]) (rest := []) ⟨hx, hb, hml, hown, htT⟩ (ct_X6_make l G L hJ q k0 y26.1 y28.1 x3 x4 y28.2 D30 eD30) ⟨callB_of 4 htT gdX6_make rfl rfl rfl (htT _ tw_8) (htT _ tw_426) hdX6_make ⟨Nat.le_of_ble_eq_true rfl, Nat.le_of_ble_eq_true rfl⟩, (htT _ tw_427), (htT _ tw_577)⟩ ⟨cp_blind, cp_recv hK hP rfl ef29, cp_pre hP hK hN hZ hS⟩ rfl rfl hl.1 rfl (lv_room (Nat.le_of_ble_eq_true rfl)) dX6_animal_85 ⟨Nat.zero_le _, Nat.zero_le _⟩) hS (fun H locs hP hS => ?_)
          refine lv_iload hx hb dX6_animal_88 (lv_at hl 0 rfl) ?_
          exact cp_iret hx hb hr hlocks hF hP hS dX6_animal_90
        · rw [if_neg hc24] at hF
          refine lv_iconst (v := (0 : Int32)) hx hb dX6_animal_65 (by decide) ?_
          exact cp_iret hx hb hr hlocks hF hP hS dX6_animal_66
      · rw [if_neg hc21] at hF
        refine lv_iload hx hb dX6_animal_16 (lv_at hl 4 rfl) ?_
        refine lv_sipush (v := (1000 : Int32)) hx hb dX6_animal_18 (by decide) ?_
        refine lv_icmp_le (tgt := 28) hx hb dX6_animal_21 (by decide) (fun hc31 => ?_) (fun hc31 => ?_)
        · rw [if_pos hc31] at hF
          refine lv_aload_n hx hb dX6_animal_28 rfl (lv_at hl 0 rfl) ?_
          refine lv_aload_n hx hb dX6_animal_29 rfl (lv_at hl 0 rfl) ?_
          refine lv_iload_n hx hb dX6_animal_30 rfl (lv_at hl 1 rfl) ?_
          refine lv_iload_n hx hb dX6_animal_31 rfl (lv_at hl 2 rfl) ?_
          obtain ⟨f32, ef32, hF⟩ := cp_bind hF
          obtain ⟨y33, ey33, hF⟩ := cp_bind hF
          refine cp_call (st1 := [.int y33.1, .ref (L.2.1 k0), .ref (L.2.1 k0)]) (va_runV (As := [.int x1, .int x2]) (rest := [.ref (L.2.1 k0), .ref (L.2.1 k0)]) ⟨hx, hb, hml, hown, htT⟩ (ct_X6_cellAt l G L hJ q k0 x1 x2 D y33 ey33) ⟨callB_of 2 htT gdX6_cellAt rfl rfl rfl (htT _ tw_8) (htT _ tw_404) hdX6_cellAt ⟨Nat.le_of_ble_eq_true rfl, Nat.le_of_ble_eq_true rfl⟩, (htT _ tw_405), (htT _ tw_573)⟩ ⟨cp_blind, cp_recv hK hP rfl ef32, cp_pre hP hK hN hZ hS⟩ rfl rfl hl.1 rfl (lv_room (Nat.le_of_ble_eq_true rfl)) dX6_animal_32 ⟨Nat.zero_le _, Nat.zero_le _⟩) hS (fun H locs hP hS => ?_)
          obtain ⟨f34, ef34, hF⟩ := cp_bind hF
          obtain ⟨y35, ey35, hF⟩ := cp_bind hF
          refine cp_call (st1 := [.int y35.1, .ref (L.2.1 k0)]) (va_runV (As := [.int y33.1]) (rest := [.ref (L.2.1 k0)]) ⟨hx, hb, hml, hown, htT⟩ (ct_X6_inCell l G L hJ q k0 y33.1 y33.2 y35 ey35) ⟨callB_of 1 htT gdX6_inCell rfl rfl rfl (htT _ tw_8) (htT _ tw_414) hdX6_inCell ⟨Nat.le_of_ble_eq_true rfl, Nat.le_of_ble_eq_true rfl⟩, (htT _ tw_415), (htT _ tw_574)⟩ ⟨cp_blind, cp_recv hK hP rfl ef34, cp_pre hP hK hN hZ hS⟩ rfl rfl hl.1 rfl (lv_room (Nat.le_of_ble_eq_true rfl)) dX6_animal_35 ⟨Nat.zero_le _, Nat.zero_le _⟩) hS (fun H locs hP hS => ?_)
          refine lv_if_ge (tgt := 50) hx hb dX6_animal_38 (by decide) (fun hc36 => ?_) (fun hc36 => ?_)
          · rw [if_pos hc36] at hF
            refine lv_iconst (v := (2 : Int32)) hx hb dX6_animal_50 (by decide) ?_
            refine lv_goto (tgt := 55) hx hb dX6_animal_51 (by decide) ?_
            obtain ⟨D37, eD37, hF⟩ := cp_bind hF
            refine cp_put (T := TX6) (N := 6) (ci := 6) (j := 0) hx hb htT hinX6 tyX6 tyX6_ok nmX6 hown hK hJ hP hS rfl (by decide) rfl (htT _ tw_375) rfl rfl rfl eD37 dX6_animal_55 (fun H locs hP hS => ?_)
            refine lv_aload_n hx hb dX6_animal_58 rfl (lv_at hl 0 rfl) ?_
            obtain ⟨v38, ev38, hF⟩ := cp_bind hF
            refine cp_getI (T := TX6) (N := 6) (ci := 6) (j := 0) hx hb htT hinX6 hown hK hP rfl (by decide) rfl (htT _ tw_375) ev38 dX6_animal_59 ?_
            refine lv_if_le (tgt := 67) hx hb dX6_animal_62 (by decide) (fun hc39 => ?_) (fun hc39 => ?_)
            · rw [if_pos hc39] at hF
              refine lv_aload_n hx hb dX6_animal_67 rfl (lv_at hl 0 rfl) ?_
              obtain ⟨f40, ef40, hF⟩ := cp_bind hF
              obtain ⟨y41, ey41, hF⟩ := cp_bind hF
              refine cp_call (st1 := [.int y41.1]) (va_runV (As := []) (rest := []) ⟨hx, hb, hml, hown, htT⟩ (ct_X6_free l G L hJ q k0 D37 y41 ey41) ⟨callB_of 0 htT gdX6_free rfl rfl rfl (htT _ tw_8) (htT _ tw_420) hdX6_free ⟨Nat.le_of_ble_eq_true rfl, Nat.le_of_ble_eq_true rfl⟩, (htT _ tw_421), (htT _ tw_575)⟩ ⟨cp_blind, cp_recv hK hP rfl ef40, cp_pre hP hK hN hZ hS⟩ rfl rfl hl.1 rfl (lv_room (Nat.le_of_ble_eq_true rfl)) dX6_animal_68 ⟨Nat.zero_le _, Nat.zero_le _⟩) hS (fun H locs hP hS => ?_)
              refine lv_istore (lv' := [(5, .int y41.1), (0, .ref (L.2.1 k0)), (1, .int x1), (2, .int x2), (3, .int x3), (4, .int x4)]) hx hb dX6_animal_71 hl (by decide) rfl (fun ls hl => ?_)
              refine lv_aload_n hx hb dX6_animal_73 rfl (lv_at hl 1 rfl) ?_
              refine lv_iload hx hb dX6_animal_74 (lv_at hl 0 rfl) ?_
              refine lv_aload_n hx hb dX6_animal_76 rfl (lv_at hl 1 rfl) ?_
              refine lv_iload_n hx hb dX6_animal_77 rfl (lv_at hl 2 rfl) ?_
              refine lv_iload_n hx hb dX6_animal_78 rfl (lv_at hl 3 rfl) ?_
              obtain ⟨f42, ef42, hF⟩ := cp_bind hF
              obtain ⟨y43, ey43, hF⟩ := cp_bind hF
              refine cp_call (st1 := [.int y43.1, .int y41.1, .ref (L.2.1 k0)]) (va_runV (As := [.int x1, .int x2]) (rest := [.int y41.1, .ref (L.2.1 k0)]) ⟨hx, hb, hml, hown, htT⟩ (ct_X6_cellAt l G L hJ q k0 x1 x2 y41.2 y43 ey43) ⟨callB_of 2 htT gdX6_cellAt rfl rfl rfl (htT _ tw_8) (htT _ tw_404) hdX6_cellAt ⟨Nat.le_of_ble_eq_true rfl, Nat.le_of_ble_eq_true rfl⟩, (htT _ tw_405), (htT _ tw_573)⟩ ⟨cp_blind, cp_recv hK hP rfl ef42, cp_pre hP hK hN hZ hS⟩ rfl rfl hl.1 rfl (lv_room (Nat.le_of_ble_eq_true rfl)) dX6_animal_79 ⟨Nat.zero_le _, Nat.zero_le _⟩) hS (fun H locs hP hS => ?_)
              refine lv_iload_n hx hb dX6_animal_82 rfl (lv_at hl 4 rfl) ?_
              refine lv_iload hx hb dX6_animal_83 (lv_at hl 5 rfl) ?_
              obtain ⟨f44, ef44, hF⟩ := cp_bind hF
              obtain ⟨D45, eD45, hF⟩ := cp_bind hF
              refine cp_call (st1 := []) (va_runV (As := [.int y41.1, .int y43.1, .int x3, .int x4]) (rest := []) ⟨hx, hb, hml, hown, htT⟩ (ct_X6_make l G L hJ q k0 y41.1 y43.1 x3 x4 y43.2 D45 eD45) ⟨callB_of 4 htT gdX6_make rfl rfl rfl (htT _ tw_8) (htT _ tw_426) hdX6_make ⟨Nat.le_of_ble_eq_true rfl, Nat.le_of_ble_eq_true rfl⟩, (htT _ tw_427), (htT _ tw_577)⟩ ⟨cp_blind, cp_recv hK hP rfl ef44, cp_pre hP hK hN hZ hS⟩ rfl rfl hl.1 rfl (lv_room (Nat.le_of_ble_eq_true rfl)) dX6_animal_85 ⟨Nat.zero_le _, Nat.zero_le _⟩) hS (fun H locs hP hS => ?_)
              refine lv_iload hx hb dX6_animal_88 (lv_at hl 0 rfl) ?_
              exact cp_iret hx hb hr hlocks hF hP hS dX6_animal_90
            · rw [if_neg hc39] at hF
              refine lv_iconst (v := (0 : Int32)) hx hb dX6_animal_65 (by decide) ?_
              exact cp_iret hx hb hr hlocks hF hP hS dX6_animal_66
          · rw [if_neg hc36] at hF
            refine lv_aload_n hx hb dX6_animal_41 rfl (lv_at hl 0 rfl) ?_
            obtain ⟨f46, ef46, hF⟩ := cp_bind hF
            obtain ⟨y47, ey47, hF⟩ := cp_bind hF
            refine cp_call (st1 := [.int y47.1, .ref (L.2.1 k0)]) (va_runV (As := []) (rest := [.ref (L.2.1 k0)]) ⟨hx, hb, hml, hown, htT⟩ (ct_X6_free l G L hJ q k0 y35.2 y47 ey47) ⟨callB_of 0 htT gdX6_free rfl rfl rfl (htT _ tw_8) (htT _ tw_420) hdX6_free ⟨Nat.le_of_ble_eq_true rfl, Nat.le_of_ble_eq_true rfl⟩, (htT _ tw_421), (htT _ tw_575)⟩ ⟨cp_blind, cp_recv hK hP rfl ef46, cp_pre hP hK hN hZ hS⟩ rfl rfl hl.1 rfl (lv_room (Nat.le_of_ble_eq_true rfl)) dX6_animal_42 ⟨Nat.zero_le _, Nat.zero_le _⟩) hS (fun H locs hP hS => ?_)
            refine lv_bipush (v := (16 : Int32)) hx hb dX6_animal_45 (by decide) ?_
            refine lv_icmp_ne (tgt := 54) hx hb dX6_animal_47 (by decide) (fun hc48 => ?_) (fun hc48 => ?_)
            · rw [if_neg hc48] at hF
              refine lv_iconst (v := (0 : Int32)) hx hb dX6_animal_54 (by decide) ?_
              obtain ⟨D49, eD49, hF⟩ := cp_bind hF
              refine cp_put (T := TX6) (N := 6) (ci := 6) (j := 0) hx hb htT hinX6 tyX6 tyX6_ok nmX6 hown hK hJ hP hS rfl (by decide) rfl (htT _ tw_375) rfl rfl rfl eD49 dX6_animal_55 (fun H locs hP hS => ?_)
              refine lv_aload_n hx hb dX6_animal_58 rfl (lv_at hl 0 rfl) ?_
              obtain ⟨v50, ev50, hF⟩ := cp_bind hF
              refine cp_getI (T := TX6) (N := 6) (ci := 6) (j := 0) hx hb htT hinX6 hown hK hP rfl (by decide) rfl (htT _ tw_375) ev50 dX6_animal_59 ?_
              refine lv_if_le (tgt := 67) hx hb dX6_animal_62 (by decide) (fun hc51 => ?_) (fun hc51 => ?_)
              · rw [if_pos hc51] at hF
                refine lv_aload_n hx hb dX6_animal_67 rfl (lv_at hl 0 rfl) ?_
                obtain ⟨f52, ef52, hF⟩ := cp_bind hF
                obtain ⟨y53, ey53, hF⟩ := cp_bind hF
                refine cp_call (st1 := [.int y53.1]) (va_runV (As := []) (rest := []) ⟨hx, hb, hml, hown, htT⟩ (ct_X6_free l G L hJ q k0 D49 y53 ey53) ⟨callB_of 0 htT gdX6_free rfl rfl rfl (htT _ tw_8) (htT _ tw_420) hdX6_free ⟨Nat.le_of_ble_eq_true rfl, Nat.le_of_ble_eq_true rfl⟩, (htT _ tw_421), (htT _ tw_575)⟩ ⟨cp_blind, cp_recv hK hP rfl ef52, cp_pre hP hK hN hZ hS⟩ rfl rfl hl.1 rfl (lv_room (Nat.le_of_ble_eq_true rfl)) dX6_animal_68 ⟨Nat.zero_le _, Nat.zero_le _⟩) hS (fun H locs hP hS => ?_)
                refine lv_istore (lv' := [(5, .int y53.1), (0, .ref (L.2.1 k0)), (1, .int x1), (2, .int x2), (3, .int x3), (4, .int x4)]) hx hb dX6_animal_71 hl (by decide) rfl (fun ls hl => ?_)
                refine lv_aload_n hx hb dX6_animal_73 rfl (lv_at hl 1 rfl) ?_
                refine lv_iload hx hb dX6_animal_74 (lv_at hl 0 rfl) ?_
                refine lv_aload_n hx hb dX6_animal_76 rfl (lv_at hl 1 rfl) ?_
                refine lv_iload_n hx hb dX6_animal_77 rfl (lv_at hl 2 rfl) ?_
                refine lv_iload_n hx hb dX6_animal_78 rfl (lv_at hl 3 rfl) ?_
                obtain ⟨f54, ef54, hF⟩ := cp_bind hF
                obtain ⟨y55, ey55, hF⟩ := cp_bind hF
                refine cp_call (st1 := [.int y55.1, .int y53.1, .ref (L.2.1 k0)]) (va_runV (As := [.int x1, .int x2]) (rest := [.int y53.1, .ref (L.2.1 k0)]) ⟨hx, hb, hml, hown, htT⟩ (ct_X6_cellAt l G L hJ q k0 x1 x2 y53.2 y55 ey55) ⟨callB_of 2 htT gdX6_cellAt rfl rfl rfl (htT _ tw_8) (htT _ tw_404) hdX6_cellAt ⟨Nat.le_of_ble_eq_true rfl, Nat.le_of_ble_eq_true rfl⟩, (htT _ tw_405), (htT _ tw_573)⟩ ⟨cp_blind, cp_recv hK hP rfl ef54, cp_pre hP hK hN hZ hS⟩ rfl rfl hl.1 rfl (lv_room (Nat.le_of_ble_eq_true rfl)) dX6_animal_79 ⟨Nat.zero_le _, Nat.zero_le _⟩) hS (fun H locs hP hS => ?_)
                refine lv_iload_n hx hb dX6_animal_82 rfl (lv_at hl 4 rfl) ?_
                refine lv_iload hx hb dX6_animal_83 (lv_at hl 5 rfl) ?_
                obtain ⟨f56, ef56, hF⟩ := cp_bind hF
                obtain ⟨D57, eD57, hF⟩ := cp_bind hF
                refine cp_call (st1 := []) (va_runV (As := [.int y53.1, .int y55.1, .int x3, .int x4]) (rest := []) ⟨hx, hb, hml, hown, htT⟩ (ct_X6_make l G L hJ q k0 y53.1 y55.1 x3 x4 y55.2 D57 eD57) ⟨callB_of 4 htT gdX6_make rfl rfl rfl (htT _ tw_8) (htT _ tw_426) hdX6_make ⟨Nat.le_of_ble_eq_true rfl, Nat.le_of_ble_eq_true rfl⟩, (htT _ tw_427), (htT _ tw_577)⟩ ⟨cp_blind, cp_recv hK hP rfl ef56, cp_pre hP hK hN hZ hS⟩ rfl rfl hl.1 rfl (lv_room (Nat.le_of_ble_eq_true rfl)) dX6_animal_85 ⟨Nat.zero_le _, Nat.zero_le _⟩) hS (fun H locs hP hS => ?_)
                refine lv_iload hx hb dX6_animal_88 (lv_at hl 0 rfl) ?_
                exact cp_iret hx hb hr hlocks hF hP hS dX6_animal_90
              · rw [if_neg hc51] at hF
                refine lv_iconst (v := (0 : Int32)) hx hb dX6_animal_65 (by decide) ?_
                exact cp_iret hx hb hr hlocks hF hP hS dX6_animal_66
            · rw [if_pos hc48] at hF
              refine lv_iconst (v := (2 : Int32)) hx hb dX6_animal_50 (by decide) ?_
              refine lv_goto (tgt := 55) hx hb dX6_animal_51 (by decide) ?_
              obtain ⟨D58, eD58, hF⟩ := cp_bind hF
              refine cp_put (T := TX6) (N := 6) (ci := 6) (j := 0) hx hb htT hinX6 tyX6 tyX6_ok nmX6 hown hK hJ hP hS rfl (by decide) rfl (htT _ tw_375) rfl rfl rfl eD58 dX6_animal_55 (fun H locs hP hS => ?_)
              refine lv_aload_n hx hb dX6_animal_58 rfl (lv_at hl 0 rfl) ?_
              obtain ⟨v59, ev59, hF⟩ := cp_bind hF
              refine cp_getI (T := TX6) (N := 6) (ci := 6) (j := 0) hx hb htT hinX6 hown hK hP rfl (by decide) rfl (htT _ tw_375) ev59 dX6_animal_59 ?_
              refine lv_if_le (tgt := 67) hx hb dX6_animal_62 (by decide) (fun hc60 => ?_) (fun hc60 => ?_)
              · rw [if_pos hc60] at hF
                refine lv_aload_n hx hb dX6_animal_67 rfl (lv_at hl 0 rfl) ?_
                obtain ⟨f61, ef61, hF⟩ := cp_bind hF
                obtain ⟨y62, ey62, hF⟩ := cp_bind hF
                refine cp_call (st1 := [.int y62.1]) (va_runV (As := []) (rest := []) ⟨hx, hb, hml, hown, htT⟩ (ct_X6_free l G L hJ q k0 D58 y62 ey62) ⟨callB_of 0 htT gdX6_free rfl rfl rfl (htT _ tw_8) (htT _ tw_420) hdX6_free ⟨Nat.le_of_ble_eq_true rfl, Nat.le_of_ble_eq_true rfl⟩, (htT _ tw_421), (htT _ tw_575)⟩ ⟨cp_blind, cp_recv hK hP rfl ef61, cp_pre hP hK hN hZ hS⟩ rfl rfl hl.1 rfl (lv_room (Nat.le_of_ble_eq_true rfl)) dX6_animal_68 ⟨Nat.zero_le _, Nat.zero_le _⟩) hS (fun H locs hP hS => ?_)
                refine lv_istore (lv' := [(5, .int y62.1), (0, .ref (L.2.1 k0)), (1, .int x1), (2, .int x2), (3, .int x3), (4, .int x4)]) hx hb dX6_animal_71 hl (by decide) rfl (fun ls hl => ?_)
                refine lv_aload_n hx hb dX6_animal_73 rfl (lv_at hl 1 rfl) ?_
                refine lv_iload hx hb dX6_animal_74 (lv_at hl 0 rfl) ?_
                refine lv_aload_n hx hb dX6_animal_76 rfl (lv_at hl 1 rfl) ?_
                refine lv_iload_n hx hb dX6_animal_77 rfl (lv_at hl 2 rfl) ?_
                refine lv_iload_n hx hb dX6_animal_78 rfl (lv_at hl 3 rfl) ?_
                obtain ⟨f63, ef63, hF⟩ := cp_bind hF
                obtain ⟨y64, ey64, hF⟩ := cp_bind hF
                refine cp_call (st1 := [.int y64.1, .int y62.1, .ref (L.2.1 k0)]) (va_runV (As := [.int x1, .int x2]) (rest := [.int y62.1, .ref (L.2.1 k0)]) ⟨hx, hb, hml, hown, htT⟩ (ct_X6_cellAt l G L hJ q k0 x1 x2 y62.2 y64 ey64) ⟨callB_of 2 htT gdX6_cellAt rfl rfl rfl (htT _ tw_8) (htT _ tw_404) hdX6_cellAt ⟨Nat.le_of_ble_eq_true rfl, Nat.le_of_ble_eq_true rfl⟩, (htT _ tw_405), (htT _ tw_573)⟩ ⟨cp_blind, cp_recv hK hP rfl ef63, cp_pre hP hK hN hZ hS⟩ rfl rfl hl.1 rfl (lv_room (Nat.le_of_ble_eq_true rfl)) dX6_animal_79 ⟨Nat.zero_le _, Nat.zero_le _⟩) hS (fun H locs hP hS => ?_)
                refine lv_iload_n hx hb dX6_animal_82 rfl (lv_at hl 4 rfl) ?_
                refine lv_iload hx hb dX6_animal_83 (lv_at hl 5 rfl) ?_
                obtain ⟨f65, ef65, hF⟩ := cp_bind hF
                obtain ⟨D66, eD66, hF⟩ := cp_bind hF
                refine cp_call (st1 := []) (va_runV (As := [.int y62.1, .int y64.1, .int x3, .int x4]) (rest := []) ⟨hx, hb, hml, hown, htT⟩ (ct_X6_make l G L hJ q k0 y62.1 y64.1 x3 x4 y64.2 D66 eD66) ⟨callB_of 4 htT gdX6_make rfl rfl rfl (htT _ tw_8) (htT _ tw_426) hdX6_make ⟨Nat.le_of_ble_eq_true rfl, Nat.le_of_ble_eq_true rfl⟩, (htT _ tw_427), (htT _ tw_577)⟩ ⟨cp_blind, cp_recv hK hP rfl ef65, cp_pre hP hK hN hZ hS⟩ rfl rfl hl.1 rfl (lv_room (Nat.le_of_ble_eq_true rfl)) dX6_animal_85 ⟨Nat.zero_le _, Nat.zero_le _⟩) hS (fun H locs hP hS => ?_)
                refine lv_iload hx hb dX6_animal_88 (lv_at hl 0 rfl) ?_
                exact cp_iret hx hb hr hlocks hF hP hS dX6_animal_90
              · rw [if_neg hc60] at hF
                refine lv_iconst (v := (0 : Int32)) hx hb dX6_animal_65 (by decide) ?_
                exact cp_iret hx hb hr hlocks hF hP hS dX6_animal_66
        · rw [if_neg hc31] at hF
          refine lv_iconst (v := (1 : Int32)) hx hb dX6_animal_24 (by decide) ?_
          refine lv_goto (tgt := 55) hx hb dX6_animal_25 (by decide) ?_
          obtain ⟨D67, eD67, hF⟩ := cp_bind hF
          refine cp_put (T := TX6) (N := 6) (ci := 6) (j := 0) hx hb htT hinX6 tyX6 tyX6_ok nmX6 hown hK hJ hP hS rfl (by decide) rfl (htT _ tw_375) rfl rfl rfl eD67 dX6_animal_55 (fun H locs hP hS => ?_)
          refine lv_aload_n hx hb dX6_animal_58 rfl (lv_at hl 0 rfl) ?_
          obtain ⟨v68, ev68, hF⟩ := cp_bind hF
          refine cp_getI (T := TX6) (N := 6) (ci := 6) (j := 0) hx hb htT hinX6 hown hK hP rfl (by decide) rfl (htT _ tw_375) ev68 dX6_animal_59 ?_
          refine lv_if_le (tgt := 67) hx hb dX6_animal_62 (by decide) (fun hc69 => ?_) (fun hc69 => ?_)
          · rw [if_pos hc69] at hF
            refine lv_aload_n hx hb dX6_animal_67 rfl (lv_at hl 0 rfl) ?_
            obtain ⟨f70, ef70, hF⟩ := cp_bind hF
            obtain ⟨y71, ey71, hF⟩ := cp_bind hF
            refine cp_call (st1 := [.int y71.1]) (va_runV (As := []) (rest := []) ⟨hx, hb, hml, hown, htT⟩ (ct_X6_free l G L hJ q k0 D67 y71 ey71) ⟨callB_of 0 htT gdX6_free rfl rfl rfl (htT _ tw_8) (htT _ tw_420) hdX6_free ⟨Nat.le_of_ble_eq_true rfl, Nat.le_of_ble_eq_true rfl⟩, (htT _ tw_421), (htT _ tw_575)⟩ ⟨cp_blind, cp_recv hK hP rfl ef70, cp_pre hP hK hN hZ hS⟩ rfl rfl hl.1 rfl (lv_room (Nat.le_of_ble_eq_true rfl)) dX6_animal_68 ⟨Nat.zero_le _, Nat.zero_le _⟩) hS (fun H locs hP hS => ?_)
            refine lv_istore (lv' := [(5, .int y71.1), (0, .ref (L.2.1 k0)), (1, .int x1), (2, .int x2), (3, .int x3), (4, .int x4)]) hx hb dX6_animal_71 hl (by decide) rfl (fun ls hl => ?_)
            refine lv_aload_n hx hb dX6_animal_73 rfl (lv_at hl 1 rfl) ?_
            refine lv_iload hx hb dX6_animal_74 (lv_at hl 0 rfl) ?_
            refine lv_aload_n hx hb dX6_animal_76 rfl (lv_at hl 1 rfl) ?_
            refine lv_iload_n hx hb dX6_animal_77 rfl (lv_at hl 2 rfl) ?_
            refine lv_iload_n hx hb dX6_animal_78 rfl (lv_at hl 3 rfl) ?_
            obtain ⟨f72, ef72, hF⟩ := cp_bind hF
            obtain ⟨y73, ey73, hF⟩ := cp_bind hF
            refine cp_call (st1 := [.int y73.1, .int y71.1, .ref (L.2.1 k0)]) (va_runV (As := [.int x1, .int x2]) (rest := [.int y71.1, .ref (L.2.1 k0)]) ⟨hx, hb, hml, hown, htT⟩ (ct_X6_cellAt l G L hJ q k0 x1 x2 y71.2 y73 ey73) ⟨callB_of 2 htT gdX6_cellAt rfl rfl rfl (htT _ tw_8) (htT _ tw_404) hdX6_cellAt ⟨Nat.le_of_ble_eq_true rfl, Nat.le_of_ble_eq_true rfl⟩, (htT _ tw_405), (htT _ tw_573)⟩ ⟨cp_blind, cp_recv hK hP rfl ef72, cp_pre hP hK hN hZ hS⟩ rfl rfl hl.1 rfl (lv_room (Nat.le_of_ble_eq_true rfl)) dX6_animal_79 ⟨Nat.zero_le _, Nat.zero_le _⟩) hS (fun H locs hP hS => ?_)
            refine lv_iload_n hx hb dX6_animal_82 rfl (lv_at hl 4 rfl) ?_
            refine lv_iload hx hb dX6_animal_83 (lv_at hl 5 rfl) ?_
            obtain ⟨f74, ef74, hF⟩ := cp_bind hF
            obtain ⟨D75, eD75, hF⟩ := cp_bind hF
            refine cp_call (st1 := []) (va_runV (As := [.int y71.1, .int y73.1, .int x3, .int x4]) (rest := []) ⟨hx, hb, hml, hown, htT⟩ (ct_X6_make l G L hJ q k0 y71.1 y73.1 x3 x4 y73.2 D75 eD75) ⟨callB_of 4 htT gdX6_make rfl rfl rfl (htT _ tw_8) (htT _ tw_426) hdX6_make ⟨Nat.le_of_ble_eq_true rfl, Nat.le_of_ble_eq_true rfl⟩, (htT _ tw_427), (htT _ tw_577)⟩ ⟨cp_blind, cp_recv hK hP rfl ef74, cp_pre hP hK hN hZ hS⟩ rfl rfl hl.1 rfl (lv_room (Nat.le_of_ble_eq_true rfl)) dX6_animal_85 ⟨Nat.zero_le _, Nat.zero_le _⟩) hS (fun H locs hP hS => ?_)
            refine lv_iload hx hb dX6_animal_88 (lv_at hl 0 rfl) ?_
            exact cp_iret hx hb hr hlocks hF hP hS dX6_animal_90
          · rw [if_neg hc69] at hF
            refine lv_iconst (v := (0 : Int32)) hx hb dX6_animal_65 (by decide) ?_
            exact cp_iret hx hb hr hlocks hF hP hS dX6_animal_66
