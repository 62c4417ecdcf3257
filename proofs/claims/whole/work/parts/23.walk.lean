theorem dX6_cell_0 : decode cX6_cell 0 = .ok (.aload_n 0, 1) := by decide +kernel
theorem dX6_cell_1 : decode cX6_cell 1 = .ok (.iconst 0, 1) := by decide +kernel
theorem dX6_cell_2 : decode cX6_cell 2 = .ok (.putfield 23, 3) := by decide +kernel
theorem dX6_cell_5 : decode cX6_cell 5 = .ok (.aload_n 0, 1) := by decide +kernel
theorem dX6_cell_6 : decode cX6_cell 6 = .ok (.iload_n 1, 1) := by decide +kernel
theorem dX6_cell_7 : decode cX6_cell 7 = .ok (.iload_n 2, 1) := by decide +kernel
theorem dX6_cell_8 : decode cX6_cell 8 = .ok (.invokevirtual 38, 3) := by decide +kernel
theorem dX6_cell_11 : decode cX6_cell 11 = .ok (.istore 4, 2) := by decide +kernel
theorem dX6_cell_13 : decode cX6_cell 13 = .ok (.iload_n 3, 1) := by decide +kernel
theorem dX6_cell_14 : decode cX6_cell 14 = .ok (.ifCond .ne 13, 3) := by decide +kernel
theorem dX6_cell_17 : decode cX6_cell 17 = .ok (.aload_n 0, 1) := by decide +kernel
theorem dX6_cell_18 : decode cX6_cell 18 = .ok (.getfield 7, 3) := by decide +kernel
theorem dX6_cell_21 : decode cX6_cell 21 = .ok (.iload 4, 2) := by decide +kernel
theorem dX6_cell_23 : decode cX6_cell 23 = .ok (.iaload, 1) := by decide +kernel
theorem dX6_cell_24 : decode cX6_cell 24 = .ok (.goto 36, 3) := by decide +kernel
theorem dX6_cell_27 : decode cX6_cell 27 = .ok (.iload_n 3, 1) := by decide +kernel
theorem dX6_cell_28 : decode cX6_cell 28 = .ok (.iconst 1, 1) := by decide +kernel
theorem dX6_cell_29 : decode cX6_cell 29 = .ok (.if_icmp .ne 16, 3) := by decide +kernel
theorem dX6_cell_32 : decode cX6_cell 32 = .ok (.aload_n 0, 1) := by decide +kernel
theorem dX6_cell_33 : decode cX6_cell 33 = .ok (.getfield 7, 3) := by decide +kernel
theorem dX6_cell_36 : decode cX6_cell 36 = .ok (.bipush 100, 2) := by decide +kernel
theorem dX6_cell_38 : decode cX6_cell 38 = .ok (.iload 4, 2) := by decide +kernel
theorem dX6_cell_40 : decode cX6_cell 40 = .ok (.iadd, 1) := by decide +kernel
theorem dX6_cell_41 : decode cX6_cell 41 = .ok (.iaload, 1) := by decide +kernel
theorem dX6_cell_42 : decode cX6_cell 42 = .ok (.goto 18, 3) := by decide +kernel
theorem dX6_cell_45 : decode cX6_cell 45 = .ok (.iload_n 3, 1) := by decide +kernel
theorem dX6_cell_46 : decode cX6_cell 46 = .ok (.iconst 2, 1) := by decide +kernel
theorem dX6_cell_47 : decode cX6_cell 47 = .ok (.if_icmp .ne 12, 3) := by decide +kernel
theorem dX6_cell_50 : decode cX6_cell 50 = .ok (.aload_n 0, 1) := by decide +kernel
theorem dX6_cell_51 : decode cX6_cell 51 = .ok (.iload 4, 2) := by decide +kernel
theorem dX6_cell_53 : decode cX6_cell 53 = .ok (.invokevirtual 51, 3) := by decide +kernel
theorem dX6_cell_56 : decode cX6_cell 56 = .ok (.goto 4, 3) := by decide +kernel
theorem dX6_cell_59 : decode cX6_cell 59 = .ok (.iconst (-1), 1) := by decide +kernel
theorem dX6_cell_60 : decode cX6_cell 60 = .ok (.ireturn, 1) := by decide +kernel
def fn_X6_cell (L : cp_Lay) (q : Nat) (k0 : Nat) (x1 : Int32) (x2 : Int32) (x3 : Int32) (D : cp_Dt) : Option (Int32 × cp_Dt) :=
  (cp_pI L D k0 6 0 (0 : Int32)).bind fun D1 =>
  (cp_fl L k0 6).bind fun f2 =>
  (fn_X6_cellAt L q k0 x1 x2 D1).bind fun y3 =>
  if x3 = 0 then ((cp_gR L k0 6 3).bind fun r11 =>
  (cp_aI L y3.2 0 r11 y3.1).bind fun v12 =>
  some (v12, y3.2))
  else (if x3 = (1 : Int32) then ((cp_gR L k0 6 3).bind fun r9 =>
  (cp_aI L y3.2 0 r9 ((100 : Int32) + y3.1)).bind fun v10 =>
  some (v10, y3.2))
  else (if x3 = (2 : Int32) then ((cp_fl L k0 6).bind fun f7 =>
  (fn_X6_inCell L q k0 y3.1 y3.2).bind fun y8 =>
  some (y8.1, y8.2))
  else (some ((-1 : Int32), y3.2))))
set_option maxHeartbeats 4000000 in
set_option maxRecDepth 100000 in
theorem ct_X6_cell (l : Launch) (G : va_G) (L : cp_Lay) (hJ : cp_J L) (q : Nat) (k0 : Nat) (x1 : Int32) (x2 : Int32) (x3 : Int32) (D : cp_Dt) (res : Int32 × cp_Dt) (hF : fn_X6_cell L q k0 x1 x2 x3 D = some res) : cp_Met l G yX6_cell wsX6_cell ({ frames := 2, cells := 0, slots := 0, locals := 44 }) L ([.ref (L.2.1 k0), .int x1, .int x2, .int x3] : List Value) D res.2 (some (.int res.1)) := by
  refine Met.ofW (cc := cX6_cell) (maxL := 5) (ret := (some .int)) (by decide) rfl ?_
  intro p e s m args below meth c s₁ B hml hv
  obtain ⟨rfl, hP, hK, hN, hZ⟩ := hv
  have hx := B.exec
  have hb := B.bytes
  have hr := B.returns
  have hts := atoms_spec (ws := wsX6_cell) B.pre
  have hown : s.vm.findClass "CreaturePondModel" = some m.cls := findClass_of_methodNamed B.named
  have hlocks := B.notSynchronized
  have hS : va_S (cp_A L) s.heap s.heap [] := va_S.rf
  have htT : ∀ w ∈ cp_T, w.before ([.ref (L.2.1 k0), .int x1, .int x2, .int x3] : List Value).toArray s = true := fun w h => hts w (List.mem_cons_of_mem _ h)
  have hl := lv_entry (([.ref (L.2.1 k0), .int x1, .int x2, .int x3] : List Value)) (n := 5) (Nat.le_of_ble_eq_true rfl)
  rw [lg_entry_eq]
  generalize (lg_sl (([.ref (L.2.1 k0), .int x1, .int x2, .int x3] : List Value)) ++ List.replicate (5 - (lg_sl (([.ref (L.2.1 k0), .int x1, .int x2, .int x3] : List Value))).length) Slot.unset).toArray = ls at hl ⊢
  have hl : lv_has ls 5 [(0, .ref (L.2.1 k0)), (1, .int x1), (2, .int x2), (3, .int x3)] := hl
  unfold fn_X6_cell at hF
  refine lv_aload_n hx hb dX6_cell_0 rfl (lv_at hl 0 rfl) ?_
  refine lv_iconst (v := (0 : Int32)) hx hb dX6_cell_1 (by decide) ?_
  obtain ⟨D1, eD1, hF⟩ := cp_bind hF
  refine cp_put (T := TX6) (N := 6) (ci := 6) (j := 0) hx hb htT hinX6 tyX6 tyX6_ok nmX6 hown hK hJ hP hS rfl (by decide) rfl (htT _ tw_375) rfl rfl rfl eD1 dX6_cell_2 (fun H locs hP hS => ?_)
  refine lv_aload_n hx hb dX6_cell_5 rfl (lv_at hl 0 rfl) ?_
  refine lv_iload_n hx hb dX6_cell_6 rfl (lv_at hl 1 rfl) ?_
  refine lv_iload_n hx hb dX6_cell_7 rfl (lv_at hl 2 rfl) ?_
  obtain ⟨f2, ef2, hF⟩ := cp_bind hF
  obtain ⟨y3, ey3, hF⟩ := cp_bind hF
  refine cp_call (st1 := [.int y3.1]) (va_runV (As := [.int x1, .int x2]) (rest := []) ⟨hx, hb, hml, hown, htT⟩ (ct_X6_cellAt l G L hJ q k0 x1 x2 D1 y3 ey3) ⟨callB_of 2 htT gdX6_cellAt rfl rfl rfl (htT _ tw_8) (htT _ tw_404) hdX6_cellAt ⟨Nat.le_of_ble_eq_true rfl, Nat.le_of_ble_eq_true rfl⟩, (htT _ tw_405), (htT _ tw_573)⟩ ⟨cp_blind, cp_recv hK hP rfl ef2, cp_pre hP hK hN hZ hS⟩ rfl rfl hl.1 rfl (lv_room (Nat.le_of_ble_eq_true rfl)) dX6_cell_8 ⟨Nat.zero_le _, Nat.zero_le _⟩) hS (fun H locs hP hS => ?_)
  refine lv_istore (lv' := [(4, .int y3.1), (0, .ref (L.2.1 k0)), (1, .int x1), (2, .int x2), (3, .int x3)]) hx hb dX6_cell_11 hl (by decide) rfl (fun ls hl => ?_)
  refine lv_iload_n hx hb dX6_cell_13 rfl (lv_at hl 4 rfl) ?_
  refine lv_if_ne (tgt := 27) hx hb dX6_cell_14 (by decide) (fun hc4 => ?_) (fun hc4 => ?_)
  · rw [if_neg hc4] at hF
    refine lv_iload_n hx hb dX6_cell_27 rfl (lv_at hl 4 rfl) ?_
    refine lv_iconst (v := (1 : Int32)) hx hb dX6_cell_28 (by decide) ?_
    refine lv_icmp_ne (tgt := 45) hx hb dX6_cell_29 (by decide) (fun hc5 => ?_) (fun hc5 => ?_)
    · rw [if_neg hc5] at hF
      refine lv_iload_n hx hb dX6_cell_45 rfl (lv_at hl 4 rfl) ?_
      refine lv_iconst (v := (2 : Int32)) hx hb dX6_cell_46 (by decide) ?_
      refine lv_icmp_ne (tgt := 59) hx hb dX6_cell_47 (by decide) (fun hc6 => ?_) (fun hc6 => ?_)
      · rw [if_neg hc6] at hF
        refine lv_iconst (v := (-1 : Int32)) hx hb dX6_cell_59 (by decide) ?_
        exact cp_iret hx hb hr hlocks hF hP hS dX6_cell_60
      · rw [if_pos hc6] at hF
        refine lv_aload_n hx hb dX6_cell_50 rfl (lv_at hl 1 rfl) ?_
        refine lv_iload hx hb dX6_cell_51 (lv_at hl 0 rfl) ?_
        obtain ⟨f7, ef7, hF⟩ := cp_bind hF
        obtain ⟨y8, ey8, hF⟩ := cp_bind hF
        refine cp_call (st1 := [.int y8.1]) (va_runV (As := [.int y3.1]) (rest := []) ⟨hx, hb, hml, hown, htT⟩ (ct_X6_inCell l G L hJ q k0 y3.1 y3.2 y8 ey8) ⟨callB_of 1 htT gdX6_inCell rfl rfl rfl (htT _ tw_8) (htT _ tw_414) hdX6_inCell ⟨Nat.le_of_ble_eq_true rfl, Nat.le_of_ble_eq_true rfl⟩, (htT _ tw_415), (htT _ tw_574)⟩ ⟨cp_blind, cp_recv hK hP rfl ef7, cp_pre hP hK hN hZ hS⟩ rfl rfl hl.1 rfl (lv_room (Nat.le_of_ble_eq_true rfl)) dX6_cell_53 ⟨Nat.zero_le _, Nat.zero_le _⟩) hS (fun H locs hP hS => ?_)
        refine lv_goto (tgt := 60) hx hb dX6_cell_56 (by decide) ?_
        exact cp_iret hx hb hr hlocks hF hP hS dX6_cell_60
    · rw [if_pos hc5] at hF
      refine lv_aload_n hx hb dX6_cell_32 rfl (lv_at hl 1 rfl) ?_
      obtain ⟨r9, er9, hF⟩ := cp_bind hF
      refine cp_getR (T := TX6) (N := 6) (ci := 6) (j := 3) hx hb htT hinX6 hown hK hP rfl (by decide) rfl (htT _ tw_378) er9 dX6_cell_33 ?_
      refine lv_bipush (v := (100 : Int32)) hx hb dX6_cell_36 (by decide) ?_
      refine lv_iload hx hb dX6_cell_38 (lv_at hl 0 rfl) ?_
      refine lv_iadd hx hb dX6_cell_40 ?_
      obtain ⟨v10, ev10, hF⟩ := cp_bind hF
      refine cp_iald hx hb hK hP ev10 dX6_cell_41 ?_
      refine lv_goto (tgt := 60) hx hb dX6_cell_42 (by decide) ?_
      exact cp_iret hx hb hr hlocks hF hP hS dX6_cell_60
  · rw [if_pos hc4] at hF
    refine lv_aload_n hx hb dX6_cell_17 rfl (lv_at hl 1 rfl) ?_
    obtain ⟨r11, er11, hF⟩ := cp_bind hF
    refine cp_getR (T := TX6) (N := 6) (ci := 6) (j := 3) hx hb htT hinX6 hown hK hP rfl (by decide) rfl (htT _ tw_378) er11 dX6_cell_18 ?_
    refine lv_iload hx hb dX6_cell_21 (lv_at hl 0 rfl) ?_
    obtain ⟨v12, ev12, hF⟩ := cp_bind hF
    refine cp_iald hx hb hK hP ev12 dX6_cell_23 ?_
    refine lv_goto (tgt := 60) hx hb dX6_cell_24 (by decide) ?_
    exact cp_iret hx hb hr hlocks hF hP hS dX6_cell_60
theorem dX6_differ_0 : decode cX6_differ 0 = .ok (.aload_n 0, 1) := by decide +kernel
theorem dX6_differ_1 : decode cX6_differ 1 = .ok (.aload_n 0, 1) := by decide +kernel
theorem dX6_differ_2 : decode cX6_differ 2 = .ok (.getfield 115, 3) := by decide +kernel
theorem dX6_differ_5 : decode cX6_differ 5 = .ok (.ifCond .eq 7, 3) := by decide +kernel
theorem dX6_differ_8 : decode cX6_differ 8 = .ok (.iconst 0, 1) := by decide +kernel
theorem dX6_differ_9 : decode cX6_differ 9 = .ok (.goto 4, 3) := by decide +kernel
theorem dX6_differ_12 : decode cX6_differ 12 = .ok (.iconst 1, 1) := by decide +kernel
theorem dX6_differ_13 : decode cX6_differ 13 = .ok (.putfield 23, 3) := by decide +kernel
theorem dX6_differ_16 : decode cX6_differ 16 = .ok (.aload_n 0, 1) := by decide +kernel
theorem dX6_differ_17 : decode cX6_differ 17 = .ok (.getfield 23, 3) := by decide +kernel
theorem dX6_differ_20 : decode cX6_differ 20 = .ok (.ifCond .le 5, 3) := by decide +kernel
theorem dX6_differ_23 : decode cX6_differ 23 = .ok (.iconst 0, 1) := by decide +kernel
theorem dX6_differ_24 : decode cX6_differ 24 = .ok (.ireturn, 1) := by decide +kernel
theorem dX6_differ_25 : decode cX6_differ 25 = .ok (.iconst 0, 1) := by decide +kernel
theorem dX6_differ_26 : decode cX6_differ 26 = .ok (.istore_n 1, 1) := by decide +kernel
theorem dX6_differ_27 : decode cX6_differ 27 = .ok (.iload_n 1, 1) := by decide +kernel
theorem dX6_differ_28 : decode cX6_differ 28 = .ok (.aload_n 0, 1) := by decide +kernel
theorem dX6_differ_29 : decode cX6_differ 29 = .ok (.getfield 16, 3) := by decide +kernel
theorem dX6_differ_32 : decode cX6_differ 32 = .ok (.aload_n 0, 1) := by decide +kernel
theorem dX6_differ_33 : decode cX6_differ 33 = .ok (.getfield 20, 3) := by decide +kernel
theorem dX6_differ_36 : decode cX6_differ 36 = .ok (.imul, 1) := by decide +kernel
theorem dX6_differ_37 : decode cX6_differ 37 = .ok (.if_icmp .ge 142, 3) := by decide +kernel
theorem dX6_differ_40 : decode cX6_differ 40 = .ok (.aload_n 0, 1) := by decide +kernel
theorem dX6_differ_41 : decode cX6_differ 41 = .ok (.iload_n 1, 1) := by decide +kernel
theorem dX6_differ_42 : decode cX6_differ 42 = .ok (.invokevirtual 51, 3) := by decide +kernel
theorem dX6_differ_45 : decode cX6_differ 45 = .ok (.istore_n 2, 1) := by decide +kernel
theorem dX6_differ_46 : decode cX6_differ 46 = .ok (.aload_n 0, 1) := by decide +kernel
theorem dX6_differ_47 : decode cX6_differ 47 = .ok (.iload_n 1, 1) := by decide +kernel
theorem dX6_differ_48 : decode cX6_differ 48 = .ok (.invokevirtual 119, 3) := by decide +kernel
theorem dX6_differ_51 : decode cX6_differ 51 = .ok (.istore_n 3, 1) := by decide +kernel
theorem dX6_differ_52 : decode cX6_differ 52 = .ok (.aload_n 0, 1) := by decide +kernel
theorem dX6_differ_53 : decode cX6_differ 53 = .ok (.getfield 7, 3) := by decide +kernel
theorem dX6_differ_56 : decode cX6_differ 56 = .ok (.iload_n 1, 1) := by decide +kernel
theorem dX6_differ_57 : decode cX6_differ 57 = .ok (.iaload, 1) := by decide +kernel
theorem dX6_differ_58 : decode cX6_differ 58 = .ok (.aload_n 0, 1) := by decide +kernel
theorem dX6_differ_59 : decode cX6_differ 59 = .ok (.getfield 13, 3) := by decide +kernel
theorem dX6_differ_62 : decode cX6_differ 62 = .ok (.iload_n 1, 1) := by decide +kernel
theorem dX6_differ_63 : decode cX6_differ 63 = .ok (.iaload, 1) := by decide +kernel
theorem dX6_differ_64 : decode cX6_differ 64 = .ok (.if_icmp .ne 33, 3) := by decide +kernel
theorem dX6_differ_67 : decode cX6_differ 67 = .ok (.aload_n 0, 1) := by decide +kernel
theorem dX6_differ_68 : decode cX6_differ 68 = .ok (.getfield 7, 3) := by decide +kernel
theorem dX6_differ_71 : decode cX6_differ 71 = .ok (.bipush 100, 2) := by decide +kernel
theorem dX6_differ_73 : decode cX6_differ 73 = .ok (.iload_n 1, 1) := by decide +kernel
theorem dX6_differ_74 : decode cX6_differ 74 = .ok (.iadd, 1) := by decide +kernel
theorem dX6_differ_75 : decode cX6_differ 75 = .ok (.iaload, 1) := by decide +kernel
theorem dX6_differ_76 : decode cX6_differ 76 = .ok (.aload_n 0, 1) := by decide +kernel
theorem dX6_differ_77 : decode cX6_differ 77 = .ok (.getfield 13, 3) := by decide +kernel
theorem dX6_differ_80 : decode cX6_differ 80 = .ok (.bipush 100, 2) := by decide +kernel
theorem dX6_differ_82 : decode cX6_differ 82 = .ok (.iload_n 1, 1) := by decide +kernel
theorem dX6_differ_83 : decode cX6_differ 83 = .ok (.iadd, 1) := by decide +kernel
theorem dX6_differ_84 : decode cX6_differ 84 = .ok (.iaload, 1) := by decide +kernel
theorem dX6_differ_85 : decode cX6_differ 85 = .ok (.if_icmp .ne 12, 3) := by decide +kernel
theorem dX6_differ_88 : decode cX6_differ 88 = .ok (.iload_n 2, 1) := by decide +kernel
theorem dX6_differ_89 : decode cX6_differ 89 = .ok (.iload_n 3, 1) := by decide +kernel
theorem dX6_differ_90 : decode cX6_differ 90 = .ok (.if_icmp .ne 7, 3) := by decide +kernel
theorem dX6_differ_93 : decode cX6_differ 93 = .ok (.iconst 1, 1) := by decide +kernel
theorem dX6_differ_94 : decode cX6_differ 94 = .ok (.goto 4, 3) := by decide +kernel
theorem dX6_differ_97 : decode cX6_differ 97 = .ok (.iconst 0, 1) := by decide +kernel
theorem dX6_differ_98 : decode cX6_differ 98 = .ok (.istore 4, 2) := by decide +kernel
theorem dX6_differ_100 : decode cX6_differ 100 = .ok (.iload_n 2, 1) := by decide +kernel
theorem dX6_differ_101 : decode cX6_differ 101 = .ok (.ifCond .lt 65, 3) := by decide +kernel
theorem dX6_differ_104 : decode cX6_differ 104 = .ok (.iload 4, 2) := by decide +kernel
theorem dX6_differ_106 : decode cX6_differ 106 = .ok (.ifCond .eq 60, 3) := by decide +kernel
theorem dX6_differ_109 : decode cX6_differ 109 = .ok (.aload_n 0, 1) := by decide +kernel
theorem dX6_differ_110 : decode cX6_differ 110 = .ok (.getfield 7, 3) := by decide +kernel
theorem dX6_differ_113 : decode cX6_differ 113 = .ok (.iload_n 2, 1) := by decide +kernel
theorem dX6_differ_114 : decode cX6_differ 114 = .ok (.invokestatic 30, 3) := by decide +kernel
theorem dX6_differ_117 : decode cX6_differ 117 = .ok (.iconst 1, 1) := by decide +kernel
theorem dX6_differ_118 : decode cX6_differ 118 = .ok (.iadd, 1) := by decide +kernel
theorem dX6_differ_119 : decode cX6_differ 119 = .ok (.iaload, 1) := by decide +kernel
theorem dX6_differ_120 : decode cX6_differ 120 = .ok (.aload_n 0, 1) := by decide +kernel
theorem dX6_differ_121 : decode cX6_differ 121 = .ok (.getfield 13, 3) := by decide +kernel
theorem dX6_differ_124 : decode cX6_differ 124 = .ok (.iload_n 2, 1) := by decide +kernel
theorem dX6_differ_125 : decode cX6_differ 125 = .ok (.invokestatic 30, 3) := by decide +kernel
theorem dX6_differ_128 : decode cX6_differ 128 = .ok (.iconst 1, 1) := by decide +kernel
theorem dX6_differ_129 : decode cX6_differ 129 = .ok (.iadd, 1) := by decide +kernel
theorem dX6_differ_130 : decode cX6_differ 130 = .ok (.iaload, 1) := by decide +kernel
theorem dX6_differ_131 : decode cX6_differ 131 = .ok (.if_icmp .ne 32, 3) := by decide +kernel
theorem dX6_differ_134 : decode cX6_differ 134 = .ok (.aload_n 0, 1) := by decide +kernel
theorem dX6_differ_135 : decode cX6_differ 135 = .ok (.getfield 7, 3) := by decide +kernel
theorem dX6_differ_138 : decode cX6_differ 138 = .ok (.iload_n 2, 1) := by decide +kernel
theorem dX6_differ_139 : decode cX6_differ 139 = .ok (.invokestatic 30, 3) := by decide +kernel
theorem dX6_differ_142 : decode cX6_differ 142 = .ok (.iconst 2, 1) := by decide +kernel
theorem dX6_differ_143 : decode cX6_differ 143 = .ok (.iadd, 1) := by decide +kernel
theorem dX6_differ_144 : decode cX6_differ 144 = .ok (.iaload, 1) := by decide +kernel
theorem dX6_differ_145 : decode cX6_differ 145 = .ok (.aload_n 0, 1) := by decide +kernel
theorem dX6_differ_146 : decode cX6_differ 146 = .ok (.getfield 13, 3) := by decide +kernel
theorem dX6_differ_149 : decode cX6_differ 149 = .ok (.iload_n 2, 1) := by decide +kernel
theorem dX6_differ_150 : decode cX6_differ 150 = .ok (.invokestatic 30, 3) := by decide +kernel
theorem dX6_differ_153 : decode cX6_differ 153 = .ok (.iconst 2, 1) := by decide +kernel
theorem dX6_differ_154 : decode cX6_differ 154 = .ok (.iadd, 1) := by decide +kernel
theorem dX6_differ_155 : decode cX6_differ 155 = .ok (.iaload, 1) := by decide +kernel
theorem dX6_differ_156 : decode cX6_differ 156 = .ok (.if_icmp .ne 7, 3) := by decide +kernel
theorem dX6_differ_159 : decode cX6_differ 159 = .ok (.iconst 1, 1) := by decide +kernel
theorem dX6_differ_160 : decode cX6_differ 160 = .ok (.goto 4, 3) := by decide +kernel
theorem dX6_differ_163 : decode cX6_differ 163 = .ok (.iconst 0, 1) := by decide +kernel
theorem dX6_differ_164 : decode cX6_differ 164 = .ok (.istore 4, 2) := by decide +kernel
theorem dX6_differ_166 : decode cX6_differ 166 = .ok (.iload 4, 2) := by decide +kernel
theorem dX6_differ_168 : decode cX6_differ 168 = .ok (.ifCond .ne 5, 3) := by decide +kernel
theorem dX6_differ_171 : decode cX6_differ 171 = .ok (.iload_n 1, 1) := by decide +kernel
theorem dX6_differ_172 : decode cX6_differ 172 = .ok (.ireturn, 1) := by decide +kernel
theorem dX6_differ_173 : decode cX6_differ 173 = .ok (.iinc 1 1, 3) := by decide +kernel
theorem dX6_differ_176 : decode cX6_differ 176 = .ok (.goto (-149), 3) := by decide +kernel
theorem dX6_differ_179 : decode cX6_differ 179 = .ok (.iconst (-1), 1) := by decide +kernel
theorem dX6_differ_180 : decode cX6_differ 180 = .ok (.ireturn, 1) := by decide +kernel
def fn_X6_differ_L27 (L : cp_Lay) (q : Nat) : Nat → Nat → Int32 → cp_Dt → Option (Int32 × cp_Dt)
  | 0, _, _, _ => none
  | n + 1, a0, i1, D =>
    (cp_gI L D a0 6 1).bind fun v9 =>
    (cp_gI L D a0 6 2).bind fun v10 =>
    if (v9 * v10) ≤ i1 then (some ((-1 : Int32), D))
    else ((cp_fl L a0 6).bind fun f12 =>
    (fn_X6_inCell L q a0 i1 D).bind fun y13 =>
    (cp_fl L a0 6).bind fun f14 =>
    (fn_X6_wasIn L q a0 i1 y13.2).bind fun y15 =>
    (cp_gR L a0 6 3).bind fun r16 =>
    (cp_aI L y15.2 0 r16 i1).bind fun v17 =>
    (cp_gR L a0 6 5).bind fun r18 =>
    (cp_aI L y15.2 0 r18 i1).bind fun v19 =>
    if v17 = v19 then ((cp_gR L a0 6 3).bind fun r22 =>
    (cp_aI L y15.2 0 r22 ((100 : Int32) + i1)).bind fun v23 =>
    (cp_gR L a0 6 5).bind fun r24 =>
    (cp_aI L y15.2 0 r24 ((100 : Int32) + i1)).bind fun v25 =>
    if v23 = v25 then (if y13.1 = y15.1 then (if y13.1 < 0 then (fn_X6_differ_L27 L q n a0 (i1 + 1) y15.2)
    else ((cp_gR L a0 6 3).bind fun r31 =>
    (fn_X6_at L q y13.1 y15.2).bind fun y32 =>
    (cp_aI L y32.2 0 r31 (y32.1 + (1 : Int32))).bind fun v33 =>
    (cp_gR L a0 6 5).bind fun r34 =>
    (fn_X6_at L q y13.1 y32.2).bind fun y35 =>
    (cp_aI L y35.2 0 r34 (y35.1 + (1 : Int32))).bind fun v36 =>
    if v33 = v36 then ((cp_gR L a0 6 3).bind fun r38 =>
    (fn_X6_at L q y13.1 y35.2).bind fun y39 =>
    (cp_aI L y39.2 0 r38 (y39.1 + (2 : Int32))).bind fun v40 =>
    (cp_gR L a0 6 5).bind fun r41 =>
    (fn_X6_at L q y13.1 y39.2).bind fun y42 =>
    (cp_aI L y42.2 0 r41 (y42.1 + (2 : Int32))).bind fun v43 =>
    if v40 = v43 then (fn_X6_differ_L27 L q n a0 (i1 + 1) y42.2)
    else (some (i1, y42.2)))
    else (some (i1, y35.2))))
    else (if y13.1 < 0 then (some (i1, y15.2))
    else (some (i1, y15.2))))
    else (if y13.1 < 0 then (some (i1, y15.2))
    else (some (i1, y15.2))))
    else (if y13.1 < 0 then (some (i1, y15.2))
    else (some (i1, y15.2))))
def fn_X6_differ (L : cp_Lay) (q : Nat) (k0 : Nat) (D : cp_Dt) : Option (Int32 × cp_Dt) :=
  (cp_gI L D k0 6 4).bind fun v1 =>
  if v1 = 0 then ((cp_pI L D k0 6 0 (1 : Int32)).bind fun D3 =>
  (cp_gI L D3 k0 6 0).bind fun v4 =>
  if v4 ≤ 0 then (fn_X6_differ_L27 L q q k0 (0 : Int32) D3)
  else (some ((0 : Int32), D3)))
  else ((cp_pI L D k0 6 0 (0 : Int32)).bind fun D6 =>
  (cp_gI L D6 k0 6 0).bind fun v7 =>
  if v7 ≤ 0 then (fn_X6_differ_L27 L q q k0 (0 : Int32) D6)
  else (some ((0 : Int32), D6)))
set_option maxHeartbeats 4000000 in
set_option maxRecDepth 100000 in
theorem ct_X6_differ (l : Launch) (G : va_G) (L : cp_Lay) (hJ : cp_J L) (q : Nat) (k0 : Nat) (D : cp_Dt) (res : Int32 × cp_Dt) (hF : fn_X6_differ L q k0 D = some res) : cp_Met l G yX6_differ wsX6_differ ({ frames := 2, cells := 0, slots := 0, locals := 42 }) L ([.ref (L.2.1 k0)] : List Value) D res.2 (some (.int res.1)) := by
  refine Met.ofW (cc := cX6_differ) (maxL := 5) (ret := (some .int)) (by decide) rfl ?_
  intro p e s m args below meth c s₁ B hml hv
  obtain ⟨rfl, hP, hK, hN, hZ⟩ := hv
  have hx := B.exec
  have hb := B.bytes
  have hr := B.returns
  have hts := atoms_spec (ws := wsX6_differ) B.pre
  have hown : s.vm.findClass "CreaturePondModel" = some m.cls := findClass_of_methodNamed B.named
  have hlocks := B.notSynchronized
  have hS : va_S (cp_A L) s.heap s.heap [] := va_S.rf
  have htT : ∀ w ∈ cp_T, w.before ([.ref (L.2.1 k0)] : List Value).toArray s = true := fun w h => hts w (List.mem_cons_of_mem _ h)
  have hl := lv_entry (([.ref (L.2.1 k0)] : List Value)) (n := 5) (Nat.le_of_ble_eq_true rfl)
  rw [lg_entry_eq]
  generalize (lg_sl (([.ref (L.2.1 k0)] : List Value)) ++ List.replicate (5 - (lg_sl (([.ref (L.2.1 k0)] : List Value))).length) Slot.unset).toArray = ls at hl ⊢
  have hl : lv_has ls 5 [(0, .ref (L.2.1 k0))] := hl
  have hL27 : ∀ (n : Nat) (a0 : Nat) (i1 : Int32) (D : cp_Dt) (H : Heap) (locs : List Loc) (ls : Array Slot), fn_X6_differ_L27 L q n a0 i1 D = some res → va_P G vwCl (cp_ws L D) H → va_S (cp_A L) s.heap H locs → lv_has ls 5 [(0, .ref (L.2.1 a0)), (1, .int i1)] → W p l e (headSpec wsX6_differ ({ frames := 2, cells := 0, slots := 0, locals := 42 })).room s m ([.ref (L.2.1 k0)] : List Value).toArray below meth c H locs 0 0 (MQ below (cp_Q G L res.2 (some (.int res.1))) ([.ref (L.2.1 k0)] : List Value).toArray s 0 0 (cp_A L)) (F0 m 27 ls []) := by
    intro n
    induction n with
    | zero =>
      intro a0 i1 D H locs ls hF
      cases hF
    | succ n ih =>
      intro a0 i1 D H locs ls hF hP hS hl
      unfold fn_X6_differ_L27 at hF
      refine lv_iload_n hx hb dX6_differ_27 rfl (lv_at hl 1 rfl) ?_
      refine lv_aload_n hx hb dX6_differ_28 rfl (lv_at hl 0 rfl) ?_
      obtain ⟨v9, ev9, hF⟩ := cp_bind hF
      refine cp_getI (T := TX6) (N := 6) (ci := 6) (j := 1) hx hb htT hinX6 hown hK hP rfl (by decide) rfl (htT _ tw_376) ev9 dX6_differ_29 ?_
      refine lv_aload_n hx hb dX6_differ_32 rfl (lv_at hl 0 rfl) ?_
      obtain ⟨v10, ev10, hF⟩ := cp_bind hF
      refine cp_getI (T := TX6) (N := 6) (ci := 6) (j := 2) hx hb htT hinX6 hown hK hP rfl (by decide) rfl (htT _ tw_377) ev10 dX6_differ_33 ?_
      refine lv_imul hx hb dX6_differ_36 ?_
      refine lv_icmp_ge (tgt := 179) hx hb dX6_differ_37 (by decide) (fun hc11 => ?_) (fun hc11 => ?_)
      · rw [if_pos hc11] at hF
        refine lv_iconst (v := (-1 : Int32)) hx hb dX6_differ_179 (by decide) ?_
        exact cp_iret hx hb hr hlocks hF hP hS dX6_differ_180
      · rw [if_neg hc11] at hF
        refine lv_aload_n hx hb dX6_differ_40 rfl (lv_at hl 0 rfl) ?_
        refine lv_iload_n hx hb dX6_differ_41 rfl (lv_at hl 1 rfl) ?_
        obtain ⟨f12, ef12, hF⟩ := cp_bind hF
        obtain ⟨y13, ey13, hF⟩ := cp_bind hF
        refine cp_call (st1 := [.int y13.1]) (va_runV (As := [.int i1]) (rest := []) ⟨hx, hb, hml, hown, htT⟩ (ct_X6_inCell l G L hJ q a0 i1 D y13 ey13) ⟨callB_of 1 htT gdX6_inCell rfl rfl rfl (htT _ tw_8) (htT _ tw_414) hdX6_inCell ⟨Nat.le_of_ble_eq_true rfl, Nat.le_of_ble_eq_true rfl⟩, (htT _ tw_415), (htT _ tw_574)⟩ ⟨cp_blind, cp_recv hK hP rfl ef12, cp_pre hP hK hN hZ hS⟩ rfl rfl hl.1 rfl (lv_room (Nat.le_of_ble_eq_true rfl)) dX6_differ_42 ⟨Nat.zero_le _, Nat.zero_le _⟩) hS (fun H locs hP hS => ?_)
        refine lv_istore_n (lv' := [(2, .int y13.1), (0, .ref (L.2.1 a0)), (1, .int i1)]) hx hb dX6_differ_45 rfl hl (by decide) rfl (fun ls hl => ?_)
        refine lv_aload_n hx hb dX6_differ_46 rfl (lv_at hl 1 rfl) ?_
        refine lv_iload_n hx hb dX6_differ_47 rfl (lv_at hl 2 rfl) ?_
        obtain ⟨f14, ef14, hF⟩ := cp_bind hF
        obtain ⟨y15, ey15, hF⟩ := cp_bind hF
        refine cp_call (st1 := [.int y15.1]) (va_runV (As := [.int i1]) (rest := []) ⟨hx, hb, hml, hown, htT⟩ (ct_X6_wasIn l G L hJ q a0 i1 y13.2 y15 ey15) ⟨callB_of 1 htT gdX6_wasIn rfl rfl rfl (htT _ tw_8) (htT _ tw_519) hdX6_wasIn ⟨Nat.le_of_ble_eq_true rfl, Nat.le_of_ble_eq_true rfl⟩, (htT _ tw_520), (htT _ tw_595)⟩ ⟨cp_blind, cp_recv hK hP rfl ef14, cp_pre hP hK hN hZ hS⟩ rfl rfl hl.1 rfl (lv_room (Nat.le_of_ble_eq_true rfl)) dX6_differ_48 ⟨Nat.zero_le _, Nat.zero_le _⟩) hS (fun H locs hP hS => ?_)
        refine lv_istore_n (lv' := [(3, .int y15.1), (2, .int y13.1), (0, .ref (L.2.1 a0)), (1, .int i1)]) hx hb dX6_differ_51 rfl hl (by decide) rfl (fun ls hl => ?_)
        refine lv_aload_n hx hb dX6_differ_52 rfl (lv_at hl 2 rfl) ?_
        obtain ⟨r16, er16, hF⟩ := cp_bind hF
        refine cp_getR (T := TX6) (N := 6) (ci := 6) (j := 3) hx hb htT hinX6 hown hK hP rfl (by decide) rfl (htT _ tw_378) er16 dX6_differ_53 ?_
        refine lv_iload_n hx hb dX6_differ_56 rfl (lv_at hl 3 rfl) ?_
        obtain ⟨v17, ev17, hF⟩ := cp_bind hF
        refine cp_iald hx hb hK hP ev17 dX6_differ_57 ?_
        refine lv_aload_n hx hb dX6_differ_58 rfl (lv_at hl 2 rfl) ?_
        obtain ⟨r18, er18, hF⟩ := cp_bind hF
        refine cp_getR (T := TX6) (N := 6) (ci := 6) (j := 5) hx hb htT hinX6 hown hK hP rfl (by decide) rfl (htT _ tw_380) er18 dX6_differ_59 ?_
        refine lv_iload_n hx hb dX6_differ_62 rfl (lv_at hl 3 rfl) ?_
        obtain ⟨v19, ev19, hF⟩ := cp_bind hF
        refine cp_iald hx hb hK hP ev19 dX6_differ_63 ?_
        refine lv_icmp_ne (tgt := 97) hx hb dX6_differ_64 (by decide) (fun hc20 => ?_) (fun hc20 => ?_)
        · rw [if_neg hc20] at hF
          refine lv_iconst (v := (0 : Int32)) hx hb dX6_differ_97 (by decide) ?_
          refine lv_istore (lv' := [(4, .int (0 : Int32)), (3, .int y15.1), (2, .int y13.1), (0, .ref (L.2.1 a0)), (1, .int i1)]) hx hb dX6_differ_98 hl (by decide) rfl (fun ls hl => ?_)
          refine lv_iload_n hx hb dX6_differ_100 rfl (lv_at hl 2 rfl) ?_
          refine lv_if_lt (tgt := 166) hx hb dX6_differ_101 (by decide) (fun hc21 => ?_) (fun hc21 => ?_)
          · rw [if_pos hc21] at hF
            refine lv_iload hx hb dX6_differ_166 (lv_at hl 0 rfl) ?_
            refine lv_if_ne (tgt := 173) hx hb dX6_differ_168 (by decide) (fun hc => absurd hc (by decide)) (fun _ => ?_)
            refine lv_iload_n hx hb dX6_differ_171 rfl (lv_at hl 4 rfl) ?_
            exact cp_iret hx hb hr hlocks hF hP hS dX6_differ_172
          · rw [if_neg hc21] at hF
            refine lv_iload hx hb dX6_differ_104 (lv_at hl 0 rfl) ?_
            refine lv_if_eq (tgt := 166) hx hb dX6_differ_106 (by decide) (fun _ => ?_) (fun hc => absurd hc (by decide))
            refine lv_iload hx hb dX6_differ_166 (lv_at hl 0 rfl) ?_
            refine lv_if_ne (tgt := 173) hx hb dX6_differ_168 (by decide) (fun hc => absurd hc (by decide)) (fun _ => ?_)
            refine lv_iload_n hx hb dX6_differ_171 rfl (lv_at hl 4 rfl) ?_
            exact cp_iret hx hb hr hlocks hF hP hS dX6_differ_172
        · rw [if_pos hc20] at hF
          refine lv_aload_n hx hb dX6_differ_67 rfl (lv_at hl 2 rfl) ?_
          obtain ⟨r22, er22, hF⟩ := cp_bind hF
          refine cp_getR (T := TX6) (N := 6) (ci := 6) (j := 3) hx hb htT hinX6 hown hK hP rfl (by decide) rfl (htT _ tw_378) er22 dX6_differ_68 ?_
          refine lv_bipush (v := (100 : Int32)) hx hb dX6_differ_71 (by decide) ?_
          refine lv_iload_n hx hb dX6_differ_73 rfl (lv_at hl 3 rfl) ?_
          refine lv_iadd hx hb dX6_differ_74 ?_
          obtain ⟨v23, ev23, hF⟩ := cp_bind hF
          refine cp_iald hx hb hK hP ev23 dX6_differ_75 ?_
          refine lv_aload_n hx hb dX6_differ_76 rfl (lv_at hl 2 rfl) ?_
          obtain ⟨r24, er24, hF⟩ := cp_bind hF
          refine cp_getR (T := TX6) (N := 6) (ci := 6) (j := 5) hx hb htT hinX6 hown hK hP rfl (by decide) rfl (htT _ tw_380) er24 dX6_differ_77 ?_
          refine lv_bipush (v := (100 : Int32)) hx hb dX6_differ_80 (by decide) ?_
          refine lv_iload_n hx hb dX6_differ_82 rfl (lv_at hl 3 rfl) ?_
          refine lv_iadd hx hb dX6_differ_83 ?_
          obtain ⟨v25, ev25, hF⟩ := cp_bind hF
          refine cp_iald hx hb hK hP ev25 dX6_differ_84 ?_
          refine lv_icmp_ne (tgt := 97) hx hb dX6_differ_85 (by decide) (fun hc26 => ?_) (fun hc26 => ?_)
          · rw [if_neg hc26] at hF
            refine lv_iconst (v := (0 : Int32)) hx hb dX6_differ_97 (by decide) ?_
            refine lv_istore (lv' := [(4, .int (0 : Int32)), (3, .int y15.1), (2, .int y13.1), (0, .ref (L.2.1 a0)), (1, .int i1)]) hx hb dX6_differ_98 hl (by decide) rfl (fun ls hl => ?_)
            refine lv_iload_n hx hb dX6_differ_100 rfl (lv_at hl 2 rfl) ?_
            refine lv_if_lt (tgt := 166) hx hb dX6_differ_101 (by decide) (fun hc27 => ?_) (fun hc27 => ?_)
            · rw [if_pos hc27] at hF
              refine lv_iload hx hb dX6_differ_166 (lv_at hl 0 rfl) ?_
              refine lv_if_ne (tgt := 173) hx hb dX6_differ_168 (by decide) (fun hc => absurd hc (by decide)) (fun _ => ?_)
              refine lv_iload_n hx hb dX6_differ_171 rfl (lv_at hl 4 rfl) ?_
              exact cp_iret hx hb hr hlocks hF hP hS dX6_differ_172
            · rw [if_neg hc27] at hF
              refine lv_iload hx hb dX6_differ_104 (lv_at hl 0 rfl) ?_
              refine lv_if_eq (tgt := 166) hx hb dX6_differ_106 (by decide) (fun _ => ?_) (fun hc => absurd hc (by decide))
              refine lv_iload hx hb dX6_differ_166 (lv_at hl 0 rfl) ?_
              refine lv_if_ne (tgt := 173) hx hb dX6_differ_168 (by decide) (fun hc => absurd hc (by decide)) (fun _ => ?_)
              refine lv_iload_n hx hb dX6_differ_171 rfl (lv_at hl 4 rfl) ?_
              exact cp_iret hx hb hr hlocks hF hP hS dX6_differ_172
          · rw [if_pos hc26] at hF
            refine lv_iload_n hx hb dX6_differ_88 rfl (lv_at hl 1 rfl) ?_
            refine lv_iload_n hx hb dX6_differ_89 rfl (lv_at hl 0 rfl) ?_
            refine lv_icmp_ne (tgt := 97) hx hb dX6_differ_90 (by decide) (fun hc28 => ?_) (fun hc28 => ?_)
            · rw [if_neg hc28] at hF
              refine lv_iconst (v := (0 : Int32)) hx hb dX6_differ_97 (by decide) ?_
              refine lv_istore (lv' := [(4, .int (0 : Int32)), (3, .int y15.1), (2, .int y13.1), (0, .ref (L.2.1 a0)), (1, .int i1)]) hx hb dX6_differ_98 hl (by decide) rfl (fun ls hl => ?_)
              refine lv_iload_n hx hb dX6_differ_100 rfl (lv_at hl 2 rfl) ?_
              refine lv_if_lt (tgt := 166) hx hb dX6_differ_101 (by decide) (fun hc29 => ?_) (fun hc29 => ?_)
              · rw [if_pos hc29] at hF
                refine lv_iload hx hb dX6_differ_166 (lv_at hl 0 rfl) ?_
                refine lv_if_ne (tgt := 173) hx hb dX6_differ_168 (by decide) (fun hc => absurd hc (by decide)) (fun _ => ?_)
                refine lv_iload_n hx hb dX6_differ_171 rfl (lv_at hl 4 rfl) ?_
                exact cp_iret hx hb hr hlocks hF hP hS dX6_differ_172
              · rw [if_neg hc29] at hF
                refine lv_iload hx hb dX6_differ_104 (lv_at hl 0 rfl) ?_
                refine lv_if_eq (tgt := 166) hx hb dX6_differ_106 (by decide) (fun _ => ?_) (fun hc => absurd hc (by decide))
                refine lv_iload hx hb dX6_differ_166 (lv_at hl 0 rfl) ?_
                refine lv_if_ne (tgt := 173) hx hb dX6_differ_168 (by decide) (fun hc => absurd hc (by decide)) (fun _ => ?_)
                refine lv_iload_n hx hb dX6_differ_171 rfl (lv_at hl 4 rfl) ?_
                exact cp_iret hx hb hr hlocks hF hP hS dX6_differ_172
            · rw [if_pos hc28] at hF
              refine lv_iconst (v := (1 : Int32)) hx hb dX6_differ_93 (by decide) ?_
              refine lv_goto (tgt := 98) hx hb dX6_differ_94 (by decide) ?_
              refine lv_istore (lv' := [(4, .int (1 : Int32)), (3, .int y15.1), (2, .int y13.1), (0, .ref (L.2.1 a0)), (1, .int i1)]) hx hb dX6_differ_98 hl (by decide) rfl (fun ls hl => ?_)
              refine lv_iload_n hx hb dX6_differ_100 rfl (lv_at hl 2 rfl) ?_
              refine lv_if_lt (tgt := 166) hx hb dX6_differ_101 (by decide) (fun hc30 => ?_) (fun hc30 => ?_)
              · rw [if_pos hc30] at hF
                refine lv_iload hx hb dX6_differ_166 (lv_at hl 0 rfl) ?_
                refine lv_if_ne (tgt := 173) hx hb dX6_differ_168 (by decide) (fun _ => ?_) (fun hc => absurd hc (by decide))
                refine lv_iinc (k := 4) (v := (i1 + 1)) (lv' := [(1, .int (i1 + 1)), (4, .int (1 : Int32)), (3, .int y15.1), (2, .int y13.1), (0, .ref (L.2.1 a0))]) hx hb dX6_differ_173 hl rfl (congrArg (fun z => i1 + z) (by decide)) (by decide) rfl (fun ls hl => ?_)
                refine lv_goto (tgt := 27) hx hb dX6_differ_176 (by decide) ?_
                exact ih a0 (i1 + 1) y15.2 _ _ _ hF hP hS (lv_sub hl [4, 0] rfl)
              · rw [if_neg hc30] at hF
                refine lv_iload hx hb dX6_differ_104 (lv_at hl 0 rfl) ?_
                refine lv_if_eq (tgt := 166) hx hb dX6_differ_106 (by decide) (fun hc => absurd hc (by decide)) (fun _ => ?_)
                refine lv_aload_n hx hb dX6_differ_109 rfl (lv_at hl 3 rfl) ?_
                obtain ⟨r31, er31, hF⟩ := cp_bind hF
                refine cp_getR (T := TX6) (N := 6) (ci := 6) (j := 3) hx hb htT hinX6 hown hK hP rfl (by decide) rfl (htT _ tw_378) er31 dX6_differ_110 ?_
                refine lv_iload_n hx hb dX6_differ_113 rfl (lv_at hl 2 rfl) ?_
                obtain ⟨y32, ey32, hF⟩ := cp_bind hF
                refine cp_call (st1 := [.int y32.1, .ref (L.2.1 r31)]) (va_runS (As := [.int y13.1]) (rest := [.ref (L.2.1 r31)]) ⟨hx, hb, hml, hown, htT⟩ (ct_X6_at l G L hJ q y13.1 y15.2 y32 ey32) ⟨callB_of 1 htT gdX6_at rfl rfl rfl (htT _ tw_8) (htT _ tw_417) hdX6_at ⟨Nat.le_of_ble_eq_true rfl, Nat.le_of_ble_eq_true rfl⟩, (htT _ tw_418)⟩ ⟨cp_blind, cp_pre hP hK hN hZ hS⟩ rfl rfl hl.1 rfl (lv_room (Nat.le_of_ble_eq_true rfl)) dX6_differ_114 ⟨Nat.zero_le _, Nat.zero_le _⟩) hS (fun H locs hP hS => ?_)
                refine lv_iconst (v := (1 : Int32)) hx hb dX6_differ_117 (by decide) ?_
                refine lv_iadd hx hb dX6_differ_118 ?_
                obtain ⟨v33, ev33, hF⟩ := cp_bind hF
                refine cp_iald hx hb hK hP ev33 dX6_differ_119 ?_
                refine lv_aload_n hx hb dX6_differ_120 rfl (lv_at hl 3 rfl) ?_
                obtain ⟨r34, er34, hF⟩ := cp_bind hF
                refine cp_getR (T := TX6) (N := 6) (ci := 6) (j := 5) hx hb htT hinX6 hown hK hP rfl (by decide) rfl (htT _ tw_380) er34 dX6_differ_121 ?_
                refine lv_iload_n hx hb dX6_differ_124 rfl (lv_at hl 2 rfl) ?_
                obtain ⟨y35, ey35, hF⟩ := cp_bind hF
                refine cp_call (st1 := [.int y35.1, .ref (L.2.1 r34), .int v33]) (va_runS (As := [.int y13.1]) (rest := [.ref (L.2.1 r34), .int v33]) ⟨hx, hb, hml, hown, htT⟩ (ct_X6_at l G L hJ q y13.1 y32.2 y35 ey35) ⟨callB_of 1 htT gdX6_at rfl rfl rfl (htT _ tw_8) (htT _ tw_417) hdX6_at ⟨Nat.le_of_ble_eq_true rfl, Nat.le_of_ble_eq_true rfl⟩, (htT _ tw_418)⟩ ⟨cp_blind, cp_pre hP hK hN hZ hS⟩ rfl rfl hl.1 rfl (lv_room (Nat.le_of_ble_eq_true rfl)) dX6_differ_125 ⟨Nat.zero_le _, Nat.zero_le _⟩) hS (fun H locs hP hS => ?_)
                refine lv_iconst (v := (1 : Int32)) hx hb dX6_differ_128 (by decide) ?_
                refine lv_iadd hx hb dX6_differ_129 ?_
                obtain ⟨v36, ev36, hF⟩ := cp_bind hF
                refine cp_iald hx hb hK hP ev36 dX6_differ_130 ?_
                refine lv_icmp_ne (tgt := 163) hx hb dX6_differ_131 (by decide) (fun hc37 => ?_) (fun hc37 => ?_)
                · rw [if_neg hc37] at hF
                  refine lv_iconst (v := (0 : Int32)) hx hb dX6_differ_163 (by decide) ?_
                  refine lv_istore (lv' := [(4, .int (0 : Int32)), (3, .int y15.1), (2, .int y13.1), (0, .ref (L.2.1 a0)), (1, .int i1)]) hx hb dX6_differ_164 hl (by decide) rfl (fun ls hl => ?_)
                  refine lv_iload hx hb dX6_differ_166 (lv_at hl 0 rfl) ?_
                  refine lv_if_ne (tgt := 173) hx hb dX6_differ_168 (by decide) (fun hc => absurd hc (by decide)) (fun _ => ?_)
                  refine lv_iload_n hx hb dX6_differ_171 rfl (lv_at hl 4 rfl) ?_
                  exact cp_iret hx hb hr hlocks hF hP hS dX6_differ_172
                · rw [if_pos hc37] at hF
                  refine lv_aload_n hx hb dX6_differ_134 rfl (lv_at hl 3 rfl) ?_
                  obtain ⟨r38, er38, hF⟩ := cp_bind hF
                  refine cp_getR (T := TX6) (N := 6) (ci := 6) (j := 3) hx hb htT hinX6 hown hK hP rfl (by decide) rfl (htT _ tw_378) er38 dX6_differ_135 ?_
                  refine lv_iload_n hx hb dX6_differ_138 rfl (lv_at hl 2 rfl) ?_
                  obtain ⟨y39, ey39, hF⟩ := cp_bind hF
                  refine cp_call (st1 := [.int y39.1, .ref (L.2.1 r38)]) (va_runS (As := [.int y13.1]) (rest := [.ref (L.2.1 r38)]) ⟨hx, hb, hml, hown, htT⟩ (ct_X6_at l G L hJ q y13.1 y35.2 y39 ey39) ⟨callB_of 1 htT gdX6_at rfl rfl rfl (htT _ tw_8) (htT _ tw_417) hdX6_at ⟨Nat.le_of_ble_eq_true rfl, Nat.le_of_ble_eq_true rfl⟩, (htT _ tw_418)⟩ ⟨cp_blind, cp_pre hP hK hN hZ hS⟩ rfl rfl hl.1 rfl (lv_room (Nat.le_of_ble_eq_true rfl)) dX6_differ_139 ⟨Nat.zero_le _, Nat.zero_le _⟩) hS (fun H locs hP hS => ?_)
                  refine lv_iconst (v := (2 : Int32)) hx hb dX6_differ_142 (by decide) ?_
                  refine lv_iadd hx hb dX6_differ_143 ?_
                  obtain ⟨v40, ev40, hF⟩ := cp_bind hF
                  refine cp_iald hx hb hK hP ev40 dX6_differ_144 ?_
                  refine lv_aload_n hx hb dX6_differ_145 rfl (lv_at hl 3 rfl) ?_
                  obtain ⟨r41, er41, hF⟩ := cp_bind hF
                  refine cp_getR (T := TX6) (N := 6) (ci := 6) (j := 5) hx hb htT hinX6 hown hK hP rfl (by decide) rfl (htT _ tw_380) er41 dX6_differ_146 ?_
                  refine lv_iload_n hx hb dX6_differ_149 rfl (lv_at hl 2 rfl) ?_
                  obtain ⟨y42, ey42, hF⟩ := cp_bind hF
                  refine cp_call (st1 := [.int y42.1, .ref (L.2.1 r41), .int v40]) (va_runS (As := [.int y13.1]) (rest := [.ref (L.2.1 r41), .int v40]) ⟨hx, hb, hml, hown, htT⟩ (ct_X6_at l G L hJ q y13.1 y39.2 y42 ey42) ⟨callB_of 1 htT gdX6_at rfl rfl rfl (htT _ tw_8) (htT _ tw_417) hdX6_at ⟨Nat.le_of_ble_eq_true rfl, Nat.le_of_ble_eq_true rfl⟩, (htT _ tw_418)⟩ ⟨cp_blind, cp_pre hP hK hN hZ hS⟩ rfl rfl hl.1 rfl (lv_room (Nat.le_of_ble_eq_true rfl)) dX6_differ_150 ⟨Nat.zero_le _, Nat.zero_le _⟩) hS (fun H locs hP hS => ?_)
                  refine lv_iconst (v := (2 : Int32)) hx hb dX6_differ_153 (by decide) ?_
                  refine lv_iadd hx hb dX6_differ_154 ?_
                  obtain ⟨v43, ev43, hF⟩ := cp_bind hF
                  refine cp_iald hx hb hK hP ev43 dX6_differ_155 ?_
                  refine lv_icmp_ne (tgt := 163) hx hb dX6_differ_156 (by decide) (fun hc44 => ?_) (fun hc44 => ?_)
                  · rw [if_neg hc44] at hF
                    refine lv_iconst (v := (0 : Int32)) hx hb dX6_differ_163 (by decide) ?_
                    refine lv_istore (lv' := [(4, .int (0 : Int32)), (3, .int y15.1), (2, .int y13.1), (0, .ref (L.2.1 a0)), (1, .int i1)]) hx hb dX6_differ_164 hl (by decide) rfl (fun ls hl => ?_)
                    refine lv_iload hx hb dX6_differ_166 (lv_at hl 0 rfl) ?_
                    refine lv_if_ne (tgt := 173) hx hb dX6_differ_168 (by decide) (fun hc => absurd hc (by decide)) (fun _ => ?_)
                    refine lv_iload_n hx hb dX6_differ_171 rfl (lv_at hl 4 rfl) ?_
                    exact cp_iret hx hb hr hlocks hF hP hS dX6_differ_172
                  · rw [if_pos hc44] at hF
                    refine lv_iconst (v := (1 : Int32)) hx hb dX6_differ_159 (by decide) ?_
                    refine lv_goto (tgt := 164) hx hb dX6_differ_160 (by decide) ?_
                    refine lv_istore (lv' := [(4, .int (1 : Int32)), (3, .int y15.1), (2, .int y13.1), (0, .ref (L.2.1 a0)), (1, .int i1)]) hx hb dX6_differ_164 hl (by decide) rfl (fun ls hl => ?_)
                    refine lv_iload hx hb dX6_differ_166 (lv_at hl 0 rfl) ?_
                    refine lv_if_ne (tgt := 173) hx hb dX6_differ_168 (by decide) (fun _ => ?_) (fun hc => absurd hc (by decide))
                    refine lv_iinc (k := 4) (v := (i1 + 1)) (lv' := [(1, .int (i1 + 1)), (4, .int (1 : Int32)), (3, .int y15.1), (2, .int y13.1), (0, .ref (L.2.1 a0))]) hx hb dX6_differ_173 hl rfl (congrArg (fun z => i1 + z) (by decide)) (by decide) rfl (fun ls hl => ?_)
                    refine lv_goto (tgt := 27) hx hb dX6_differ_176 (by decide) ?_
                    exact ih a0 (i1 + 1) y42.2 _ _ _ hF hP hS (lv_sub hl [4, 0] rfl)
  unfold fn_X6_differ at hF
  refine lv_aload_n hx hb dX6_differ_0 rfl (lv_at hl 0 rfl) ?_
  refine lv_aload_n hx hb dX6_differ_1 rfl (lv_at hl 0 rfl) ?_
  obtain ⟨v1, ev1, hF⟩ := cp_bind hF
  refine cp_getI (T := TX6) (N := 6) (ci := 6) (j := 4) hx hb htT hinX6 hown hK hP rfl (by decide) rfl (htT _ tw_379) ev1 dX6_differ_2 ?_
  refine lv_if_eq (tgt := 12) hx hb dX6_differ_5 (by decide) (fun hc2 => ?_) (fun hc2 => ?_)
  · rw [if_pos hc2] at hF
    refine lv_iconst (v := (1 : Int32)) hx hb dX6_differ_12 (by decide) ?_
    obtain ⟨D3, eD3, hF⟩ := cp_bind hF
    refine cp_put (T := TX6) (N := 6) (ci := 6) (j := 0) hx hb htT hinX6 tyX6 tyX6_ok nmX6 hown hK hJ hP hS rfl (by decide) rfl (htT _ tw_375) rfl rfl rfl eD3 dX6_differ_13 (fun H locs hP hS => ?_)
    refine lv_aload_n hx hb dX6_differ_16 rfl (lv_at hl 0 rfl) ?_
    obtain ⟨v4, ev4, hF⟩ := cp_bind hF
    refine cp_getI (T := TX6) (N := 6) (ci := 6) (j := 0) hx hb htT hinX6 hown hK hP rfl (by decide) rfl (htT _ tw_375) ev4 dX6_differ_17 ?_
    refine lv_if_le (tgt := 25) hx hb dX6_differ_20 (by decide) (fun hc5 => ?_) (fun hc5 => ?_)
    · rw [if_pos hc5] at hF
      refine lv_iconst (v := (0 : Int32)) hx hb dX6_differ_25 (by decide) ?_
      refine lv_istore_n (lv' := [(1, .int (0 : Int32)), (0, .ref (L.2.1 k0))]) hx hb dX6_differ_26 rfl hl (by decide) rfl (fun ls hl => ?_)
      exact hL27 q k0 (0 : Int32) D3 _ _ _ hF hP hS (lv_sub hl [1, 0] rfl)
    · rw [if_neg hc5] at hF
      refine lv_iconst (v := (0 : Int32)) hx hb dX6_differ_23 (by decide) ?_
      exact cp_iret hx hb hr hlocks hF hP hS dX6_differ_24
  · rw [if_neg hc2] at hF
    refine lv_iconst (v := (0 : Int32)) hx hb dX6_differ_8 (by decide) ?_
    refine lv_goto (tgt := 13) hx hb dX6_differ_9 (by decide) ?_
    obtain ⟨D6, eD6, hF⟩ := cp_bind hF
    refine cp_put (T := TX6) (N := 6) (ci := 6) (j := 0) hx hb htT hinX6 tyX6 tyX6_ok nmX6 hown hK hJ hP hS rfl (by decide) rfl (htT _ tw_375) rfl rfl rfl eD6 dX6_differ_13 (fun H locs hP hS => ?_)
    refine lv_aload_n hx hb dX6_differ_16 rfl (lv_at hl 0 rfl) ?_
    obtain ⟨v7, ev7, hF⟩ := cp_bind hF
    refine cp_getI (T := TX6) (N := 6) (ci := 6) (j := 0) hx hb htT hinX6 hown hK hP rfl (by decide) rfl (htT _ tw_375) ev7 dX6_differ_17 ?_
    refine lv_if_le (tgt := 25) hx hb dX6_differ_20 (by decide) (fun hc8 => ?_) (fun hc8 => ?_)
    · rw [if_pos hc8] at hF
      refine lv_iconst (v := (0 : Int32)) hx hb dX6_differ_25 (by decide) ?_
      refine lv_istore_n (lv' := [(1, .int (0 : Int32)), (0, .ref (L.2.1 k0))]) hx hb dX6_differ_26 rfl hl (by decide) rfl (fun ls hl => ?_)
      exact hL27 q k0 (0 : Int32) D6 _ _ _ hF hP hS (lv_sub hl [1, 0] rfl)
    · rw [if_neg hc8] at hF
      refine lv_iconst (v := (0 : Int32)) hx hb dX6_differ_23 (by decide) ?_
      exact cp_iret hx hb hr hlocks hF hP hS dX6_differ_24
theorem dX3_operate_0 : decode cX3_operate 0 = .ok (.aload_n 1, 1) := by decide +kernel
theorem dX3_operate_1 : decode cX3_operate 1 = .ok (.iconst 0, 1) := by decide +kernel
theorem dX3_operate_2 : decode cX3_operate 2 = .ok (.invokevirtual 52, 3) := by decide +kernel
theorem dX3_operate_5 : decode cX3_operate 5 = .ok (.sipush 255, 3) := by decide +kernel
theorem dX3_operate_8 : decode cX3_operate 8 = .ok (.iand, 1) := by decide +kernel
theorem dX3_operate_9 : decode cX3_operate 9 = .ok (.bipush 22, 2) := by decide +kernel
theorem dX3_operate_11 : decode cX3_operate 11 = .ok (.irem, 1) := by decide +kernel
theorem dX3_operate_12 : decode cX3_operate 12 = .ok (.istore_n 2, 1) := by decide +kernel
theorem dX3_operate_13 : decode cX3_operate 13 = .ok (.aload_n 1, 1) := by decide +kernel
theorem dX3_operate_14 : decode cX3_operate 14 = .ok (.iconst 1, 1) := by decide +kernel
theorem dX3_operate_15 : decode cX3_operate 15 = .ok (.invokevirtual 52, 3) := by decide +kernel
theorem dX3_operate_18 : decode cX3_operate 18 = .ok (.istore_n 3, 1) := by decide +kernel
theorem dX3_operate_19 : decode cX3_operate 19 = .ok (.aload_n 1, 1) := by decide +kernel
theorem dX3_operate_20 : decode cX3_operate 20 = .ok (.iconst 2, 1) := by decide +kernel
theorem dX3_operate_21 : decode cX3_operate 21 = .ok (.invokevirtual 52, 3) := by decide +kernel
theorem dX3_operate_24 : decode cX3_operate 24 = .ok (.istore 4, 2) := by decide +kernel
theorem dX3_operate_26 : decode cX3_operate 26 = .ok (.aload_n 1, 1) := by decide +kernel
theorem dX3_operate_27 : decode cX3_operate 27 = .ok (.aload_n 1, 1) := by decide +kernel
theorem dX3_operate_28 : decode cX3_operate 28 = .ok (.aload_n 1, 1) := by decide +kernel
theorem dX3_operate_29 : decode cX3_operate 29 = .ok (.getfield 56, 3) := by decide +kernel
theorem dX3_operate_32 : decode cX3_operate 32 = .ok (.iconst 1, 1) := by decide +kernel
theorem dX3_operate_33 : decode cX3_operate 33 = .ok (.iadd, 1) := by decide +kernel
theorem dX3_operate_34 : decode cX3_operate 34 = .ok (.getstatic 59, 3) := by decide +kernel
theorem dX3_operate_37 : decode cX3_operate 37 = .ok (.iload_n 2, 1) := by decide +kernel
theorem dX3_operate_38 : decode cX3_operate 38 = .ok (.iaload, 1) := by decide +kernel
theorem dX3_operate_39 : decode cX3_operate 39 = .ok (.iadd, 1) := by decide +kernel
theorem dX3_operate_40 : decode cX3_operate 40 = .ok (.invokevirtual 63, 3) := by decide +kernel
theorem dX3_operate_43 : decode cX3_operate 43 = .ok (.putfield 56, 3) := by decide +kernel
theorem dX3_operate_46 : decode cX3_operate 46 = .ok (.iload_n 2, 1) := by decide +kernel
theorem dX3_operate_47 : decode cX3_operate 47 = .ok (.bipush 16, 2) := by decide +kernel
theorem dX3_operate_49 : decode cX3_operate 49 = .ok (.if_icmp .lt 12, 3) := by decide +kernel
theorem dX3_operate_52 : decode cX3_operate 52 = .ok (.aload_n 0, 1) := by decide +kernel
theorem dX3_operate_53 : decode cX3_operate 53 = .ok (.aload_n 1, 1) := by decide +kernel
theorem dX3_operate_54 : decode cX3_operate 54 = .ok (.iload_n 2, 1) := by decide +kernel
theorem dX3_operate_55 : decode cX3_operate 55 = .ok (.iload_n 3, 1) := by decide +kernel
theorem dX3_operate_56 : decode cX3_operate 56 = .ok (.invokevirtual 67, 3) := by decide +kernel
theorem dX3_operate_59 : decode cX3_operate 59 = .ok (.iconst 1, 1) := by decide +kernel
theorem dX3_operate_60 : decode cX3_operate 60 = .ok (.ireturn, 1) := by decide +kernel
theorem dX3_operate_61 : decode cX3_operate 61 = .ok (.iload_n 2, 1) := by decide +kernel
theorem dX3_operate_62 : decode cX3_operate 62 = .ok (.tableswitch 150 0 13 #[70, 150, 150, 150, 150, 150, 150, 150, 150, 150, 73, 97, 106, 128], 70) := by decide +kernel
theorem dX3_operate_132 : decode cX3_operate 132 = .ok (.goto 99, 3) := by decide +kernel
theorem dX3_operate_135 : decode cX3_operate 135 = .ok (.aload_n 1, 1) := by decide +kernel
theorem dX3_operate_136 : decode cX3_operate 136 = .ok (.getfield 71, 3) := by decide +kernel
theorem dX3_operate_139 : decode cX3_operate 139 = .ok (.aload_n 0, 1) := by decide +kernel
theorem dX3_operate_140 : decode cX3_operate 140 = .ok (.aload_n 1, 1) := by decide +kernel
theorem dX3_operate_141 : decode cX3_operate 141 = .ok (.iload 4, 2) := by decide +kernel
theorem dX3_operate_143 : decode cX3_operate 143 = .ok (.invokevirtual 75, 3) := by decide +kernel
theorem dX3_operate_146 : decode cX3_operate 146 = .ok (.aload_n 1, 1) := by decide +kernel
theorem dX3_operate_147 : decode cX3_operate 147 = .ok (.getfield 79, 3) := by decide +kernel
theorem dX3_operate_150 : decode cX3_operate 150 = .ok (.iload_n 3, 1) := by decide +kernel
theorem dX3_operate_151 : decode cX3_operate 151 = .ok (.bipush 7, 2) := by decide +kernel
theorem dX3_operate_153 : decode cX3_operate 153 = .ok (.iand, 1) := by decide +kernel
theorem dX3_operate_154 : decode cX3_operate 154 = .ok (.baload, 1) := by decide +kernel
theorem dX3_operate_155 : decode cX3_operate 155 = .ok (.bastore, 1) := by decide +kernel
theorem dX3_operate_156 : decode cX3_operate 156 = .ok (.goto 75, 3) := by decide +kernel
theorem dX3_operate_159 : decode cX3_operate 159 = .ok (.aload_n 0, 1) := by decide +kernel
theorem dX3_operate_160 : decode cX3_operate 160 = .ok (.aload_n 1, 1) := by decide +kernel
theorem dX3_operate_161 : decode cX3_operate 161 = .ok (.iload_n 3, 1) := by decide +kernel
theorem dX3_operate_162 : decode cX3_operate 162 = .ok (.invokevirtual 82, 3) := by decide +kernel
theorem dX3_operate_165 : decode cX3_operate 165 = .ok (.goto 66, 3) := by decide +kernel
theorem dX3_operate_168 : decode cX3_operate 168 = .ok (.aload_n 1, 1) := by decide +kernel
theorem dX3_operate_169 : decode cX3_operate 169 = .ok (.getfield 79, 3) := by decide +kernel
theorem dX3_operate_172 : decode cX3_operate 172 = .ok (.iload_n 3, 1) := by decide +kernel
theorem dX3_operate_173 : decode cX3_operate 173 = .ok (.bipush 7, 2) := by decide +kernel
theorem dX3_operate_175 : decode cX3_operate 175 = .ok (.iand, 1) := by decide +kernel
theorem dX3_operate_176 : decode cX3_operate 176 = .ok (.baload, 1) := by decide +kernel
theorem dX3_operate_177 : decode cX3_operate 177 = .ok (.ifCond .ne 54, 3) := by decide +kernel
theorem dX3_operate_180 : decode cX3_operate 180 = .ok (.aload_n 0, 1) := by decide +kernel
theorem dX3_operate_181 : decode cX3_operate 181 = .ok (.aload_n 1, 1) := by decide +kernel
theorem dX3_operate_182 : decode cX3_operate 182 = .ok (.iload 4, 2) := by decide +kernel
theorem dX3_operate_184 : decode cX3_operate 184 = .ok (.invokevirtual 82, 3) := by decide +kernel
theorem dX3_operate_187 : decode cX3_operate 187 = .ok (.goto 44, 3) := by decide +kernel
theorem dX3_operate_190 : decode cX3_operate 190 = .ok (.aload_n 1, 1) := by decide +kernel
theorem dX3_operate_191 : decode cX3_operate 191 = .ok (.getfield 79, 3) := by decide +kernel
theorem dX3_operate_194 : decode cX3_operate 194 = .ok (.iload_n 3, 1) := by decide +kernel
theorem dX3_operate_195 : decode cX3_operate 195 = .ok (.bipush 7, 2) := by decide +kernel
theorem dX3_operate_197 : decode cX3_operate 197 = .ok (.iand, 1) := by decide +kernel
theorem dX3_operate_198 : decode cX3_operate 198 = .ok (.baload, 1) := by decide +kernel
theorem dX3_operate_199 : decode cX3_operate 199 = .ok (.ifCond .ge 32, 3) := by decide +kernel
theorem dX3_operate_202 : decode cX3_operate 202 = .ok (.aload_n 0, 1) := by decide +kernel
theorem dX3_operate_203 : decode cX3_operate 203 = .ok (.aload_n 1, 1) := by decide +kernel
theorem dX3_operate_204 : decode cX3_operate 204 = .ok (.iload 4, 2) := by decide +kernel
theorem dX3_operate_206 : decode cX3_operate 206 = .ok (.invokevirtual 82, 3) := by decide +kernel
theorem dX3_operate_209 : decode cX3_operate 209 = .ok (.goto 22, 3) := by decide +kernel
theorem dX3_operate_212 : decode cX3_operate 212 = .ok (.aload_n 1, 1) := by decide +kernel
theorem dX3_operate_213 : decode cX3_operate 213 = .ok (.getfield 79, 3) := by decide +kernel
theorem dX3_operate_216 : decode cX3_operate 216 = .ok (.iload_n 3, 1) := by decide +kernel
theorem dX3_operate_217 : decode cX3_operate 217 = .ok (.bipush 7, 2) := by decide +kernel
theorem dX3_operate_219 : decode cX3_operate 219 = .ok (.iand, 1) := by decide +kernel
theorem dX3_operate_220 : decode cX3_operate 220 = .ok (.aload_n 0, 1) := by decide +kernel
theorem dX3_operate_221 : decode cX3_operate 221 = .ok (.aload_n 1, 1) := by decide +kernel
theorem dX3_operate_222 : decode cX3_operate 222 = .ok (.iload_n 2, 1) := by decide +kernel
theorem dX3_operate_223 : decode cX3_operate 223 = .ok (.iload_n 3, 1) := by decide +kernel
theorem dX3_operate_224 : decode cX3_operate 224 = .ok (.iload 4, 2) := by decide +kernel
theorem dX3_operate_226 : decode cX3_operate 226 = .ok (.invokevirtual 86, 3) := by decide +kernel
theorem dX3_operate_229 : decode cX3_operate 229 = .ok (.i2b, 1) := by decide +kernel
theorem dX3_operate_230 : decode cX3_operate 230 = .ok (.bastore, 1) := by decide +kernel
theorem dX3_operate_231 : decode cX3_operate 231 = .ok (.iconst 0, 1) := by decide +kernel
theorem dX3_operate_232 : decode cX3_operate 232 = .ok (.ireturn, 1) := by decide +kernel
def fn_X3_operate (L : cp_Lay) (q : Nat) (k0 : Nat) (k1 : Nat) (D : cp_Dt) : Option (Int32 × cp_Dt) :=
  (cp_fl L k1 1).bind fun f1 =>
  (fn_X1_geneBehindPlace L q k1 (0 : Int32) D).bind fun y2 =>
  (cp_fl L k1 1).bind fun f3 =>
  (fn_X1_geneBehindPlace L q k1 (1 : Int32) y2.2).bind fun y4 =>
  (cp_fl L k1 1).bind fun f5 =>
  (fn_X1_geneBehindPlace L q k1 (2 : Int32) y4.2).bind fun y6 =>
  (cp_gI L y6.2 k1 1 10).bind fun v7 =>
  (cp_tb 22 cp_ops ((y2.1 &&& (255 : Int32)) - (y2.1 &&& (255 : Int32)) / (22 : Int32) * (22 : Int32))).bind fun v9 =>
  (cp_fl L k1 1).bind fun f10 =>
  (fn_X1_wrapped L q k1 ((v7 + (1 : Int32)) + v9) y6.2).bind fun y11 =>
  (cp_pI L y11.2 k1 1 10 y11.1).bind fun D12 =>
  if ((y2.1 &&& (255 : Int32)) - (y2.1 &&& (255 : Int32)) / (22 : Int32) * (22 : Int32)) < (16 : Int32) then (if ((y2.1 &&& (255 : Int32)) - (y2.1 &&& (255 : Int32)) / (22 : Int32) * (22 : Int32)) = (0 : Int32) then (some ((0 : Int32), D12))
  else if ((y2.1 &&& (255 : Int32)) - (y2.1 &&& (255 : Int32)) / (22 : Int32) * (22 : Int32)) = (1 : Int32) then ((cp_gR L k1 1 0).bind fun r16 =>
  (cp_fl L k0 3).bind fun f17 =>
  (fn_X3_reckon L q k0 k1 ((y2.1 &&& (255 : Int32)) - (y2.1 &&& (255 : Int32)) / (22 : Int32) * (22 : Int32)) y4.1 y6.1 D12).bind fun y18 =>
  (cp_aS L y18.2 1 r16 (y4.1 &&& (7 : Int32)) y18.1.toInt8.toInt32.toInt8.toInt32).bind fun D19 =>
  some ((0 : Int32), D19))
  else if ((y2.1 &&& (255 : Int32)) - (y2.1 &&& (255 : Int32)) / (22 : Int32) * (22 : Int32)) = (2 : Int32) then ((cp_gR L k1 1 0).bind fun r21 =>
  (cp_fl L k0 3).bind fun f22 =>
  (fn_X3_reckon L q k0 k1 ((y2.1 &&& (255 : Int32)) - (y2.1 &&& (255 : Int32)) / (22 : Int32) * (22 : Int32)) y4.1 y6.1 D12).bind fun y23 =>
  (cp_aS L y23.2 1 r21 (y4.1 &&& (7 : Int32)) y23.1.toInt8.toInt32.toInt8.toInt32).bind fun D24 =>
  some ((0 : Int32), D24))
  else if ((y2.1 &&& (255 : Int32)) - (y2.1 &&& (255 : Int32)) / (22 : Int32) * (22 : Int32)) = (3 : Int32) then ((cp_gR L k1 1 0).bind fun r26 =>
  (cp_fl L k0 3).bind fun f27 =>
  (fn_X3_reckon L q k0 k1 ((y2.1 &&& (255 : Int32)) - (y2.1 &&& (255 : Int32)) / (22 : Int32) * (22 : Int32)) y4.1 y6.1 D12).bind fun y28 =>
  (cp_aS L y28.2 1 r26 (y4.1 &&& (7 : Int32)) y28.1.toInt8.toInt32.toInt8.toInt32).bind fun D29 =>
  some ((0 : Int32), D29))
  else if ((y2.1 &&& (255 : Int32)) - (y2.1 &&& (255 : Int32)) / (22 : Int32) * (22 : Int32)) = (4 : Int32) then ((cp_gR L k1 1 0).bind fun r31 =>
  (cp_fl L k0 3).bind fun f32 =>
  (fn_X3_reckon L q k0 k1 ((y2.1 &&& (255 : Int32)) - (y2.1 &&& (255 : Int32)) / (22 : Int32) * (22 : Int32)) y4.1 y6.1 D12).bind fun y33 =>
  (cp_aS L y33.2 1 r31 (y4.1 &&& (7 : Int32)) y33.1.toInt8.toInt32.toInt8.toInt32).bind fun D34 =>
  some ((0 : Int32), D34))
  else if ((y2.1 &&& (255 : Int32)) - (y2.1 &&& (255 : Int32)) / (22 : Int32) * (22 : Int32)) = (5 : Int32) then ((cp_gR L k1 1 0).bind fun r36 =>
  (cp_fl L k0 3).bind fun f37 =>
  (fn_X3_reckon L q k0 k1 ((y2.1 &&& (255 : Int32)) - (y2.1 &&& (255 : Int32)) / (22 : Int32) * (22 : Int32)) y4.1 y6.1 D12).bind fun y38 =>
  (cp_aS L y38.2 1 r36 (y4.1 &&& (7 : Int32)) y38.1.toInt8.toInt32.toInt8.toInt32).bind fun D39 =>
  some ((0 : Int32), D39))
  else if ((y2.1 &&& (255 : Int32)) - (y2.1 &&& (255 : Int32)) / (22 : Int32) * (22 : Int32)) = (6 : Int32) then ((cp_gR L k1 1 0).bind fun r41 =>
  (cp_fl L k0 3).bind fun f42 =>
  (fn_X3_reckon L q k0 k1 ((y2.1 &&& (255 : Int32)) - (y2.1 &&& (255 : Int32)) / (22 : Int32) * (22 : Int32)) y4.1 y6.1 D12).bind fun y43 =>
  (cp_aS L y43.2 1 r41 (y4.1 &&& (7 : Int32)) y43.1.toInt8.toInt32.toInt8.toInt32).bind fun D44 =>
  some ((0 : Int32), D44))
  else if ((y2.1 &&& (255 : Int32)) - (y2.1 &&& (255 : Int32)) / (22 : Int32) * (22 : Int32)) = (7 : Int32) then ((cp_gR L k1 1 0).bind fun r46 =>
  (cp_fl L k0 3).bind fun f47 =>
  (fn_X3_reckon L q k0 k1 ((y2.1 &&& (255 : Int32)) - (y2.1 &&& (255 : Int32)) / (22 : Int32) * (22 : Int32)) y4.1 y6.1 D12).bind fun y48 =>
  (cp_aS L y48.2 1 r46 (y4.1 &&& (7 : Int32)) y48.1.toInt8.toInt32.toInt8.toInt32).bind fun D49 =>
  some ((0 : Int32), D49))
  else if ((y2.1 &&& (255 : Int32)) - (y2.1 &&& (255 : Int32)) / (22 : Int32) * (22 : Int32)) = (8 : Int32) then ((cp_gR L k1 1 0).bind fun r51 =>
  (cp_fl L k0 3).bind fun f52 =>
  (fn_X3_reckon L q k0 k1 ((y2.1 &&& (255 : Int32)) - (y2.1 &&& (255 : Int32)) / (22 : Int32) * (22 : Int32)) y4.1 y6.1 D12).bind fun y53 =>
  (cp_aS L y53.2 1 r51 (y4.1 &&& (7 : Int32)) y53.1.toInt8.toInt32.toInt8.toInt32).bind fun D54 =>
  some ((0 : Int32), D54))
  else if ((y2.1 &&& (255 : Int32)) - (y2.1 &&& (255 : Int32)) / (22 : Int32) * (22 : Int32)) = (9 : Int32) then ((cp_gR L k1 1 0).bind fun r56 =>
  (cp_fl L k0 3).bind fun f57 =>
  (fn_X3_reckon L q k0 k1 ((y2.1 &&& (255 : Int32)) - (y2.1 &&& (255 : Int32)) / (22 : Int32) * (22 : Int32)) y4.1 y6.1 D12).bind fun y58 =>
  (cp_aS L y58.2 1 r56 (y4.1 &&& (7 : Int32)) y58.1.toInt8.toInt32.toInt8.toInt32).bind fun D59 =>
  some ((0 : Int32), D59))
  else if ((y2.1 &&& (255 : Int32)) - (y2.1 &&& (255 : Int32)) / (22 : Int32) * (22 : Int32)) = (10 : Int32) then ((cp_gR L k1 1 1).bind fun r61 =>
  (cp_fl L k0 3).bind fun f62 =>
  (fn_X3_memoryIndex L q k0 k1 y6.1 D12).bind fun y63 =>
  (cp_gR L k1 1 0).bind fun r64 =>
  (cp_aI L y63.2 1 r64 (y4.1 &&& (7 : Int32))).bind fun v65 =>
  (cp_aS L y63.2 1 r61 y63.1 v65.toInt8.toInt32).bind fun D66 =>
  some ((0 : Int32), D66))
  else if ((y2.1 &&& (255 : Int32)) - (y2.1 &&& (255 : Int32)) / (22 : Int32) * (22 : Int32)) = (11 : Int32) then ((cp_fl L k0 3).bind fun f68 =>
  (fn_X3_jump L q k0 k1 y4.1 D12).bind fun D69 =>
  some ((0 : Int32), D69))
  else if ((y2.1 &&& (255 : Int32)) - (y2.1 &&& (255 : Int32)) / (22 : Int32) * (22 : Int32)) = (12 : Int32) then ((cp_gR L k1 1 0).bind fun r71 =>
  (cp_aI L D12 1 r71 (y4.1 &&& (7 : Int32))).bind fun v72 =>
  if v72 = 0 then ((cp_fl L k0 3).bind fun f74 =>
  (fn_X3_jump L q k0 k1 y6.1 D12).bind fun D75 =>
  some ((0 : Int32), D75))
  else (some ((0 : Int32), D12)))
  else if ((y2.1 &&& (255 : Int32)) - (y2.1 &&& (255 : Int32)) / (22 : Int32) * (22 : Int32)) = (13 : Int32) then ((cp_gR L k1 1 0).bind fun r77 =>
  (cp_aI L D12 1 r77 (y4.1 &&& (7 : Int32))).bind fun v78 =>
  if 0 ≤ v78 then (some ((0 : Int32), D12))
  else ((cp_fl L k0 3).bind fun f80 =>
  (fn_X3_jump L q k0 k1 y6.1 D12).bind fun D81 =>
  some ((0 : Int32), D81)))
  else ((cp_gR L k1 1 0).bind fun r82 =>
  (cp_fl L k0 3).bind fun f83 =>
  (fn_X3_reckon L q k0 k1 ((y2.1 &&& (255 : Int32)) - (y2.1 &&& (255 : Int32)) / (22 : Int32) * (22 : Int32)) y4.1 y6.1 D12).bind fun y84 =>
  (cp_aS L y84.2 1 r82 (y4.1 &&& (7 : Int32)) y84.1.toInt8.toInt32.toInt8.toInt32).bind fun D85 =>
  some ((0 : Int32), D85)))
  else ((cp_fl L k0 3).bind fun f86 =>
  (fn_X3_act L q k0 k1 ((y2.1 &&& (255 : Int32)) - (y2.1 &&& (255 : Int32)) / (22 : Int32) * (22 : Int32)) y4.1 D12).bind fun D87 =>
  some ((1 : Int32), D87))
set_option maxHeartbeats 4000000 in
set_option maxRecDepth 100000 in
theorem ct_X3_operate (l : Launch) (G : va_G) (L : cp_Lay) (hJ : cp_J L) (q : Nat) (k0 : Nat) (k1 : Nat) (D : cp_Dt) (res : Int32 × cp_Dt) (hF : fn_X3_operate L q k0 k1 D = some res) : cp_Met l G yX3_operate wsX3_operate ({ frames := 3, cells := 0, slots := 0, locals := 71 }) L ([.ref (L.2.1 k0), .ref (L.2.1 k1)] : List Value) D res.2 (some (.int res.1)) := by
  refine Met.ofW (cc := cX3_operate) (maxL := 5) (ret := (some .boolean)) (by decide) rfl ?_
  intro p e s m args below meth c s₁ B hml hv
  obtain ⟨rfl, hP, hK, hN, hZ⟩ := hv
  have hx := B.exec
  have hb := B.bytes
  have hr := B.returns
  have hts := atoms_spec (ws := wsX3_operate) B.pre
  have hown : s.vm.findClass "CreaturePond$Mind" = some m.cls := findClass_of_methodNamed B.named
  have hlocks := B.notSynchronized
  have hS : va_S (cp_A L) s.heap s.heap [] := va_S.rf
  have htT : ∀ w ∈ cp_T, w.before ([.ref (L.2.1 k0), .ref (L.2.1 k1)] : List Value).toArray s = true := fun w h => hts w (List.mem_cons_of_mem _ h)
  have hl := lv_entry (([.ref (L.2.1 k0), .ref (L.2.1 k1)] : List Value)) (n := 5) (Nat.le_of_ble_eq_true rfl)
  rw [lg_entry_eq]
  generalize (lg_sl (([.ref (L.2.1 k0), .ref (L.2.1 k1)] : List Value)) ++ List.replicate (5 - (lg_sl (([.ref (L.2.1 k0), .ref (L.2.1 k1)] : List Value))).length) Slot.unset).toArray = ls at hl ⊢
  have hl : lv_has ls 5 [(0, .ref (L.2.1 k0)), (1, .ref (L.2.1 k1))] := hl
  unfold fn_X3_operate at hF
  refine lv_aload_n hx hb dX3_operate_0 rfl (lv_at hl 1 rfl) ?_
  refine lv_iconst (v := (0 : Int32)) hx hb dX3_operate_1 (by decide) ?_
  obtain ⟨f1, ef1, hF⟩ := cp_bind hF
  obtain ⟨y2, ey2, hF⟩ := cp_bind hF
  refine cp_call (st1 := [.int y2.1]) (va_runVN (As := [.int (0 : Int32)]) (rest := []) ⟨hx, hb, hml, hown, htT⟩ (ct_X1_geneBehindPlace l G L hJ q k1 (0 : Int32) D y2 ey2) ⟨va_cnB 1 htT gdX1_geneBehindPlace rfl rfl rfl (hN _ (List.mem_of_getElem? (i := 73) rfl)) (htT _ tw_5) hdX1_geneBehindPlace ⟨Nat.le_of_ble_eq_true rfl, Nat.le_of_ble_eq_true rfl⟩, (htT _ tw_272), (htT _ tw_547)⟩ ⟨cp_blind, cp_recv hK hP rfl ef1, cp_pre hP hK hN hZ hS⟩ rfl rfl hl.1 rfl (lv_room (Nat.le_of_ble_eq_true rfl)) dX3_operate_2 ⟨Nat.zero_le _, Nat.zero_le _⟩) hS (fun H locs hP hS => ?_)
  refine lv_sipush (v := (255 : Int32)) hx hb dX3_operate_5 (by decide) ?_
  refine lv_iand hx hb dX3_operate_8 ?_
  refine lv_bipush (v := (22 : Int32)) hx hb dX3_operate_9 (by decide) ?_
  refine lv_irem hx hb dX3_operate_11 (by decide) ?_
  refine lv_istore_n (lv' := [(2, .int ((y2.1 &&& (255 : Int32)) - (y2.1 &&& (255 : Int32)) / (22 : Int32) * (22 : Int32))), (0, .ref (L.2.1 k0)), (1, .ref (L.2.1 k1))]) hx hb dX3_operate_12 rfl hl (by decide) rfl (fun ls hl => ?_)
  refine lv_aload_n hx hb dX3_operate_13 rfl (lv_at hl 2 rfl) ?_
  refine lv_iconst (v := (1 : Int32)) hx hb dX3_operate_14 (by decide) ?_
  obtain ⟨f3, ef3, hF⟩ := cp_bind hF
  obtain ⟨y4, ey4, hF⟩ := cp_bind hF
  refine cp_call (st1 := [.int y4.1]) (va_runVN (As := [.int (1 : Int32)]) (rest := []) ⟨hx, hb, hml, hown, htT⟩ (ct_X1_geneBehindPlace l G L hJ q k1 (1 : Int32) y2.2 y4 ey4) ⟨va_cnB 1 htT gdX1_geneBehindPlace rfl rfl rfl (hN _ (List.mem_of_getElem? (i := 73) rfl)) (htT _ tw_5) hdX1_geneBehindPlace ⟨Nat.le_of_ble_eq_true rfl, Nat.le_of_ble_eq_true rfl⟩, (htT _ tw_272), (htT _ tw_547)⟩ ⟨cp_blind, cp_recv hK hP rfl ef3, cp_pre hP hK hN hZ hS⟩ rfl rfl hl.1 rfl (lv_room (Nat.le_of_ble_eq_true rfl)) dX3_operate_15 ⟨Nat.zero_le _, Nat.zero_le _⟩) hS (fun H locs hP hS => ?_)
  refine lv_istore_n (lv' := [(3, .int y4.1), (2, .int ((y2.1 &&& (255 : Int32)) - (y2.1 &&& (255 : Int32)) / (22 : Int32) * (22 : Int32))), (0, .ref (L.2.1 k0)), (1, .ref (L.2.1 k1))]) hx hb dX3_operate_18 rfl hl (by decide) rfl (fun ls hl => ?_)
  refine lv_aload_n hx hb dX3_operate_19 rfl (lv_at hl 3 rfl) ?_
  refine lv_iconst (v := (2 : Int32)) hx hb dX3_operate_20 (by decide) ?_
  obtain ⟨f5, ef5, hF⟩ := cp_bind hF
  obtain ⟨y6, ey6, hF⟩ := cp_bind hF
  refine cp_call (st1 := [.int y6.1]) (va_runVN (As := [.int (2 : Int32)]) (rest := []) ⟨hx, hb, hml, hown, htT⟩ (ct_X1_geneBehindPlace l G L hJ q k1 (2 : Int32) y4.2 y6 ey6) ⟨va_cnB 1 htT gdX1_geneBehindPlace rfl rfl rfl (hN _ (List.mem_of_getElem? (i := 73) rfl)) (htT _ tw_5) hdX1_geneBehindPlace ⟨Nat.le_of_ble_eq_true rfl, Nat.le_of_ble_eq_true rfl⟩, (htT _ tw_272), (htT _ tw_547)⟩ ⟨cp_blind, cp_recv hK hP rfl ef5, cp_pre hP hK hN hZ hS⟩ rfl rfl hl.1 rfl (lv_room (Nat.le_of_ble_eq_true rfl)) dX3_operate_21 ⟨Nat.zero_le _, Nat.zero_le _⟩) hS (fun H locs hP hS => ?_)
  refine lv_istore (lv' := [(4, .int y6.1), (3, .int y4.1), (2, .int ((y2.1 &&& (255 : Int32)) - (y2.1 &&& (255 : Int32)) / (22 : Int32) * (22 : Int32))), (0, .ref (L.2.1 k0)), (1, .ref (L.2.1 k1))]) hx hb dX3_operate_24 hl (by decide) rfl (fun ls hl => ?_)
  refine lv_aload_n hx hb dX3_operate_26 rfl (lv_at hl 4 rfl) ?_
  refine lv_aload_n hx hb dX3_operate_27 rfl (lv_at hl 4 rfl) ?_
  refine lv_aload_n hx hb dX3_operate_28 rfl (lv_at hl 4 rfl) ?_
  obtain ⟨v7, ev7, hF⟩ := cp_bind hF
  refine cp_getIN (T := TX1) (N := 14) (ci := 1) (j := 10) hx hb htT hinX1 hown hK hP rfl (by decide) rfl (hN _ (List.mem_of_getElem? (i := 31) rfl)) ev7 dX3_operate_29 ?_
  refine lv_iconst (v := (1 : Int32)) hx hb dX3_operate_32 (by decide) ?_
  refine lv_iadd hx hb dX3_operate_33 ?_
  obtain ⟨t8, hzt8, htt8⟩ := hZ.1
  refine va_gets hx hb hzt8 hS hown (htT _ tw_277) (fun _ h => h) dX3_operate_34 ?_
  refine lv_iload_n hx hb dX3_operate_37 rfl (lv_at hl 2 rfl) ?_
  obtain ⟨v9, ev9, hF⟩ := cp_bind hF
  refine cp_ti hx hb htt8 hS ev9 dX3_operate_38 ?_
  refine lv_iadd hx hb dX3_operate_39 ?_
  obtain ⟨f10, ef10, hF⟩ := cp_bind hF
  obtain ⟨y11, ey11, hF⟩ := cp_bind hF
  refine cp_call (st1 := [.int y11.1, .ref (L.2.1 k1)]) (va_runVN (As := [.int ((v7 + (1 : Int32)) + v9)]) (rest := [.ref (L.2.1 k1)]) ⟨hx, hb, hml, hown, htT⟩ (ct_X1_wrapped l G L hJ q k1 ((v7 + (1 : Int32)) + v9) y6.2 y11 ey11) ⟨va_cnB 1 htT gdX1_wrapped rfl rfl rfl (hN _ (List.mem_of_getElem? (i := 74) rfl)) (htT _ tw_5) hdX1_wrapped ⟨Nat.le_of_ble_eq_true rfl, Nat.le_of_ble_eq_true rfl⟩, (htT _ tw_275), (htT _ tw_548)⟩ ⟨cp_blind, cp_recv hK hP rfl ef10, cp_pre hP hK hN hZ hS⟩ rfl rfl hl.1 rfl (lv_room (Nat.le_of_ble_eq_true rfl)) dX3_operate_40 ⟨Nat.zero_le _, Nat.zero_le _⟩) hS (fun H locs hP hS => ?_)
  obtain ⟨D12, eD12, hF⟩ := cp_bind hF
  refine cp_putN (T := TX1) (N := 14) (ci := 1) (j := 10) hx hb htT hinX1 tyX1 tyX1_ok nmX1 hown hK hJ hP hS rfl (by decide) rfl (hN _ (List.mem_of_getElem? (i := 31) rfl)) rfl rfl rfl eD12 dX3_operate_43 (fun H locs hP hS => ?_)
  refine lv_iload_n hx hb dX3_operate_46 rfl (lv_at hl 2 rfl) ?_
  refine lv_bipush (v := (16 : Int32)) hx hb dX3_operate_47 (by decide) ?_
  refine lv_icmp_lt (tgt := 61) hx hb dX3_operate_49 (by decide) (fun hc13 => ?_) (fun hc13 => ?_)
  · rw [if_pos hc13] at hF
    refine lv_iload_n hx hb dX3_operate_61 rfl (lv_at hl 2 rfl) ?_
    by_cases hc14 : ((y2.1 &&& (255 : Int32)) - (y2.1 &&& (255 : Int32)) / (22 : Int32) * (22 : Int32)) = (0 : Int32)
    · rw [if_pos hc14] at hF
      refine lv_tableIn (tgt := 132) hx hb dX3_operate_62 (by rw [hc14]; decide) (by rw [hc14]; decide) (by rw [hc14]; rfl) (by decide) ?_
      refine lv_goto (tgt := 231) hx hb dX3_operate_132 (by decide) ?_
      refine lv_iconst (v := (0 : Int32)) hx hb dX3_operate_231 (by decide) ?_
      exact cp_zret hx hb hr hlocks (by decide) hF hP hS dX3_operate_232
    · rw [if_neg hc14] at hF
      by_cases hc15 : ((y2.1 &&& (255 : Int32)) - (y2.1 &&& (255 : Int32)) / (22 : Int32) * (22 : Int32)) = (1 : Int32)
      · rw [if_pos hc15] at hF
        refine lv_tableIn (tgt := 212) hx hb dX3_operate_62 (by rw [hc15]; decide) (by rw [hc15]; decide) (by rw [hc15]; rfl) (by decide) ?_
        refine lv_aload_n hx hb dX3_operate_212 rfl (lv_at hl 4 rfl) ?_
        obtain ⟨r16, er16, hF⟩ := cp_bind hF
        refine cp_getRN (T := TX1) (N := 14) (ci := 1) (j := 0) hx hb htT hinX1 hown hK hP rfl (by decide) rfl (hN _ (List.mem_of_getElem? (i := 5) rfl)) er16 dX3_operate_213 ?_
        refine lv_iload_n hx hb dX3_operate_216 rfl (lv_at hl 1 rfl) ?_
        refine lv_bipush (v := (7 : Int32)) hx hb dX3_operate_217 (by decide) ?_
        refine lv_iand hx hb dX3_operate_219 ?_
        refine lv_aload_n hx hb dX3_operate_220 rfl (lv_at hl 3 rfl) ?_
        refine lv_aload_n hx hb dX3_operate_221 rfl (lv_at hl 4 rfl) ?_
        refine lv_iload_n hx hb dX3_operate_222 rfl (lv_at hl 2 rfl) ?_
        refine lv_iload_n hx hb dX3_operate_223 rfl (lv_at hl 1 rfl) ?_
        refine lv_iload hx hb dX3_operate_224 (lv_at hl 0 rfl) ?_
        obtain ⟨f17, ef17, hF⟩ := cp_bind hF
        obtain ⟨y18, ey18, hF⟩ := cp_bind hF
        refine cp_call (st1 := [.int y18.1, .int (y4.1 &&& (7 : Int32)), .ref (L.2.1 r16)]) (va_runV (As := [.ref (L.2.1 k1), .int ((y2.1 &&& (255 : Int32)) - (y2.1 &&& (255 : Int32)) / (22 : Int32) * (22 : Int32)), .int y4.1, .int y6.1]) (rest := [.int (y4.1 &&& (7 : Int32)), .ref (L.2.1 r16)]) ⟨hx, hb, hml, hown, htT⟩ (ct_X3_reckon l G L hJ q k0 k1 ((y2.1 &&& (255 : Int32)) - (y2.1 &&& (255 : Int32)) / (22 : Int32) * (22 : Int32)) y4.1 y6.1 D12 y18 ey18) ⟨callB_of 4 htT gdX3_reckon rfl rfl rfl (htT _ tw_6) (htT _ tw_299) hdX3_reckon ⟨Nat.le_of_ble_eq_true rfl, Nat.le_of_ble_eq_true rfl⟩, (htT _ tw_300), (htT _ tw_556)⟩ ⟨cp_blind, cp_recv hK hP rfl ef17, cp_pre hP hK hN hZ hS⟩ rfl rfl hl.1 rfl (lv_room (Nat.le_of_ble_eq_true rfl)) dX3_operate_226 ⟨Nat.zero_le _, Nat.zero_le _⟩) hS (fun H locs hP hS => ?_)
        refine lv_i2b hx hb dX3_operate_229 rfl ?_
        obtain ⟨D19, eD19, hF⟩ := cp_bind hF
        refine cp_bast hx hb hK hJ hP hS eD19 dX3_operate_230 (fun H locs hP hS => ?_)
        refine lv_iconst (v := (0 : Int32)) hx hb dX3_operate_231 (by decide) ?_
        exact cp_zret hx hb hr hlocks (by decide) hF hP hS dX3_operate_232
      · rw [if_neg hc15] at hF
        by_cases hc20 : ((y2.1 &&& (255 : Int32)) - (y2.1 &&& (255 : Int32)) / (22 : Int32) * (22 : Int32)) = (2 : Int32)
        · rw [if_pos hc20] at hF
          refine lv_tableIn (tgt := 212) hx hb dX3_operate_62 (by rw [hc20]; decide) (by rw [hc20]; decide) (by rw [hc20]; rfl) (by decide) ?_
          refine lv_aload_n hx hb dX3_operate_212 rfl (lv_at hl 4 rfl) ?_
          obtain ⟨r21, er21, hF⟩ := cp_bind hF
          refine cp_getRN (T := TX1) (N := 14) (ci := 1) (j := 0) hx hb htT hinX1 hown hK hP rfl (by decide) rfl (hN _ (List.mem_of_getElem? (i := 5) rfl)) er21 dX3_operate_213 ?_
          refine lv_iload_n hx hb dX3_operate_216 rfl (lv_at hl 1 rfl) ?_
          refine lv_bipush (v := (7 : Int32)) hx hb dX3_operate_217 (by decide) ?_
          refine lv_iand hx hb dX3_operate_219 ?_
          refine lv_aload_n hx hb dX3_operate_220 rfl (lv_at hl 3 rfl) ?_
          refine lv_aload_n hx hb dX3_operate_221 rfl (lv_at hl 4 rfl) ?_
          refine lv_iload_n hx hb dX3_operate_222 rfl (lv_at hl 2 rfl) ?_
          refine lv_iload_n hx hb dX3_operate_223 rfl (lv_at hl 1 rfl) ?_
          refine lv_iload hx hb dX3_operate_224 (lv_at hl 0 rfl) ?_
          obtain ⟨f22, ef22, hF⟩ := cp_bind hF
          obtain ⟨y23, ey23, hF⟩ := cp_bind hF
          refine cp_call (st1 := [.int y23.1, .int (y4.1 &&& (7 : Int32)), .ref (L.2.1 r21)]) (va_runV (As := [.ref (L.2.1 k1), .int ((y2.1 &&& (255 : Int32)) - (y2.1 &&& (255 : Int32)) / (22 : Int32) * (22 : Int32)), .int y4.1, .int y6.1]) (rest := [.int (y4.1 &&& (7 : Int32)), .ref (L.2.1 r21)]) ⟨hx, hb, hml, hown, htT⟩ (ct_X3_reckon l G L hJ q k0 k1 ((y2.1 &&& (255 : Int32)) - (y2.1 &&& (255 : Int32)) / (22 : Int32) * (22 : Int32)) y4.1 y6.1 D12 y23 ey23) ⟨callB_of 4 htT gdX3_reckon rfl rfl rfl (htT _ tw_6) (htT _ tw_299) hdX3_reckon ⟨Nat.le_of_ble_eq_true rfl, Nat.le_of_ble_eq_true rfl⟩, (htT _ tw_300), (htT _ tw_556)⟩ ⟨cp_blind, cp_recv hK hP rfl ef22, cp_pre hP hK hN hZ hS⟩ rfl rfl hl.1 rfl (lv_room (Nat.le_of_ble_eq_true rfl)) dX3_operate_226 ⟨Nat.zero_le _, Nat.zero_le _⟩) hS (fun H locs hP hS => ?_)
          refine lv_i2b hx hb dX3_operate_229 rfl ?_
          obtain ⟨D24, eD24, hF⟩ := cp_bind hF
          refine cp_bast hx hb hK hJ hP hS eD24 dX3_operate_230 (fun H locs hP hS => ?_)
          refine lv_iconst (v := (0 : Int32)) hx hb dX3_operate_231 (by decide) ?_
          exact cp_zret hx hb hr hlocks (by decide) hF hP hS dX3_operate_232
        · rw [if_neg hc20] at hF
          by_cases hc25 : ((y2.1 &&& (255 : Int32)) - (y2.1 &&& (255 : Int32)) / (22 : Int32) * (22 : Int32)) = (3 : Int32)
          · rw [if_pos hc25] at hF
            refine lv_tableIn (tgt := 212) hx hb dX3_operate_62 (by rw [hc25]; decide) (by rw [hc25]; decide) (by rw [hc25]; rfl) (by decide) ?_
            refine lv_aload_n hx hb dX3_operate_212 rfl (lv_at hl 4 rfl) ?_
            obtain ⟨r26, er26, hF⟩ := cp_bind hF
            refine cp_getRN (T := TX1) (N := 14) (ci := 1) (j := 0) hx hb htT hinX1 hown hK hP rfl (by decide) rfl (hN _ (List.mem_of_getElem? (i := 5) rfl)) er26 dX3_operate_213 ?_
            refine lv_iload_n hx hb dX3_operate_216 rfl (lv_at hl 1 rfl) ?_
            refine lv_bipush (v := (7 : Int32)) hx hb dX3_operate_217 (by decide) ?_
            refine lv_iand hx hb dX3_operate_219 ?_
            refine lv_aload_n hx hb dX3_operate_220 rfl (lv_at hl 3 rfl) ?_
            refine lv_aload_n hx hb dX3_operate_221 rfl (lv_at hl 4 rfl) ?_
            refine lv_iload_n hx hb dX3_operate_222 rfl (lv_at hl 2 rfl) ?_
            refine lv_iload_n hx hb dX3_operate_223 rfl (lv_at hl 1 rfl) ?_
            refine lv_iload hx hb dX3_operate_224 (lv_at hl 0 rfl) ?_
            obtain ⟨f27, ef27, hF⟩ := cp_bind hF
            obtain ⟨y28, ey28, hF⟩ := cp_bind hF
            refine cp_call (st1 := [.int y28.1, .int (y4.1 &&& (7 : Int32)), .ref (L.2.1 r26)]) (va_runV (As := [.ref (L.2.1 k1), .int ((y2.1 &&& (255 : Int32)) - (y2.1 &&& (255 : Int32)) / (22 : Int32) * (22 : Int32)), .int y4.1, .int y6.1]) (rest := [.int (y4.1 &&& (7 : Int32)), .ref (L.2.1 r26)]) ⟨hx, hb, hml, hown, htT⟩ (ct_X3_reckon l G L hJ q k0 k1 ((y2.1 &&& (255 : Int32)) - (y2.1 &&& (255 : Int32)) / (22 : Int32) * (22 : Int32)) y4.1 y6.1 D12 y28 ey28) ⟨callB_of 4 htT gdX3_reckon rfl rfl rfl (htT _ tw_6) (htT _ tw_299) hdX3_reckon ⟨Nat.le_of_ble_eq_true rfl, Nat.le_of_ble_eq_true rfl⟩, (htT _ tw_300), (htT _ tw_556)⟩ ⟨cp_blind, cp_recv hK hP rfl ef27, cp_pre hP hK hN hZ hS⟩ rfl rfl hl.1 rfl (lv_room (Nat.le_of_ble_eq_true rfl)) dX3_operate_226 ⟨Nat.zero_le _, Nat.zero_le _⟩) hS (fun H locs hP hS => ?_)
            refine lv_i2b hx hb dX3_operate_229 rfl ?_
            obtain ⟨D29, eD29, hF⟩ := cp_bind hF
            refine cp_bast hx hb hK hJ hP hS eD29 dX3_operate_230 (fun H locs hP hS => ?_)
            refine lv_iconst (v := (0 : Int32)) hx hb dX3_operate_231 (by decide) ?_
            exact cp_zret hx hb hr hlocks (by decide) hF hP hS dX3_operate_232
          · rw [if_neg hc25] at hF
            by_cases hc30 : ((y2.1 &&& (255 : Int32)) - (y2.1 &&& (255 : Int32)) / (22 : Int32) * (22 : Int32)) = (4 : Int32)
            · rw [if_pos hc30] at hF
              refine lv_tableIn (tgt := 212) hx hb dX3_operate_62 (by rw [hc30]; decide) (by rw [hc30]; decide) (by rw [hc30]; rfl) (by decide) ?_
              refine lv_aload_n hx hb dX3_operate_212 rfl (lv_at hl 4 rfl) ?_
              obtain ⟨r31, er31, hF⟩ := cp_bind hF
              refine cp_getRN (T := TX1) (N := 14) (ci := 1) (j := 0) hx hb htT hinX1 hown hK hP rfl (by decide) rfl (hN _ (List.mem_of_getElem? (i := 5) rfl)) er31 dX3_operate_213 ?_
              refine lv_iload_n hx hb dX3_operate_216 rfl (lv_at hl 1 rfl) ?_
              refine lv_bipush (v := (7 : Int32)) hx hb dX3_operate_217 (by decide) ?_
              refine lv_iand hx hb dX3_operate_219 ?_
              refine lv_aload_n hx hb dX3_operate_220 rfl (lv_at hl 3 rfl) ?_
              refine lv_aload_n hx hb dX3_operate_221 rfl (lv_at hl 4 rfl) ?_
              refine lv_iload_n hx hb dX3_operate_222 rfl (lv_at hl 2 rfl) ?_
              refine lv_iload_n hx hb dX3_operate_223 rfl (lv_at hl 1 rfl) ?_
              refine lv_iload hx hb dX3_operate_224 (lv_at hl 0 rfl) ?_
              obtain ⟨f32, ef32, hF⟩ := cp_bind hF
              obtain ⟨y33, ey33, hF⟩ := cp_bind hF
              refine cp_call (st1 := [.int y33.1, .int (y4.1 &&& (7 : Int32)), .ref (L.2.1 r31)]) (va_runV (As := [.ref (L.2.1 k1), .int ((y2.1 &&& (255 : Int32)) - (y2.1 &&& (255 : Int32)) / (22 : Int32) * (22 : Int32)), .int y4.1, .int y6.1]) (rest := [.int (y4.1 &&& (7 : Int32)), .ref (L.2.1 r31)]) ⟨hx, hb, hml, hown, htT⟩ (ct_X3_reckon l G L hJ q k0 k1 ((y2.1 &&& (255 : Int32)) - (y2.1 &&& (255 : Int32)) / (22 : Int32) * (22 : Int32)) y4.1 y6.1 D12 y33 ey33) ⟨callB_of 4 htT gdX3_reckon rfl rfl rfl (htT _ tw_6) (htT _ tw_299) hdX3_reckon ⟨Nat.le_of_ble_eq_true rfl, Nat.le_of_ble_eq_true rfl⟩, (htT _ tw_300), (htT _ tw_556)⟩ ⟨cp_blind, cp_recv hK hP rfl ef32, cp_pre hP hK hN hZ hS⟩ rfl rfl hl.1 rfl (lv_room (Nat.le_of_ble_eq_true rfl)) dX3_operate_226 ⟨Nat.zero_le _, Nat.zero_le _⟩) hS (fun H locs hP hS => ?_)
              refine lv_i2b hx hb dX3_operate_229 rfl ?_
              obtain ⟨D34, eD34, hF⟩ := cp_bind hF
              refine cp_bast hx hb hK hJ hP hS eD34 dX3_operate_230 (fun H locs hP hS => ?_)
              refine lv_iconst (v := (0 : Int32)) hx hb dX3_operate_231 (by decide) ?_
              exact cp_zret hx hb hr hlocks (by decide) hF hP hS dX3_operate_232
            · rw [if_neg hc30] at hF
              by_cases hc35 : ((y2.1 &&& (255 : Int32)) - (y2.1 &&& (255 : Int32)) / (22 : Int32) * (22 : Int32)) = (5 : Int32)
              · rw [if_pos hc35] at hF
                refine lv_tableIn (tgt := 212) hx hb dX3_operate_62 (by rw [hc35]; decide) (by rw [hc35]; decide) (by rw [hc35]; rfl) (by decide) ?_
                refine lv_aload_n hx hb dX3_operate_212 rfl (lv_at hl 4 rfl) ?_
                obtain ⟨r36, er36, hF⟩ := cp_bind hF
                refine cp_getRN (T := TX1) (N := 14) (ci := 1) (j := 0) hx hb htT hinX1 hown hK hP rfl (by decide) rfl (hN _ (List.mem_of_getElem? (i := 5) rfl)) er36 dX3_operate_213 ?_
                refine lv_iload_n hx hb dX3_operate_216 rfl (lv_at hl 1 rfl) ?_
                refine lv_bipush (v := (7 : Int32)) hx hb dX3_operate_217 (by decide) ?_
                refine lv_iand hx hb dX3_operate_219 ?_
                refine lv_aload_n hx hb dX3_operate_220 rfl (lv_at hl 3 rfl) ?_
                refine lv_aload_n hx hb dX3_operate_221 rfl (lv_at hl 4 rfl) ?_
                refine lv_iload_n hx hb dX3_operate_222 rfl (lv_at hl 2 rfl) ?_
                refine lv_iload_n hx hb dX3_operate_223 rfl (lv_at hl 1 rfl) ?_
                refine lv_iload hx hb dX3_operate_224 (lv_at hl 0 rfl) ?_
                obtain ⟨f37, ef37, hF⟩ := cp_bind hF
                obtain ⟨y38, ey38, hF⟩ := cp_bind hF
                refine cp_call (st1 := [.int y38.1, .int (y4.1 &&& (7 : Int32)), .ref (L.2.1 r36)]) (va_runV (As := [.ref (L.2.1 k1), .int ((y2.1 &&& (255 : Int32)) - (y2.1 &&& (255 : Int32)) / (22 : Int32) * (22 : Int32)), .int y4.1, .int y6.1]) (rest := [.int (y4.1 &&& (7 : Int32)), .ref (L.2.1 r36)]) ⟨hx, hb, hml, hown, htT⟩ (ct_X3_reckon l G L hJ q k0 k1 ((y2.1 &&& (255 : Int32)) - (y2.1 &&& (255 : Int32)) / (22 : Int32) * (22 : Int32)) y4.1 y6.1 D12 y38 ey38) ⟨callB_of 4 htT gdX3_reckon rfl rfl rfl (htT _ tw_6) (htT _ tw_299) hdX3_reckon ⟨Nat.le_of_ble_eq_true rfl, Nat.le_of_ble_eq_true rfl⟩, (htT _ tw_300), (htT _ tw_556)⟩ ⟨cp_blind, cp_recv hK hP rfl ef37, cp_pre hP hK hN hZ hS⟩ rfl rfl hl.1 rfl (lv_room (Nat.le_of_ble_eq_true rfl)) dX3_operate_226 ⟨Nat.zero_le _, Nat.zero_le _⟩) hS (fun H locs hP hS => ?_)
                refine lv_i2b hx hb dX3_operate_229 rfl ?_
                obtain ⟨D39, eD39, hF⟩ := cp_bind hF
                refine cp_bast hx hb hK hJ hP hS eD39 dX3_operate_230 (fun H locs hP hS => ?_)
                refine lv_iconst (v := (0 : Int32)) hx hb dX3_operate_231 (by decide) ?_
                exact cp_zret hx hb hr hlocks (by decide) hF hP hS dX3_operate_232
              · rw [if_neg hc35] at hF
                by_cases hc40 : ((y2.1 &&& (255 : Int32)) - (y2.1 &&& (255 : Int32)) / (22 : Int32) * (22 : Int32)) = (6 : Int32)
                · rw [if_pos hc40] at hF
                  refine lv_tableIn (tgt := 212) hx hb dX3_operate_62 (by rw [hc40]; decide) (by rw [hc40]; decide) (by rw [hc40]; rfl) (by decide) ?_
                  refine lv_aload_n hx hb dX3_operate_212 rfl (lv_at hl 4 rfl) ?_
                  obtain ⟨r41, er41, hF⟩ := cp_bind hF
                  refine cp_getRN (T := TX1) (N := 14) (ci := 1) (j := 0) hx hb htT hinX1 hown hK hP rfl (by decide) rfl (hN _ (List.mem_of_getElem? (i := 5) rfl)) er41 dX3_operate_213 ?_
                  refine lv_iload_n hx hb dX3_operate_216 rfl (lv_at hl 1 rfl) ?_
                  refine lv_bipush (v := (7 : Int32)) hx hb dX3_operate_217 (by decide) ?_
                  refine lv_iand hx hb dX3_operate_219 ?_
                  refine lv_aload_n hx hb dX3_operate_220 rfl (lv_at hl 3 rfl) ?_
                  refine lv_aload_n hx hb dX3_operate_221 rfl (lv_at hl 4 rfl) ?_
                  refine lv_iload_n hx hb dX3_operate_222 rfl (lv_at hl 2 rfl) ?_
                  refine lv_iload_n hx hb dX3_operate_223 rfl (lv_at hl 1 rfl) ?_
                  refine lv_iload hx hb dX3_operate_224 (lv_at hl 0 rfl) ?_
                  obtain ⟨f42, ef42, hF⟩ := cp_bind hF
                  obtain ⟨y43, ey43, hF⟩ := cp_bind hF
                  refine cp_call (st1 := [.int y43.1, .int (y4.1 &&& (7 : Int32)), .ref (L.2.1 r41)]) (va_runV (As := [.ref (L.2.1 k1), .int ((y2.1 &&& (255 : Int32)) - (y2.1 &&& (255 : Int32)) / (22 : Int32) * (22 : Int32)), .int y4.1, .int y6.1]) (rest := [.int (y4.1 &&& (7 : Int32)), .ref (L.2.1 r41)]) ⟨hx, hb, hml, hown, htT⟩ (ct_X3_reckon l G L hJ q k0 k1 ((y2.1 &&& (255 : Int32)) - (y2.1 &&& (255 : Int32)) / (22 : Int32) * (22 : Int32)) y4.1 y6.1 D12 y43 ey43) ⟨callB_of 4 htT gdX3_reckon rfl rfl rfl (htT _ tw_6) (htT _ tw_299) hdX3_reckon ⟨Nat.le_of_ble_eq_true rfl, Nat.le_of_ble_eq_true rfl⟩, (htT _ tw_300), (htT _ tw_556)⟩ ⟨cp_blind, cp_recv hK hP rfl ef42, cp_pre hP hK hN hZ hS⟩ rfl rfl hl.1 rfl (lv_room (Nat.le_of_ble_eq_true rfl)) dX3_operate_226 ⟨Nat.zero_le _, Nat.zero_le _⟩) hS (fun H locs hP hS => ?_)
                  refine lv_i2b hx hb dX3_operate_229 rfl ?_
                  obtain ⟨D44, eD44, hF⟩ := cp_bind hF
                  refine cp_bast hx hb hK hJ hP hS eD44 dX3_operate_230 (fun H locs hP hS => ?_)
                  refine lv_iconst (v := (0 : Int32)) hx hb dX3_operate_231 (by decide) ?_
                  exact cp_zret hx hb hr hlocks (by decide) hF hP hS dX3_operate_232
                · rw [if_neg hc40] at hF
                  by_cases hc45 : ((y2.1 &&& (255 : Int32)) - (y2.1 &&& (255 : Int32)) / (22 : Int32) * (22 : Int32)) = (7 : Int32)
                  · rw [if_pos hc45] at hF
                    refine lv_tableIn (tgt := 212) hx hb dX3_operate_62 (by rw [hc45]; decide) (by rw [hc45]; decide) (by rw [hc45]; rfl) (by decide) ?_
                    refine lv_aload_n hx hb dX3_operate_212 rfl (lv_at hl 4 rfl) ?_
                    obtain ⟨r46, er46, hF⟩ := cp_bind hF
                    refine cp_getRN (T := TX1) (N := 14) (ci := 1) (j := 0) hx hb htT hinX1 hown hK hP rfl (by decide) rfl (hN _ (List.mem_of_getElem? (i := 5) rfl)) er46 dX3_operate_213 ?_
                    refine lv_iload_n hx hb dX3_operate_216 rfl (lv_at hl 1 rfl) ?_
                    refine lv_bipush (v := (7 : Int32)) hx hb dX3_operate_217 (by decide) ?_
                    refine lv_iand hx hb dX3_operate_219 ?_
                    refine lv_aload_n hx hb dX3_operate_220 rfl (lv_at hl 3 rfl) ?_
                    refine lv_aload_n hx hb dX3_operate_221 rfl (lv_at hl 4 rfl) ?_
                    refine lv_iload_n hx hb dX3_operate_222 rfl (lv_at hl 2 rfl) ?_
                    refine lv_iload_n hx hb dX3_operate_223 rfl (lv_at hl 1 rfl) ?_
                    refine lv_iload hx hb dX3_operate_224 (lv_at hl 0 rfl) ?_
                    obtain ⟨f47, ef47, hF⟩ := cp_bind hF
                    obtain ⟨y48, ey48, hF⟩ := cp_bind hF
                    refine cp_call (st1 := [.int y48.1, .int (y4.1 &&& (7 : Int32)), .ref (L.2.1 r46)]) (va_runV (As := [.ref (L.2.1 k1), .int ((y2.1 &&& (255 : Int32)) - (y2.1 &&& (255 : Int32)) / (22 : Int32) * (22 : Int32)), .int y4.1, .int y6.1]) (rest := [.int (y4.1 &&& (7 : Int32)), .ref (L.2.1 r46)]) ⟨hx, hb, hml, hown, htT⟩ (ct_X3_reckon l G L hJ q k0 k1 ((y2.1 &&& (255 : Int32)) - (y2.1 &&& (255 : Int32)) / (22 : Int32) * (22 : Int32)) y4.1 y6.1 D12 y48 ey48) ⟨callB_of 4 htT gdX3_reckon rfl rfl rfl (htT _ tw_6) (htT _ tw_299) hdX3_reckon ⟨Nat.le_of_ble_eq_true rfl, Nat.le_of_ble_eq_true rfl⟩, (htT _ tw_300), (htT _ tw_556)⟩ ⟨cp_blind, cp_recv hK hP rfl ef47, cp_pre hP hK hN hZ hS⟩ rfl rfl hl.1 rfl (lv_room (Nat.le_of_ble_eq_true rfl)) dX3_operate_226 ⟨Nat.zero_le _, Nat.zero_le _⟩) hS (fun H locs hP hS => ?_)
                    refine lv_i2b hx hb dX3_operate_229 rfl ?_
                    obtain ⟨D49, eD49, hF⟩ := cp_bind hF
                    refine cp_bast hx hb hK hJ hP hS eD49 dX3_operate_230 (fun H locs hP hS => ?_)
                    refine lv_iconst (v := (0 : Int32)) hx hb dX3_operate_231 (by decide) ?_
                    exact cp_zret hx hb hr hlocks (by decide) hF hP hS dX3_operate_232
                  · rw [if_neg hc45] at hF
                    by_cases hc50 : ((y2.1 &&& (255 : Int32)) - (y2.1 &&& (255 : Int32)) / (22 : Int32) * (22 : Int32)) = (8 : Int32)
                    · rw [if_pos hc50] at hF
                      refine lv_tableIn (tgt := 212) hx hb dX3_operate_62 (by rw [hc50]; decide) (by rw [hc50]; decide) (by rw [hc50]; rfl) (by decide) ?_
                      refine lv_aload_n hx hb dX3_operate_212 rfl (lv_at hl 4 rfl) ?_
                      obtain ⟨r51, er51, hF⟩ := cp_bind hF
                      refine cp_getRN (T := TX1) (N := 14) (ci := 1) (j := 0) hx hb htT hinX1 hown hK hP rfl (by decide) rfl (hN _ (List.mem_of_getElem? (i := 5) rfl)) er51 dX3_operate_213 ?_
                      refine lv_iload_n hx hb dX3_operate_216 rfl (lv_at hl 1 rfl) ?_
                      refine lv_bipush (v := (7 : Int32)) hx hb dX3_operate_217 (by decide) ?_
                      refine lv_iand hx hb dX3_operate_219 ?_
                      refine lv_aload_n hx hb dX3_operate_220 rfl (lv_at hl 3 rfl) ?_
                      refine lv_aload_n hx hb dX3_operate_221 rfl (lv_at hl 4 rfl) ?_
                      refine lv_iload_n hx hb dX3_operate_222 rfl (lv_at hl 2 rfl) ?_
                      refine lv_iload_n hx hb dX3_operate_223 rfl (lv_at hl 1 rfl) ?_
                      refine lv_iload hx hb dX3_operate_224 (lv_at hl 0 rfl) ?_
                      obtain ⟨f52, ef52, hF⟩ := cp_bind hF
                      obtain ⟨y53, ey53, hF⟩ := cp_bind hF
                      refine cp_call (st1 := [.int y53.1, .int (y4.1 &&& (7 : Int32)), .ref (L.2.1 r51)]) (va_runV (As := [.ref (L.2.1 k1), .int ((y2.1 &&& (255 : Int32)) - (y2.1 &&& (255 : Int32)) / (22 : Int32) * (22 : Int32)), .int y4.1, .int y6.1]) (rest := [.int (y4.1 &&& (7 : Int32)), .ref (L.2.1 r51)]) ⟨hx, hb, hml, hown, htT⟩ (ct_X3_reckon l G L hJ q k0 k1 ((y2.1 &&& (255 : Int32)) - (y2.1 &&& (255 : Int32)) / (22 : Int32) * (22 : Int32)) y4.1 y6.1 D12 y53 ey53) ⟨callB_of 4 htT gdX3_reckon rfl rfl rfl (htT _ tw_6) (htT _ tw_299) hdX3_reckon ⟨Nat.le_of_ble_eq_true rfl, Nat.le_of_ble_eq_true rfl⟩, (htT _ tw_300), (htT _ tw_556)⟩ ⟨cp_blind, cp_recv hK hP rfl ef52, cp_pre hP hK hN hZ hS⟩ rfl rfl hl.1 rfl (lv_room (Nat.le_of_ble_eq_true rfl)) dX3_operate_226 ⟨Nat.zero_le _, Nat.zero_le _⟩) hS (fun H locs hP hS => ?_)
                      refine lv_i2b hx hb dX3_operate_229 rfl ?_
                      obtain ⟨D54, eD54, hF⟩ := cp_bind hF
                      refine cp_bast hx hb hK hJ hP hS eD54 dX3_operate_230 (fun H locs hP hS => ?_)
                      refine lv_iconst (v := (0 : Int32)) hx hb dX3_operate_231 (by decide) ?_
                      exact cp_zret hx hb hr hlocks (by decide) hF hP hS dX3_operate_232
                    · rw [if_neg hc50] at hF
                      by_cases hc55 : ((y2.1 &&& (255 : Int32)) - (y2.1 &&& (255 : Int32)) / (22 : Int32) * (22 : Int32)) = (9 : Int32)
                      · rw [if_pos hc55] at hF
                        refine lv_tableIn (tgt := 212) hx hb dX3_operate_62 (by rw [hc55]; decide) (by rw [hc55]; decide) (by rw [hc55]; rfl) (by decide) ?_
                        refine lv_aload_n hx hb dX3_operate_212 rfl (lv_at hl 4 rfl) ?_
                        obtain ⟨r56, er56, hF⟩ := cp_bind hF
                        refine cp_getRN (T := TX1) (N := 14) (ci := 1) (j := 0) hx hb htT hinX1 hown hK hP rfl (by decide) rfl (hN _ (List.mem_of_getElem? (i := 5) rfl)) er56 dX3_operate_213 ?_
                        refine lv_iload_n hx hb dX3_operate_216 rfl (lv_at hl 1 rfl) ?_
                        refine lv_bipush (v := (7 : Int32)) hx hb dX3_operate_217 (by decide) ?_
                        refine lv_iand hx hb dX3_operate_219 ?_
                        refine lv_aload_n hx hb dX3_operate_220 rfl (lv_at hl 3 rfl) ?_
                        refine lv_aload_n hx hb dX3_operate_221 rfl (lv_at hl 4 rfl) ?_
                        refine lv_iload_n hx hb dX3_operate_222 rfl (lv_at hl 2 rfl) ?_
                        refine lv_iload_n hx hb dX3_operate_223 rfl (lv_at hl 1 rfl) ?_
                        refine lv_iload hx hb dX3_operate_224 (lv_at hl 0 rfl) ?_
                        obtain ⟨f57, ef57, hF⟩ := cp_bind hF
                        obtain ⟨y58, ey58, hF⟩ := cp_bind hF
                        refine cp_call (st1 := [.int y58.1, .int (y4.1 &&& (7 : Int32)), .ref (L.2.1 r56)]) (va_runV (As := [.ref (L.2.1 k1), .int ((y2.1 &&& (255 : Int32)) - (y2.1 &&& (255 : Int32)) / (22 : Int32) * (22 : Int32)), .int y4.1, .int y6.1]) (rest := [.int (y4.1 &&& (7 : Int32)), .ref (L.2.1 r56)]) ⟨hx, hb, hml, hown, htT⟩ (ct_X3_reckon l G L hJ q k0 k1 ((y2.1 &&& (255 : Int32)) - (y2.1 &&& (255 : Int32)) / (22 : Int32) * (22 : Int32)) y4.1 y6.1 D12 y58 ey58) ⟨callB_of 4 htT gdX3_reckon rfl rfl rfl (htT _ tw_6) (htT _ tw_299) hdX3_reckon ⟨Nat.le_of_ble_eq_true rfl, Nat.le_of_ble_eq_true rfl⟩, (htT _ tw_300), (htT _ tw_556)⟩ ⟨cp_blind, cp_recv hK hP rfl ef57, cp_pre hP hK hN hZ hS⟩ rfl rfl hl.1 rfl (lv_room (Nat.le_of_ble_eq_true rfl)) dX3_operate_226 ⟨Nat.zero_le _, Nat.zero_le _⟩) hS (fun H locs hP hS => ?_)
                        refine lv_i2b hx hb dX3_operate_229 rfl ?_
                        obtain ⟨D59, eD59, hF⟩ := cp_bind hF
                        refine cp_bast hx hb hK hJ hP hS eD59 dX3_operate_230 (fun H locs hP hS => ?_)
                        refine lv_iconst (v := (0 : Int32)) hx hb dX3_operate_231 (by decide) ?_
                        exact cp_zret hx hb hr hlocks (by decide) hF hP hS dX3_operate_232
                      · rw [if_neg hc55] at hF
                        by_cases hc60 : ((y2.1 &&& (255 : Int32)) - (y2.1 &&& (255 : Int32)) / (22 : Int32) * (22 : Int32)) = (10 : Int32)
                        · rw [if_pos hc60] at hF
                          refine lv_tableIn (tgt := 135) hx hb dX3_operate_62 (by rw [hc60]; decide) (by rw [hc60]; decide) (by rw [hc60]; rfl) (by decide) ?_
                          refine lv_aload_n hx hb dX3_operate_135 rfl (lv_at hl 4 rfl) ?_
                          obtain ⟨r61, er61, hF⟩ := cp_bind hF
                          refine cp_getRN (T := TX1) (N := 14) (ci := 1) (j := 1) hx hb htT hinX1 hown hK hP rfl (by decide) rfl (hN _ (List.mem_of_getElem? (i := 7) rfl)) er61 dX3_operate_136 ?_
                          refine lv_aload_n hx hb dX3_operate_139 rfl (lv_at hl 3 rfl) ?_
                          refine lv_aload_n hx hb dX3_operate_140 rfl (lv_at hl 4 rfl) ?_
                          refine lv_iload hx hb dX3_operate_141 (lv_at hl 0 rfl) ?_
                          obtain ⟨f62, ef62, hF⟩ := cp_bind hF
                          obtain ⟨y63, ey63, hF⟩ := cp_bind hF
                          refine cp_call (st1 := [.int y63.1, .ref (L.2.1 r61)]) (va_runV (As := [.ref (L.2.1 k1), .int y6.1]) (rest := [.ref (L.2.1 r61)]) ⟨hx, hb, hml, hown, htT⟩ (ct_X3_memoryIndex l G L hJ q k0 k1 y6.1 D12 y63 ey63) ⟨callB_of 2 htT gdX3_memoryIndex rfl rfl rfl (htT _ tw_6) (htT _ tw_293) hdX3_memoryIndex ⟨Nat.le_of_ble_eq_true rfl, Nat.le_of_ble_eq_true rfl⟩, (htT _ tw_294), (htT _ tw_554)⟩ ⟨cp_blind, cp_recv hK hP rfl ef62, cp_pre hP hK hN hZ hS⟩ rfl rfl hl.1 rfl (lv_room (Nat.le_of_ble_eq_true rfl)) dX3_operate_143 ⟨Nat.zero_le _, Nat.zero_le _⟩) hS (fun H locs hP hS => ?_)
                          refine lv_aload_n hx hb dX3_operate_146 rfl (lv_at hl 4 rfl) ?_
                          obtain ⟨r64, er64, hF⟩ := cp_bind hF
                          refine cp_getRN (T := TX1) (N := 14) (ci := 1) (j := 0) hx hb htT hinX1 hown hK hP rfl (by decide) rfl (hN _ (List.mem_of_getElem? (i := 5) rfl)) er64 dX3_operate_147 ?_
                          refine lv_iload_n hx hb dX3_operate_150 rfl (lv_at hl 1 rfl) ?_
                          refine lv_bipush (v := (7 : Int32)) hx hb dX3_operate_151 (by decide) ?_
                          refine lv_iand hx hb dX3_operate_153 ?_
                          obtain ⟨v65, ev65, hF⟩ := cp_bind hF
                          refine cp_bald hx hb hK hP ev65 dX3_operate_154 ?_
                          obtain ⟨D66, eD66, hF⟩ := cp_bind hF
                          refine cp_bast hx hb hK hJ hP hS eD66 dX3_operate_155 (fun H locs hP hS => ?_)
                          refine lv_goto (tgt := 231) hx hb dX3_operate_156 (by decide) ?_
                          refine lv_iconst (v := (0 : Int32)) hx hb dX3_operate_231 (by decide) ?_
                          exact cp_zret hx hb hr hlocks (by decide) hF hP hS dX3_operate_232
                        · rw [if_neg hc60] at hF
                          by_cases hc67 : ((y2.1 &&& (255 : Int32)) - (y2.1 &&& (255 : Int32)) / (22 : Int32) * (22 : Int32)) = (11 : Int32)
                          · rw [if_pos hc67] at hF
                            refine lv_tableIn (tgt := 159) hx hb dX3_operate_62 (by rw [hc67]; decide) (by rw [hc67]; decide) (by rw [hc67]; rfl) (by decide) ?_
                            refine lv_aload_n hx hb dX3_operate_159 rfl (lv_at hl 3 rfl) ?_
                            refine lv_aload_n hx hb dX3_operate_160 rfl (lv_at hl 4 rfl) ?_
                            refine lv_iload_n hx hb dX3_operate_161 rfl (lv_at hl 1 rfl) ?_
                            obtain ⟨f68, ef68, hF⟩ := cp_bind hF
                            obtain ⟨D69, eD69, hF⟩ := cp_bind hF
                            refine cp_call (st1 := []) (va_runV (As := [.ref (L.2.1 k1), .int y4.1]) (rest := []) ⟨hx, hb, hml, hown, htT⟩ (ct_X3_jump l G L hJ q k0 k1 y4.1 D12 D69 eD69) ⟨callB_of 2 htT gdX3_jump rfl rfl rfl (htT _ tw_6) (htT _ tw_296) hdX3_jump ⟨Nat.le_of_ble_eq_true rfl, Nat.le_of_ble_eq_true rfl⟩, (htT _ tw_297), (htT _ tw_555)⟩ ⟨cp_blind, cp_recv hK hP rfl ef68, cp_pre hP hK hN hZ hS⟩ rfl rfl hl.1 rfl (lv_room (Nat.le_of_ble_eq_true rfl)) dX3_operate_162 ⟨Nat.zero_le _, Nat.zero_le _⟩) hS (fun H locs hP hS => ?_)
                            refine lv_goto (tgt := 231) hx hb dX3_operate_165 (by decide) ?_
                            refine lv_iconst (v := (0 : Int32)) hx hb dX3_operate_231 (by decide) ?_
                            exact cp_zret hx hb hr hlocks (by decide) hF hP hS dX3_operate_232
                          · rw [if_neg hc67] at hF
                            by_cases hc70 : ((y2.1 &&& (255 : Int32)) - (y2.1 &&& (255 : Int32)) / (22 : Int32) * (22 : Int32)) = (12 : Int32)
                            · rw [if_pos hc70] at hF
                              refine lv_tableIn (tgt := 168) hx hb dX3_operate_62 (by rw [hc70]; decide) (by rw [hc70]; decide) (by rw [hc70]; rfl) (by decide) ?_
                              refine lv_aload_n hx hb dX3_operate_168 rfl (lv_at hl 4 rfl) ?_
                              obtain ⟨r71, er71, hF⟩ := cp_bind hF
                              refine cp_getRN (T := TX1) (N := 14) (ci := 1) (j := 0) hx hb htT hinX1 hown hK hP rfl (by decide) rfl (hN _ (List.mem_of_getElem? (i := 5) rfl)) er71 dX3_operate_169 ?_
                              refine lv_iload_n hx hb dX3_operate_172 rfl (lv_at hl 1 rfl) ?_
                              refine lv_bipush (v := (7 : Int32)) hx hb dX3_operate_173 (by decide) ?_
                              refine lv_iand hx hb dX3_operate_175 ?_
                              obtain ⟨v72, ev72, hF⟩ := cp_bind hF
                              refine cp_bald hx hb hK hP ev72 dX3_operate_176 ?_
                              refine lv_if_ne (tgt := 231) hx hb dX3_operate_177 (by decide) (fun hc73 => ?_) (fun hc73 => ?_)
                              · rw [if_neg hc73] at hF
                                refine lv_iconst (v := (0 : Int32)) hx hb dX3_operate_231 (by decide) ?_
                                exact cp_zret hx hb hr hlocks (by decide) hF hP hS dX3_operate_232
                              · rw [if_pos hc73] at hF
                                refine lv_aload_n hx hb dX3_operate_180 rfl (lv_at hl 3 rfl) ?_
                                refine lv_aload_n hx hb dX3_operate_181 rfl (lv_at hl 4 rfl) ?_
                                refine lv_iload hx hb dX3_operate_182 (lv_at hl 0 rfl) ?_
                                obtain ⟨f74, ef74, hF⟩ := cp_bind hF
                                obtain ⟨D75, eD75, hF⟩ := cp_bind hF
                                refine cp_call (st1 := []) (va_runV (As := [.ref (L.2.1 k1), .int y6.1]) (rest := []) ⟨hx, hb, hml, hown, htT⟩ (ct_X3_jump l G L hJ q k0 k1 y6.1 D12 D75 eD75) ⟨callB_of 2 htT gdX3_jump rfl rfl rfl (htT _ tw_6) (htT _ tw_296) hdX3_jump ⟨Nat.le_of_ble_eq_true rfl, Nat.le_of_ble_eq_true rfl⟩, (htT _ tw_297), (htT _ tw_555)⟩ ⟨cp_blind, cp_recv hK hP rfl ef74, cp_pre hP hK hN hZ hS⟩ rfl rfl hl.1 rfl (lv_room (Nat.le_of_ble_eq_true rfl)) dX3_operate_184 ⟨Nat.zero_le _, Nat.zero_le _⟩) hS (fun H locs hP hS => ?_)
                                refine lv_goto (tgt := 231) hx hb dX3_operate_187 (by decide) ?_
                                refine lv_iconst (v := (0 : Int32)) hx hb dX3_operate_231 (by decide) ?_
                                exact cp_zret hx hb hr hlocks (by decide) hF hP hS dX3_operate_232
                            · rw [if_neg hc70] at hF
                              by_cases hc76 : ((y2.1 &&& (255 : Int32)) - (y2.1 &&& (255 : Int32)) / (22 : Int32) * (22 : Int32)) = (13 : Int32)
                              · rw [if_pos hc76] at hF
                                refine lv_tableIn (tgt := 190) hx hb dX3_operate_62 (by rw [hc76]; decide) (by rw [hc76]; decide) (by rw [hc76]; rfl) (by decide) ?_
                                refine lv_aload_n hx hb dX3_operate_190 rfl (lv_at hl 4 rfl) ?_
                                obtain ⟨r77, er77, hF⟩ := cp_bind hF
                                refine cp_getRN (T := TX1) (N := 14) (ci := 1) (j := 0) hx hb htT hinX1 hown hK hP rfl (by decide) rfl (hN _ (List.mem_of_getElem? (i := 5) rfl)) er77 dX3_operate_191 ?_
                                refine lv_iload_n hx hb dX3_operate_194 rfl (lv_at hl 1 rfl) ?_
                                refine lv_bipush (v := (7 : Int32)) hx hb dX3_operate_195 (by decide) ?_
                                refine lv_iand hx hb dX3_operate_197 ?_
                                obtain ⟨v78, ev78, hF⟩ := cp_bind hF
                                refine cp_bald hx hb hK hP ev78 dX3_operate_198 ?_
                                refine lv_if_ge (tgt := 231) hx hb dX3_operate_199 (by decide) (fun hc79 => ?_) (fun hc79 => ?_)
                                · rw [if_pos hc79] at hF
                                  refine lv_iconst (v := (0 : Int32)) hx hb dX3_operate_231 (by decide) ?_
                                  exact cp_zret hx hb hr hlocks (by decide) hF hP hS dX3_operate_232
                                · rw [if_neg hc79] at hF
                                  refine lv_aload_n hx hb dX3_operate_202 rfl (lv_at hl 3 rfl) ?_
                                  refine lv_aload_n hx hb dX3_operate_203 rfl (lv_at hl 4 rfl) ?_
                                  refine lv_iload hx hb dX3_operate_204 (lv_at hl 0 rfl) ?_
                                  obtain ⟨f80, ef80, hF⟩ := cp_bind hF
                                  obtain ⟨D81, eD81, hF⟩ := cp_bind hF
                                  refine cp_call (st1 := []) (va_runV (As := [.ref (L.2.1 k1), .int y6.1]) (rest := []) ⟨hx, hb, hml, hown, htT⟩ (ct_X3_jump l G L hJ q k0 k1 y6.1 D12 D81 eD81) ⟨callB_of 2 htT gdX3_jump rfl rfl rfl (htT _ tw_6) (htT _ tw_296) hdX3_jump ⟨Nat.le_of_ble_eq_true rfl, Nat.le_of_ble_eq_true rfl⟩, (htT _ tw_297), (htT _ tw_555)⟩ ⟨cp_blind, cp_recv hK hP rfl ef80, cp_pre hP hK hN hZ hS⟩ rfl rfl hl.1 rfl (lv_room (Nat.le_of_ble_eq_true rfl)) dX3_operate_206 ⟨Nat.zero_le _, Nat.zero_le _⟩) hS (fun H locs hP hS => ?_)
                                  refine lv_goto (tgt := 231) hx hb dX3_operate_209 (by decide) ?_
                                  refine lv_iconst (v := (0 : Int32)) hx hb dX3_operate_231 (by decide) ?_
                                  exact cp_zret hx hb hr hlocks (by decide) hF hP hS dX3_operate_232
                              · rw [if_neg hc76] at hF
                                have zhc14 := lv_neT (a := 0) hc14 (by decide)
                                have zhc15 := lv_neT (a := 1) hc15 (by decide)
                                have zhc20 := lv_neT (a := 2) hc20 (by decide)
                                have zhc25 := lv_neT (a := 3) hc25 (by decide)
                                have zhc30 := lv_neT (a := 4) hc30 (by decide)
                                have zhc35 := lv_neT (a := 5) hc35 (by decide)
                                have zhc40 := lv_neT (a := 6) hc40 (by decide)
                                have zhc45 := lv_neT (a := 7) hc45 (by decide)
                                have zhc50 := lv_neT (a := 8) hc50 (by decide)
                                have zhc55 := lv_neT (a := 9) hc55 (by decide)
                                have zhc60 := lv_neT (a := 10) hc60 (by decide)
                                have zhc67 := lv_neT (a := 11) hc67 (by decide)
                                have zhc70 := lv_neT (a := 12) hc70 (by decide)
                                have zhc76 := lv_neT (a := 13) hc76 (by decide)
                                refine lv_tableOut (tgt := 212) hx hb dX3_operate_62 (by omega) (by decide) ?_
                                refine lv_aload_n hx hb dX3_operate_212 rfl (lv_at hl 4 rfl) ?_
                                obtain ⟨r82, er82, hF⟩ := cp_bind hF
                                refine cp_getRN (T := TX1) (N := 14) (ci := 1) (j := 0) hx hb htT hinX1 hown hK hP rfl (by decide) rfl (hN _ (List.mem_of_getElem? (i := 5) rfl)) er82 dX3_operate_213 ?_
                                refine lv_iload_n hx hb dX3_operate_216 rfl (lv_at hl 1 rfl) ?_
                                refine lv_bipush (v := (7 : Int32)) hx hb dX3_operate_217 (by decide) ?_
                                refine lv_iand hx hb dX3_operate_219 ?_
                                refine lv_aload_n hx hb dX3_operate_220 rfl (lv_at hl 3 rfl) ?_
                                refine lv_aload_n hx hb dX3_operate_221 rfl (lv_at hl 4 rfl) ?_
                                refine lv_iload_n hx hb dX3_operate_222 rfl (lv_at hl 2 rfl) ?_
                                refine lv_iload_n hx hb dX3_operate_223 rfl (lv_at hl 1 rfl) ?_
                                refine lv_iload hx hb dX3_operate_224 (lv_at hl 0 rfl) ?_
                                obtain ⟨f83, ef83, hF⟩ := cp_bind hF
                                obtain ⟨y84, ey84, hF⟩ := cp_bind hF
                                refine cp_call (st1 := [.int y84.1, .int (y4.1 &&& (7 : Int32)), .ref (L.2.1 r82)]) (va_runV (As := [.ref (L.2.1 k1), .int ((y2.1 &&& (255 : Int32)) - (y2.1 &&& (255 : Int32)) / (22 : Int32) * (22 : Int32)), .int y4.1, .int y6.1]) (rest := [.int (y4.1 &&& (7 : Int32)), .ref (L.2.1 r82)]) ⟨hx, hb, hml, hown, htT⟩ (ct_X3_reckon l G L hJ q k0 k1 ((y2.1 &&& (255 : Int32)) - (y2.1 &&& (255 : Int32)) / (22 : Int32) * (22 : Int32)) y4.1 y6.1 D12 y84 ey84) ⟨callB_of 4 htT gdX3_reckon rfl rfl rfl (htT _ tw_6) (htT _ tw_299) hdX3_reckon ⟨Nat.le_of_ble_eq_true rfl, Nat.le_of_ble_eq_true rfl⟩, (htT _ tw_300), (htT _ tw_556)⟩ ⟨cp_blind, cp_recv hK hP rfl ef83, cp_pre hP hK hN hZ hS⟩ rfl rfl hl.1 rfl (lv_room (Nat.le_of_ble_eq_true rfl)) dX3_operate_226 ⟨Nat.zero_le _, Nat.zero_le _⟩) hS (fun H locs hP hS => ?_)
                                refine lv_i2b hx hb dX3_operate_229 rfl ?_
                                obtain ⟨D85, eD85, hF⟩ := cp_bind hF
                                refine cp_bast hx hb hK hJ hP hS eD85 dX3_operate_230 (fun H locs hP hS => ?_)
                                refine lv_iconst (v := (0 : Int32)) hx hb dX3_operate_231 (by decide) ?_
                                exact cp_zret hx hb hr hlocks (by decide) hF hP hS dX3_operate_232
  · rw [if_neg hc13] at hF
    refine lv_aload_n hx hb dX3_operate_52 rfl (lv_at hl 3 rfl) ?_
    refine lv_aload_n hx hb dX3_operate_53 rfl (lv_at hl 4 rfl) ?_
    refine lv_iload_n hx hb dX3_operate_54 rfl (lv_at hl 2 rfl) ?_
    refine lv_iload_n hx hb dX3_operate_55 rfl (lv_at hl 1 rfl) ?_
    obtain ⟨f86, ef86, hF⟩ := cp_bind hF
    obtain ⟨D87, eD87, hF⟩ := cp_bind hF
    refine cp_call (st1 := []) (va_runV (As := [.ref (L.2.1 k1), .int ((y2.1 &&& (255 : Int32)) - (y2.1 &&& (255 : Int32)) / (22 : Int32) * (22 : Int32)), .int y4.1]) (rest := []) ⟨hx, hb, hml, hown, htT⟩ (ct_X3_act l G L hJ q k0 k1 ((y2.1 &&& (255 : Int32)) - (y2.1 &&& (255 : Int32)) / (22 : Int32) * (22 : Int32)) y4.1 D12 D87 eD87) ⟨callB_of 3 htT gdX3_act rfl rfl rfl (htT _ tw_6) (htT _ tw_278) hdX3_act ⟨Nat.le_of_ble_eq_true rfl, Nat.le_of_ble_eq_true rfl⟩, (htT _ tw_279), (htT _ tw_549)⟩ ⟨cp_blind, cp_recv hK hP rfl ef86, cp_pre hP hK hN hZ hS⟩ rfl rfl hl.1 rfl (lv_room (Nat.le_of_ble_eq_true rfl)) dX3_operate_56 ⟨Nat.zero_le _, Nat.zero_le _⟩) hS (fun H locs hP hS => ?_)
    refine lv_iconst (v := (1 : Int32)) hx hb dX3_operate_59 (by decide) ?_
    exact cp_zret hx hb hr hlocks (by decide) hF hP hS dX3_operate_60
