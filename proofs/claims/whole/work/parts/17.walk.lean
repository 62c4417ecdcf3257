theorem dX6_code_0 : decode cX6_code 0 = .ok (.aload_n 0, 1) := by decide +kernel
theorem dX6_code_1 : decode cX6_code 1 = .ok (.iload_n 2, 1) := by decide +kernel
theorem dX6_code_2 : decode cX6_code 2 = .ok (.iconst 1, 1) := by decide +kernel
theorem dX6_code_3 : decode cX6_code 3 = .ok (.if_icmp .lt 17, 3) := by decide +kernel
theorem dX6_code_6 : decode cX6_code 6 = .ok (.iload_n 2, 1) := by decide +kernel
theorem dX6_code_7 : decode cX6_code 7 = .ok (.bipush 8, 2) := by decide +kernel
theorem dX6_code_9 : decode cX6_code 9 = .ok (.if_icmp .gt 11, 3) := by decide +kernel
theorem dX6_code_12 : decode cX6_code 12 = .ok (.aload_n 0, 1) := by decide +kernel
theorem dX6_code_13 : decode cX6_code 13 = .ok (.iload_n 1, 1) := by decide +kernel
theorem dX6_code_14 : decode cX6_code 14 = .ok (.invokevirtual 34, 3) := by decide +kernel
theorem dX6_code_17 : decode cX6_code 17 = .ok (.ifCond .ne 7, 3) := by decide +kernel
theorem dX6_code_20 : decode cX6_code 20 = .ok (.iconst 1, 1) := by decide +kernel
theorem dX6_code_21 : decode cX6_code 21 = .ok (.goto 4, 3) := by decide +kernel
theorem dX6_code_24 : decode cX6_code 24 = .ok (.iconst 0, 1) := by decide +kernel
theorem dX6_code_25 : decode cX6_code 25 = .ok (.putfield 23, 3) := by decide +kernel
theorem dX6_code_28 : decode cX6_code 28 = .ok (.aload_n 0, 1) := by decide +kernel
theorem dX6_code_29 : decode cX6_code 29 = .ok (.getfield 23, 3) := by decide +kernel
theorem dX6_code_32 : decode cX6_code 32 = .ok (.ifCond .le 5, 3) := by decide +kernel
theorem dX6_code_35 : decode cX6_code 35 = .ok (.iconst 0, 1) := by decide +kernel
theorem dX6_code_36 : decode cX6_code 36 = .ok (.ireturn, 1) := by decide +kernel
theorem dX6_code_37 : decode cX6_code 37 = .ok (.iload_n 1, 1) := by decide +kernel
theorem dX6_code_38 : decode cX6_code 38 = .ok (.invokestatic 30, 3) := by decide +kernel
theorem dX6_code_41 : decode cX6_code 41 = .ok (.istore 5, 2) := by decide +kernel
theorem dX6_code_43 : decode cX6_code 43 = .ok (.aload_n 0, 1) := by decide +kernel
theorem dX6_code_44 : decode cX6_code 44 = .ok (.aload_n 0, 1) := by decide +kernel
theorem dX6_code_45 : decode cX6_code 45 = .ok (.getfield 7, 3) := by decide +kernel
theorem dX6_code_48 : decode cX6_code 48 = .ok (.iload 5, 2) := by decide +kernel
theorem dX6_code_50 : decode cX6_code 50 = .ok (.iconst 5, 1) := by decide +kernel
theorem dX6_code_51 : decode cX6_code 51 = .ok (.iadd, 1) := by decide +kernel
theorem dX6_code_52 : decode cX6_code 52 = .ok (.iaload, 1) := by decide +kernel
theorem dX6_code_53 : decode cX6_code 53 = .ok (.iload_n 2, 1) := by decide +kernel
theorem dX6_code_54 : decode cX6_code 54 = .ok (.iadd, 1) := by decide +kernel
theorem dX6_code_55 : decode cX6_code 55 = .ok (.bipush 20, 2) := by decide +kernel
theorem dX6_code_57 : decode cX6_code 57 = .ok (.if_icmp .le 7, 3) := by decide +kernel
theorem dX6_code_60 : decode cX6_code 60 = .ok (.iconst 2, 1) := by decide +kernel
theorem dX6_code_61 : decode cX6_code 61 = .ok (.goto 4, 3) := by decide +kernel
theorem dX6_code_64 : decode cX6_code 64 = .ok (.iconst 0, 1) := by decide +kernel
theorem dX6_code_65 : decode cX6_code 65 = .ok (.putfield 23, 3) := by decide +kernel
theorem dX6_code_68 : decode cX6_code 68 = .ok (.aload_n 0, 1) := by decide +kernel
theorem dX6_code_69 : decode cX6_code 69 = .ok (.getfield 23, 3) := by decide +kernel
theorem dX6_code_72 : decode cX6_code 72 = .ok (.ifCond .le 5, 3) := by decide +kernel
theorem dX6_code_75 : decode cX6_code 75 = .ok (.iconst 0, 1) := by decide +kernel
theorem dX6_code_76 : decode cX6_code 76 = .ok (.ireturn, 1) := by decide +kernel
theorem dX6_code_77 : decode cX6_code 77 = .ok (.iload_n 2, 1) := by decide +kernel
theorem dX6_code_78 : decode cX6_code 78 = .ok (.iconst 1, 1) := by decide +kernel
theorem dX6_code_79 : decode cX6_code 79 = .ok (.isub, 1) := by decide +kernel
theorem dX6_code_80 : decode cX6_code 80 = .ok (.istore 6, 2) := by decide +kernel
theorem dX6_code_82 : decode cX6_code 82 = .ok (.iload 6, 2) := by decide +kernel
theorem dX6_code_84 : decode cX6_code 84 = .ok (.ifCond .lt 51, 3) := by decide +kernel
theorem dX6_code_87 : decode cX6_code 87 = .ok (.aload_n 0, 1) := by decide +kernel
theorem dX6_code_88 : decode cX6_code 88 = .ok (.getfield 7, 3) := by decide +kernel
theorem dX6_code_91 : decode cX6_code 91 = .ok (.iload 5, 2) := by decide +kernel
theorem dX6_code_93 : decode cX6_code 93 = .ok (.bipush 34, 2) := by decide +kernel
theorem dX6_code_95 : decode cX6_code 95 = .ok (.iadd, 1) := by decide +kernel
theorem dX6_code_96 : decode cX6_code 96 = .ok (.aload_n 0, 1) := by decide +kernel
theorem dX6_code_97 : decode cX6_code 97 = .ok (.getfield 7, 3) := by decide +kernel
theorem dX6_code_100 : decode cX6_code 100 = .ok (.iload 5, 2) := by decide +kernel
theorem dX6_code_102 : decode cX6_code 102 = .ok (.iconst 5, 1) := by decide +kernel
theorem dX6_code_103 : decode cX6_code 103 = .ok (.iadd, 1) := by decide +kernel
theorem dX6_code_104 : decode cX6_code 104 = .ok (.iaload, 1) := by decide +kernel
theorem dX6_code_105 : decode cX6_code 105 = .ok (.iadd, 1) := by decide +kernel
theorem dX6_code_106 : decode cX6_code 106 = .ok (.lload_n 3, 1) := by decide +kernel
theorem dX6_code_107 : decode cX6_code 107 = .ok (.bipush 8, 2) := by decide +kernel
theorem dX6_code_109 : decode cX6_code 109 = .ok (.iload 6, 2) := by decide +kernel
theorem dX6_code_111 : decode cX6_code 111 = .ok (.imul, 1) := by decide +kernel
theorem dX6_code_112 : decode cX6_code 112 = .ok (.lshr, 1) := by decide +kernel
theorem dX6_code_113 : decode cX6_code 113 = .ok (.l2i, 1) := by decide +kernel
theorem dX6_code_114 : decode cX6_code 114 = .ok (.i2b, 1) := by decide +kernel
theorem dX6_code_115 : decode cX6_code 115 = .ok (.iastore, 1) := by decide +kernel
theorem dX6_code_116 : decode cX6_code 116 = .ok (.aload_n 0, 1) := by decide +kernel
theorem dX6_code_117 : decode cX6_code 117 = .ok (.getfield 7, 3) := by decide +kernel
theorem dX6_code_120 : decode cX6_code 120 = .ok (.iload 5, 2) := by decide +kernel
theorem dX6_code_122 : decode cX6_code 122 = .ok (.iconst 5, 1) := by decide +kernel
theorem dX6_code_123 : decode cX6_code 123 = .ok (.iadd, 1) := by decide +kernel
theorem dX6_code_124 : decode cX6_code 124 = .ok (.dup2, 1) := by decide +kernel
theorem dX6_code_125 : decode cX6_code 125 = .ok (.iaload, 1) := by decide +kernel
theorem dX6_code_126 : decode cX6_code 126 = .ok (.iconst 1, 1) := by decide +kernel
theorem dX6_code_127 : decode cX6_code 127 = .ok (.iadd, 1) := by decide +kernel
theorem dX6_code_128 : decode cX6_code 128 = .ok (.iastore, 1) := by decide +kernel
theorem dX6_code_129 : decode cX6_code 129 = .ok (.iinc 6 (-1), 3) := by decide +kernel
theorem dX6_code_132 : decode cX6_code 132 = .ok (.goto (-50), 3) := by decide +kernel
theorem dX6_code_135 : decode cX6_code 135 = .ok (.aload_n 0, 1) := by decide +kernel
theorem dX6_code_136 : decode cX6_code 136 = .ok (.getfield 7, 3) := by decide +kernel
theorem dX6_code_139 : decode cX6_code 139 = .ok (.iload 5, 2) := by decide +kernel
theorem dX6_code_141 : decode cX6_code 141 = .ok (.iconst 5, 1) := by decide +kernel
theorem dX6_code_142 : decode cX6_code 142 = .ok (.iadd, 1) := by decide +kernel
theorem dX6_code_143 : decode cX6_code 143 = .ok (.iaload, 1) := by decide +kernel
theorem dX6_code_144 : decode cX6_code 144 = .ok (.ireturn, 1) := by decide +kernel
def fn_X6_code_L82 (L : cp_Lay) (q : Nat) : Nat → Nat → Int32 → Int32 → Int64 → Int32 → Int32 → cp_Dt → Option (Int32 × cp_Dt)
  | 0, _, _, _, _, _, _, _ => none
  | n + 1, a0, i1, i2, i3, i5, i6, D =>
    if i6 < 0 then ((cp_gR L a0 6 3).bind fun r59 =>
    (cp_aI L D 0 r59 (i5 + (5 : Int32))).bind fun v60 =>
    some (v60, D))
    else ((cp_gR L a0 6 3).bind fun r61 =>
    (cp_gR L a0 6 3).bind fun r62 =>
    (cp_aI L D 0 r62 (i5 + (5 : Int32))).bind fun v63 =>
    (cp_aS L D 0 r61 ((i5 + (34 : Int32)) + v63) (((i3 >>> (((8 : Int32) * i6).toInt64 &&& 63)).toInt32).toInt8.toInt32)).bind fun D64 =>
    (cp_gR L a0 6 3).bind fun r65 =>
    (cp_aI L D64 0 r65 (i5 + (5 : Int32))).bind fun v66 =>
    (cp_aS L D64 0 r65 (i5 + (5 : Int32)) (v66 + (1 : Int32))).bind fun D67 =>
    fn_X6_code_L82 L q n a0 i1 i2 i3 i5 (i6 + (-1)) D67)
def fn_X6_code (L : cp_Lay) (q : Nat) (k0 : Nat) (x1 : Int32) (x2 : Int32) (x3 : Int64) (D : cp_Dt) : Option (Int32 × cp_Dt) :=
  if x2 < (1 : Int32) then ((cp_pI L D k0 6 0 (1 : Int32)).bind fun D2 =>
  (cp_gI L D2 k0 6 0).bind fun v3 =>
  if v3 ≤ 0 then ((fn_X6_at L q x1 D2).bind fun y5 =>
  (cp_gR L k0 6 3).bind fun r6 =>
  (cp_aI L y5.2 0 r6 (y5.1 + (5 : Int32))).bind fun v7 =>
  if (v7 + x2) ≤ (20 : Int32) then ((cp_pI L y5.2 k0 6 0 (0 : Int32)).bind fun D9 =>
  (cp_gI L D9 k0 6 0).bind fun v10 =>
  if v10 ≤ 0 then (fn_X6_code_L82 L q q k0 x1 x2 x3 y5.1 (x2 - (1 : Int32)) D9)
  else (some ((0 : Int32), D9)))
  else ((cp_pI L y5.2 k0 6 0 (2 : Int32)).bind fun D12 =>
  (cp_gI L D12 k0 6 0).bind fun v13 =>
  if v13 ≤ 0 then (fn_X6_code_L82 L q q k0 x1 x2 x3 y5.1 (x2 - (1 : Int32)) D12)
  else (some ((0 : Int32), D12))))
  else (some ((0 : Int32), D2)))
  else (if (8 : Int32) < x2 then ((cp_pI L D k0 6 0 (1 : Int32)).bind fun D16 =>
  (cp_gI L D16 k0 6 0).bind fun v17 =>
  if v17 ≤ 0 then ((fn_X6_at L q x1 D16).bind fun y19 =>
  (cp_gR L k0 6 3).bind fun r20 =>
  (cp_aI L y19.2 0 r20 (y19.1 + (5 : Int32))).bind fun v21 =>
  if (v21 + x2) ≤ (20 : Int32) then ((cp_pI L y19.2 k0 6 0 (0 : Int32)).bind fun D23 =>
  (cp_gI L D23 k0 6 0).bind fun v24 =>
  if v24 ≤ 0 then (fn_X6_code_L82 L q q k0 x1 x2 x3 y19.1 (x2 - (1 : Int32)) D23)
  else (some ((0 : Int32), D23)))
  else ((cp_pI L y19.2 k0 6 0 (2 : Int32)).bind fun D26 =>
  (cp_gI L D26 k0 6 0).bind fun v27 =>
  if v27 ≤ 0 then (fn_X6_code_L82 L q q k0 x1 x2 x3 y19.1 (x2 - (1 : Int32)) D26)
  else (some ((0 : Int32), D26))))
  else (some ((0 : Int32), D16)))
  else ((cp_fl L k0 6).bind fun f29 =>
  (fn_X6_lives L q k0 x1 D).bind fun y30 =>
  if y30.1 = 0 then ((cp_pI L y30.2 k0 6 0 (1 : Int32)).bind fun D45 =>
  (cp_gI L D45 k0 6 0).bind fun v46 =>
  if v46 ≤ 0 then ((fn_X6_at L q x1 D45).bind fun y48 =>
  (cp_gR L k0 6 3).bind fun r49 =>
  (cp_aI L y48.2 0 r49 (y48.1 + (5 : Int32))).bind fun v50 =>
  if (v50 + x2) ≤ (20 : Int32) then ((cp_pI L y48.2 k0 6 0 (0 : Int32)).bind fun D52 =>
  (cp_gI L D52 k0 6 0).bind fun v53 =>
  if v53 ≤ 0 then (fn_X6_code_L82 L q q k0 x1 x2 x3 y48.1 (x2 - (1 : Int32)) D52)
  else (some ((0 : Int32), D52)))
  else ((cp_pI L y48.2 k0 6 0 (2 : Int32)).bind fun D55 =>
  (cp_gI L D55 k0 6 0).bind fun v56 =>
  if v56 ≤ 0 then (fn_X6_code_L82 L q q k0 x1 x2 x3 y48.1 (x2 - (1 : Int32)) D55)
  else (some ((0 : Int32), D55))))
  else (some ((0 : Int32), D45)))
  else ((cp_pI L y30.2 k0 6 0 (0 : Int32)).bind fun D32 =>
  (cp_gI L D32 k0 6 0).bind fun v33 =>
  if v33 ≤ 0 then ((fn_X6_at L q x1 D32).bind fun y35 =>
  (cp_gR L k0 6 3).bind fun r36 =>
  (cp_aI L y35.2 0 r36 (y35.1 + (5 : Int32))).bind fun v37 =>
  if (v37 + x2) ≤ (20 : Int32) then ((cp_pI L y35.2 k0 6 0 (0 : Int32)).bind fun D39 =>
  (cp_gI L D39 k0 6 0).bind fun v40 =>
  if v40 ≤ 0 then (fn_X6_code_L82 L q q k0 x1 x2 x3 y35.1 (x2 - (1 : Int32)) D39)
  else (some ((0 : Int32), D39)))
  else ((cp_pI L y35.2 k0 6 0 (2 : Int32)).bind fun D42 =>
  (cp_gI L D42 k0 6 0).bind fun v43 =>
  if v43 ≤ 0 then (fn_X6_code_L82 L q q k0 x1 x2 x3 y35.1 (x2 - (1 : Int32)) D42)
  else (some ((0 : Int32), D42))))
  else (some ((0 : Int32), D32)))))
set_option maxHeartbeats 4000000 in
set_option maxRecDepth 100000 in
theorem ct_X6_code (l : Launch) (G : va_G) (L : cp_Lay) (hJ : cp_J L) (q : Nat) (k0 : Nat) (x1 : Int32) (x2 : Int32) (x3 : Int64) (D : cp_Dt) (res : Int32 × cp_Dt) (hF : fn_X6_code L q k0 x1 x2 x3 D = some res) : cp_Met l G yX6_code wsX6_code ({ frames := 2, cells := 0, slots := 0, locals := 41 }) L ([.ref (L.2.1 k0), .int x1, .int x2, .long x3] : List Value) D res.2 (some (.int res.1)) := by
  refine Met.ofW (cc := cX6_code) (maxL := 7) (ret := (some .int)) (by decide) rfl ?_
  intro p e s m args below meth c s₁ B hml hv
  obtain ⟨rfl, hP, hK, hN, hZ⟩ := hv
  have hx := B.exec
  have hb := B.bytes
  have hr := B.returns
  have hts := atoms_spec (ws := wsX6_code) B.pre
  have hown : s.vm.findClass "CreaturePondModel" = some m.cls := findClass_of_methodNamed B.named
  have hlocks := B.notSynchronized
  have hS : va_S (cp_A L) s.heap s.heap [] := va_S.rf
  have htT : ∀ w ∈ cp_T, w.before ([.ref (L.2.1 k0), .int x1, .int x2, .long x3] : List Value).toArray s = true := fun w h => hts w (List.mem_cons_of_mem _ h)
  have hl := lv_entry (([.ref (L.2.1 k0), .int x1, .int x2, .long x3] : List Value)) (n := 7) (Nat.le_of_ble_eq_true rfl)
  rw [lg_entry_eq]
  generalize (lg_sl (([.ref (L.2.1 k0), .int x1, .int x2, .long x3] : List Value)) ++ List.replicate (7 - (lg_sl (([.ref (L.2.1 k0), .int x1, .int x2, .long x3] : List Value))).length) Slot.unset).toArray = ls at hl ⊢
  have hl : lv_has ls 7 [(0, .ref (L.2.1 k0)), (1, .int x1), (2, .int x2), (3, .long x3)] := hl
  have hL82 : ∀ (n : Nat) (a0 : Nat) (i1 : Int32) (i2 : Int32) (i3 : Int64) (i5 : Int32) (i6 : Int32) (D : cp_Dt) (H : Heap) (locs : List Loc) (ls : Array Slot), fn_X6_code_L82 L q n a0 i1 i2 i3 i5 i6 D = some res → va_P G vwCl (cp_ws L D) H → va_S (cp_A L) s.heap H locs → lv_has ls 7 [(0, .ref (L.2.1 a0)), (1, .int i1), (2, .int i2), (3, .long i3), (5, .int i5), (6, .int i6)] → W p l e (headSpec wsX6_code ({ frames := 2, cells := 0, slots := 0, locals := 41 })).room s m ([.ref (L.2.1 k0), .int x1, .int x2, .long x3] : List Value).toArray below meth c H locs 0 0 (MQ below (cp_Q G L res.2 (some (.int res.1))) ([.ref (L.2.1 k0), .int x1, .int x2, .long x3] : List Value).toArray s 0 0 (cp_A L)) (F0 m 82 ls []) := by
    intro n
    induction n with
    | zero =>
      intro a0 i1 i2 i3 i5 i6 D H locs ls hF
      cases hF
    | succ n ih =>
      intro a0 i1 i2 i3 i5 i6 D H locs ls hF hP hS hl
      unfold fn_X6_code_L82 at hF
      refine lv_iload hx hb dX6_code_82 (lv_at hl 5 rfl) ?_
      refine lv_if_lt (tgt := 135) hx hb dX6_code_84 (by decide) (fun hc58 => ?_) (fun hc58 => ?_)
      · rw [if_pos hc58] at hF
        refine lv_aload_n hx hb dX6_code_135 rfl (lv_at hl 0 rfl) ?_
        obtain ⟨r59, er59, hF⟩ := cp_bind hF
        refine cp_getR (T := TX6) (N := 6) (ci := 6) (j := 3) hx hb htT hinX6 hown hK hP rfl (by decide) rfl (htT _ tw_378) er59 dX6_code_136 ?_
        refine lv_iload hx hb dX6_code_139 (lv_at hl 4 rfl) ?_
        refine lv_iconst (v := (5 : Int32)) hx hb dX6_code_141 (by decide) ?_
        refine lv_iadd hx hb dX6_code_142 ?_
        obtain ⟨v60, ev60, hF⟩ := cp_bind hF
        refine cp_iald hx hb hK hP ev60 dX6_code_143 ?_
        exact cp_iret hx hb hr hlocks hF hP hS dX6_code_144
      · rw [if_neg hc58] at hF
        refine lv_aload_n hx hb dX6_code_87 rfl (lv_at hl 0 rfl) ?_
        obtain ⟨r61, er61, hF⟩ := cp_bind hF
        refine cp_getR (T := TX6) (N := 6) (ci := 6) (j := 3) hx hb htT hinX6 hown hK hP rfl (by decide) rfl (htT _ tw_378) er61 dX6_code_88 ?_
        refine lv_iload hx hb dX6_code_91 (lv_at hl 4 rfl) ?_
        refine lv_bipush (v := (34 : Int32)) hx hb dX6_code_93 (by decide) ?_
        refine lv_iadd hx hb dX6_code_95 ?_
        refine lv_aload_n hx hb dX6_code_96 rfl (lv_at hl 0 rfl) ?_
        obtain ⟨r62, er62, hF⟩ := cp_bind hF
        refine cp_getR (T := TX6) (N := 6) (ci := 6) (j := 3) hx hb htT hinX6 hown hK hP rfl (by decide) rfl (htT _ tw_378) er62 dX6_code_97 ?_
        refine lv_iload hx hb dX6_code_100 (lv_at hl 4 rfl) ?_
        refine lv_iconst (v := (5 : Int32)) hx hb dX6_code_102 (by decide) ?_
        refine lv_iadd hx hb dX6_code_103 ?_
        obtain ⟨v63, ev63, hF⟩ := cp_bind hF
        refine cp_iald hx hb hK hP ev63 dX6_code_104 ?_
        refine lv_iadd hx hb dX6_code_105 ?_
        refine lv_lload_n hx hb dX6_code_106 rfl (lv_at hl 3 rfl) ?_
        refine lv_bipush (v := (8 : Int32)) hx hb dX6_code_107 (by decide) ?_
        refine lv_iload hx hb dX6_code_109 (lv_at hl 5 rfl) ?_
        refine lv_imul hx hb dX6_code_111 ?_
        refine lv_lshr hx hb dX6_code_112 rfl ?_
        refine lv_l2i hx hb dX6_code_113 rfl ?_
        refine lv_i2b hx hb dX6_code_114 rfl ?_
        obtain ⟨D64, eD64, hF⟩ := cp_bind hF
        refine cp_iast hx hb hK hJ hP hS eD64 dX6_code_115 (fun H locs hP hS => ?_)
        refine lv_aload_n hx hb dX6_code_116 rfl (lv_at hl 0 rfl) ?_
        obtain ⟨r65, er65, hF⟩ := cp_bind hF
        refine cp_getR (T := TX6) (N := 6) (ci := 6) (j := 3) hx hb htT hinX6 hown hK hP rfl (by decide) rfl (htT _ tw_378) er65 dX6_code_117 ?_
        refine lv_iload hx hb dX6_code_120 (lv_at hl 4 rfl) ?_
        refine lv_iconst (v := (5 : Int32)) hx hb dX6_code_122 (by decide) ?_
        refine lv_iadd hx hb dX6_code_123 ?_
        refine lv_dup2_11 hx hb dX6_code_124 rfl rfl ?_
        obtain ⟨v66, ev66, hF⟩ := cp_bind hF
        refine cp_iald hx hb hK hP ev66 dX6_code_125 ?_
        refine lv_iconst (v := (1 : Int32)) hx hb dX6_code_126 (by decide) ?_
        refine lv_iadd hx hb dX6_code_127 ?_
        obtain ⟨D67, eD67, hF⟩ := cp_bind hF
        refine cp_iast hx hb hK hJ hP hS eD67 dX6_code_128 (fun H locs hP hS => ?_)
        refine lv_iinc (k := 5) (v := (i6 + (-1))) (lv' := [(6, .int (i6 + (-1))), (0, .ref (L.2.1 a0)), (1, .int i1), (2, .int i2), (3, .long i3), (5, .int i5)]) hx hb dX6_code_129 hl rfl (congrArg (fun z => i6 + z) (by decide)) (by decide) rfl (fun ls hl => ?_)
        refine lv_goto (tgt := 82) hx hb dX6_code_132 (by decide) ?_
        exact ih a0 i1 i2 i3 i5 (i6 + (-1)) D67 _ _ _ hF hP hS (lv_sub hl [1, 2, 3, 4, 5, 0] rfl)
  unfold fn_X6_code at hF
  refine lv_aload_n hx hb dX6_code_0 rfl (lv_at hl 0 rfl) ?_
  refine lv_iload_n hx hb dX6_code_1 rfl (lv_at hl 2 rfl) ?_
  refine lv_iconst (v := (1 : Int32)) hx hb dX6_code_2 (by decide) ?_
  refine lv_icmp_lt (tgt := 20) hx hb dX6_code_3 (by decide) (fun hc1 => ?_) (fun hc1 => ?_)
  · rw [if_pos hc1] at hF
    refine lv_iconst (v := (1 : Int32)) hx hb dX6_code_20 (by decide) ?_
    refine lv_goto (tgt := 25) hx hb dX6_code_21 (by decide) ?_
    obtain ⟨D2, eD2, hF⟩ := cp_bind hF
    refine cp_put (T := TX6) (N := 6) (ci := 6) (j := 0) hx hb htT hinX6 tyX6 tyX6_ok nmX6 hown hK hJ hP hS rfl (by decide) rfl (htT _ tw_375) rfl rfl rfl eD2 dX6_code_25 (fun H locs hP hS => ?_)
    refine lv_aload_n hx hb dX6_code_28 rfl (lv_at hl 0 rfl) ?_
    obtain ⟨v3, ev3, hF⟩ := cp_bind hF
    refine cp_getI (T := TX6) (N := 6) (ci := 6) (j := 0) hx hb htT hinX6 hown hK hP rfl (by decide) rfl (htT _ tw_375) ev3 dX6_code_29 ?_
    refine lv_if_le (tgt := 37) hx hb dX6_code_32 (by decide) (fun hc4 => ?_) (fun hc4 => ?_)
    · rw [if_pos hc4] at hF
      refine lv_iload_n hx hb dX6_code_37 rfl (lv_at hl 1 rfl) ?_
      obtain ⟨y5, ey5, hF⟩ := cp_bind hF
      refine cp_call (st1 := [.int y5.1]) (va_runS (As := [.int x1]) (rest := []) ⟨hx, hb, hml, hown, htT⟩ (ct_X6_at l G L hJ q x1 D2 y5 ey5) ⟨callB_of 1 htT gdX6_at rfl rfl rfl (htT _ tw_8) (htT _ tw_417) hdX6_at ⟨Nat.le_of_ble_eq_true rfl, Nat.le_of_ble_eq_true rfl⟩, (htT _ tw_418)⟩ ⟨cp_blind, cp_pre hP hK hN hZ hS⟩ rfl rfl hl.1 rfl (lv_room (Nat.le_of_ble_eq_true rfl)) dX6_code_38 ⟨Nat.zero_le _, Nat.zero_le _⟩) hS (fun H locs hP hS => ?_)
      refine lv_istore (lv' := [(5, .int y5.1), (0, .ref (L.2.1 k0)), (1, .int x1), (2, .int x2), (3, .long x3)]) hx hb dX6_code_41 hl (by decide) rfl (fun ls hl => ?_)
      refine lv_aload_n hx hb dX6_code_43 rfl (lv_at hl 1 rfl) ?_
      refine lv_aload_n hx hb dX6_code_44 rfl (lv_at hl 1 rfl) ?_
      obtain ⟨r6, er6, hF⟩ := cp_bind hF
      refine cp_getR (T := TX6) (N := 6) (ci := 6) (j := 3) hx hb htT hinX6 hown hK hP rfl (by decide) rfl (htT _ tw_378) er6 dX6_code_45 ?_
      refine lv_iload hx hb dX6_code_48 (lv_at hl 0 rfl) ?_
      refine lv_iconst (v := (5 : Int32)) hx hb dX6_code_50 (by decide) ?_
      refine lv_iadd hx hb dX6_code_51 ?_
      obtain ⟨v7, ev7, hF⟩ := cp_bind hF
      refine cp_iald hx hb hK hP ev7 dX6_code_52 ?_
      refine lv_iload_n hx hb dX6_code_53 rfl (lv_at hl 3 rfl) ?_
      refine lv_iadd hx hb dX6_code_54 ?_
      refine lv_bipush (v := (20 : Int32)) hx hb dX6_code_55 (by decide) ?_
      refine lv_icmp_le (tgt := 64) hx hb dX6_code_57 (by decide) (fun hc8 => ?_) (fun hc8 => ?_)
      · rw [if_pos hc8] at hF
        refine lv_iconst (v := (0 : Int32)) hx hb dX6_code_64 (by decide) ?_
        obtain ⟨D9, eD9, hF⟩ := cp_bind hF
        refine cp_put (T := TX6) (N := 6) (ci := 6) (j := 0) hx hb htT hinX6 tyX6 tyX6_ok nmX6 hown hK hJ hP hS rfl (by decide) rfl (htT _ tw_375) rfl rfl rfl eD9 dX6_code_65 (fun H locs hP hS => ?_)
        refine lv_aload_n hx hb dX6_code_68 rfl (lv_at hl 1 rfl) ?_
        obtain ⟨v10, ev10, hF⟩ := cp_bind hF
        refine cp_getI (T := TX6) (N := 6) (ci := 6) (j := 0) hx hb htT hinX6 hown hK hP rfl (by decide) rfl (htT _ tw_375) ev10 dX6_code_69 ?_
        refine lv_if_le (tgt := 77) hx hb dX6_code_72 (by decide) (fun hc11 => ?_) (fun hc11 => ?_)
        · rw [if_pos hc11] at hF
          refine lv_iload_n hx hb dX6_code_77 rfl (lv_at hl 3 rfl) ?_
          refine lv_iconst (v := (1 : Int32)) hx hb dX6_code_78 (by decide) ?_
          refine lv_isub hx hb dX6_code_79 ?_
          refine lv_istore (lv' := [(6, .int (x2 - (1 : Int32))), (5, .int y5.1), (0, .ref (L.2.1 k0)), (1, .int x1), (2, .int x2), (3, .long x3)]) hx hb dX6_code_80 hl (by decide) rfl (fun ls hl => ?_)
          exact hL82 q k0 x1 x2 x3 y5.1 (x2 - (1 : Int32)) D9 _ _ _ hF hP hS (lv_sub hl [2, 3, 4, 5, 1, 0] rfl)
        · rw [if_neg hc11] at hF
          refine lv_iconst (v := (0 : Int32)) hx hb dX6_code_75 (by decide) ?_
          exact cp_iret hx hb hr hlocks hF hP hS dX6_code_76
      · rw [if_neg hc8] at hF
        refine lv_iconst (v := (2 : Int32)) hx hb dX6_code_60 (by decide) ?_
        refine lv_goto (tgt := 65) hx hb dX6_code_61 (by decide) ?_
        obtain ⟨D12, eD12, hF⟩ := cp_bind hF
        refine cp_put (T := TX6) (N := 6) (ci := 6) (j := 0) hx hb htT hinX6 tyX6 tyX6_ok nmX6 hown hK hJ hP hS rfl (by decide) rfl (htT _ tw_375) rfl rfl rfl eD12 dX6_code_65 (fun H locs hP hS => ?_)
        refine lv_aload_n hx hb dX6_code_68 rfl (lv_at hl 1 rfl) ?_
        obtain ⟨v13, ev13, hF⟩ := cp_bind hF
        refine cp_getI (T := TX6) (N := 6) (ci := 6) (j := 0) hx hb htT hinX6 hown hK hP rfl (by decide) rfl (htT _ tw_375) ev13 dX6_code_69 ?_
        refine lv_if_le (tgt := 77) hx hb dX6_code_72 (by decide) (fun hc14 => ?_) (fun hc14 => ?_)
        · rw [if_pos hc14] at hF
          refine lv_iload_n hx hb dX6_code_77 rfl (lv_at hl 3 rfl) ?_
          refine lv_iconst (v := (1 : Int32)) hx hb dX6_code_78 (by decide) ?_
          refine lv_isub hx hb dX6_code_79 ?_
          refine lv_istore (lv' := [(6, .int (x2 - (1 : Int32))), (5, .int y5.1), (0, .ref (L.2.1 k0)), (1, .int x1), (2, .int x2), (3, .long x3)]) hx hb dX6_code_80 hl (by decide) rfl (fun ls hl => ?_)
          exact hL82 q k0 x1 x2 x3 y5.1 (x2 - (1 : Int32)) D12 _ _ _ hF hP hS (lv_sub hl [2, 3, 4, 5, 1, 0] rfl)
        · rw [if_neg hc14] at hF
          refine lv_iconst (v := (0 : Int32)) hx hb dX6_code_75 (by decide) ?_
          exact cp_iret hx hb hr hlocks hF hP hS dX6_code_76
    · rw [if_neg hc4] at hF
      refine lv_iconst (v := (0 : Int32)) hx hb dX6_code_35 (by decide) ?_
      exact cp_iret hx hb hr hlocks hF hP hS dX6_code_36
  · rw [if_neg hc1] at hF
    refine lv_iload_n hx hb dX6_code_6 rfl (lv_at hl 2 rfl) ?_
    refine lv_bipush (v := (8 : Int32)) hx hb dX6_code_7 (by decide) ?_
    refine lv_icmp_gt (tgt := 20) hx hb dX6_code_9 (by decide) (fun hc15 => ?_) (fun hc15 => ?_)
    · rw [if_pos hc15] at hF
      refine lv_iconst (v := (1 : Int32)) hx hb dX6_code_20 (by decide) ?_
      refine lv_goto (tgt := 25) hx hb dX6_code_21 (by decide) ?_
      obtain ⟨D16, eD16, hF⟩ := cp_bind hF
      refine cp_put (T := TX6) (N := 6) (ci := 6) (j := 0) hx hb htT hinX6 tyX6 tyX6_ok nmX6 hown hK hJ hP hS rfl (by decide) rfl (htT _ tw_375) rfl rfl rfl eD16 dX6_code_25 (fun H locs hP hS => ?_)
      refine lv_aload_n hx hb dX6_code_28 rfl (lv_at hl 0 rfl) ?_
      obtain ⟨v17, ev17, hF⟩ := cp_bind hF
      refine cp_getI (T := TX6) (N := 6) (ci := 6) (j := 0) hx hb htT hinX6 hown hK hP rfl (by decide) rfl (htT _ tw_375) ev17 dX6_code_29 ?_
      refine lv_if_le (tgt := 37) hx hb dX6_code_32 (by decide) (fun hc18 => ?_) (fun hc18 => ?_)
      · rw [if_pos hc18] at hF
        refine lv_iload_n hx hb dX6_code_37 rfl (lv_at hl 1 rfl) ?_
        obtain ⟨y19, ey19, hF⟩ := cp_bind hF
        refine cp_call (st1 := [.int y19.1]) (va_runS (As := [.int x1]) (rest := []) ⟨hx, hb, hml, hown, htT⟩ (ct_X6_at l G L hJ q x1 D16 y19 ey19) ⟨callB_of 1 htT gdX6_at rfl rfl rfl (htT _ tw_8) (htT _ tw_417) hdX6_at ⟨Nat.le_of_ble_eq_true rfl, Nat.le_of_ble_eq_true rfl⟩, (htT _ tw_418)⟩ ⟨cp_blind, cp_pre hP hK hN hZ hS⟩ rfl rfl hl.1 rfl (lv_room (Nat.le_of_ble_eq_true rfl)) dX6_code_38 ⟨Nat.zero_le _, Nat.zero_le _⟩) hS (fun H locs hP hS => ?_)
        refine lv_istore (lv' := [(5, .int y19.1), (0, .ref (L.2.1 k0)), (1, .int x1), (2, .int x2), (3, .long x3)]) hx hb dX6_code_41 hl (by decide) rfl (fun ls hl => ?_)
        refine lv_aload_n hx hb dX6_code_43 rfl (lv_at hl 1 rfl) ?_
        refine lv_aload_n hx hb dX6_code_44 rfl (lv_at hl 1 rfl) ?_
        obtain ⟨r20, er20, hF⟩ := cp_bind hF
        refine cp_getR (T := TX6) (N := 6) (ci := 6) (j := 3) hx hb htT hinX6 hown hK hP rfl (by decide) rfl (htT _ tw_378) er20 dX6_code_45 ?_
        refine lv_iload hx hb dX6_code_48 (lv_at hl 0 rfl) ?_
        refine lv_iconst (v := (5 : Int32)) hx hb dX6_code_50 (by decide) ?_
        refine lv_iadd hx hb dX6_code_51 ?_
        obtain ⟨v21, ev21, hF⟩ := cp_bind hF
        refine cp_iald hx hb hK hP ev21 dX6_code_52 ?_
        refine lv_iload_n hx hb dX6_code_53 rfl (lv_at hl 3 rfl) ?_
        refine lv_iadd hx hb dX6_code_54 ?_
        refine lv_bipush (v := (20 : Int32)) hx hb dX6_code_55 (by decide) ?_
        refine lv_icmp_le (tgt := 64) hx hb dX6_code_57 (by decide) (fun hc22 => ?_) (fun hc22 => ?_)
        · rw [if_pos hc22] at hF
          refine lv_iconst (v := (0 : Int32)) hx hb dX6_code_64 (by decide) ?_
          obtain ⟨D23, eD23, hF⟩ := cp_bind hF
          refine cp_put (T := TX6) (N := 6) (ci := 6) (j := 0) hx hb htT hinX6 tyX6 tyX6_ok nmX6 hown hK hJ hP hS rfl (by decide) rfl (htT _ tw_375) rfl rfl rfl eD23 dX6_code_65 (fun H locs hP hS => ?_)
          refine lv_aload_n hx hb dX6_code_68 rfl (lv_at hl 1 rfl) ?_
          obtain ⟨v24, ev24, hF⟩ := cp_bind hF
          refine cp_getI (T := TX6) (N := 6) (ci := 6) (j := 0) hx hb htT hinX6 hown hK hP rfl (by decide) rfl (htT _ tw_375) ev24 dX6_code_69 ?_
          refine lv_if_le (tgt := 77) hx hb dX6_code_72 (by decide) (fun hc25 => ?_) (fun hc25 => ?_)
          · rw [if_pos hc25] at hF
            refine lv_iload_n hx hb dX6_code_77 rfl (lv_at hl 3 rfl) ?_
            refine lv_iconst (v := (1 : Int32)) hx hb dX6_code_78 (by decide) ?_
            refine lv_isub hx hb dX6_code_79 ?_
            refine lv_istore (lv' := [(6, .int (x2 - (1 : Int32))), (5, .int y19.1), (0, .ref (L.2.1 k0)), (1, .int x1), (2, .int x2), (3, .long x3)]) hx hb dX6_code_80 hl (by decide) rfl (fun ls hl => ?_)
            exact hL82 q k0 x1 x2 x3 y19.1 (x2 - (1 : Int32)) D23 _ _ _ hF hP hS (lv_sub hl [2, 3, 4, 5, 1, 0] rfl)
          · rw [if_neg hc25] at hF
            refine lv_iconst (v := (0 : Int32)) hx hb dX6_code_75 (by decide) ?_
            exact cp_iret hx hb hr hlocks hF hP hS dX6_code_76
        · rw [if_neg hc22] at hF
          refine lv_iconst (v := (2 : Int32)) hx hb dX6_code_60 (by decide) ?_
          refine lv_goto (tgt := 65) hx hb dX6_code_61 (by decide) ?_
          obtain ⟨D26, eD26, hF⟩ := cp_bind hF
          refine cp_put (T := TX6) (N := 6) (ci := 6) (j := 0) hx hb htT hinX6 tyX6 tyX6_ok nmX6 hown hK hJ hP hS rfl (by decide) rfl (htT _ tw_375) rfl rfl rfl eD26 dX6_code_65 (fun H locs hP hS => ?_)
          refine lv_aload_n hx hb dX6_code_68 rfl (lv_at hl 1 rfl) ?_
          obtain ⟨v27, ev27, hF⟩ := cp_bind hF
          refine cp_getI (T := TX6) (N := 6) (ci := 6) (j := 0) hx hb htT hinX6 hown hK hP rfl (by decide) rfl (htT _ tw_375) ev27 dX6_code_69 ?_
          refine lv_if_le (tgt := 77) hx hb dX6_code_72 (by decide) (fun hc28 => ?_) (fun hc28 => ?_)
          · rw [if_pos hc28] at hF
            refine lv_iload_n hx hb dX6_code_77 rfl (lv_at hl 3 rfl) ?_
            refine lv_iconst (v := (1 : Int32)) hx hb dX6_code_78 (by decide) ?_
            refine lv_isub hx hb dX6_code_79 ?_
            refine lv_istore (lv' := [(6, .int (x2 - (1 : Int32))), (5, .int y19.1), (0, .ref (L.2.1 k0)), (1, .int x1), (2, .int x2), (3, .long x3)]) hx hb dX6_code_80 hl (by decide) rfl (fun ls hl => ?_)
            exact hL82 q k0 x1 x2 x3 y19.1 (x2 - (1 : Int32)) D26 _ _ _ hF hP hS (lv_sub hl [2, 3, 4, 5, 1, 0] rfl)
          · rw [if_neg hc28] at hF
            refine lv_iconst (v := (0 : Int32)) hx hb dX6_code_75 (by decide) ?_
            exact cp_iret hx hb hr hlocks hF hP hS dX6_code_76
      · rw [if_neg hc18] at hF
        refine lv_iconst (v := (0 : Int32)) hx hb dX6_code_35 (by decide) ?_
        exact cp_iret hx hb hr hlocks hF hP hS dX6_code_36
    · rw [if_neg hc15] at hF
      refine lv_aload_n hx hb dX6_code_12 rfl (lv_at hl 0 rfl) ?_
      refine lv_iload_n hx hb dX6_code_13 rfl (lv_at hl 1 rfl) ?_
      obtain ⟨f29, ef29, hF⟩ := cp_bind hF
      obtain ⟨y30, ey30, hF⟩ := cp_bind hF
      refine cp_call (st1 := [.int y30.1, .ref (L.2.1 k0)]) (va_runV (As := [.int x1]) (rest := [.ref (L.2.1 k0)]) ⟨hx, hb, hml, hown, htT⟩ (ct_X6_lives l G L hJ q k0 x1 D y30 ey30) ⟨callB_of 1 htT gdX6_lives rfl rfl rfl (htT _ tw_8) (htT _ tw_423) hdX6_lives ⟨Nat.le_of_ble_eq_true rfl, Nat.le_of_ble_eq_true rfl⟩, (htT _ tw_424), (htT _ tw_576)⟩ ⟨cp_blind, cp_recv hK hP rfl ef29, cp_pre hP hK hN hZ hS⟩ rfl rfl hl.1 rfl (lv_room (Nat.le_of_ble_eq_true rfl)) dX6_code_14 ⟨Nat.zero_le _, Nat.zero_le _⟩) hS (fun H locs hP hS => ?_)
      refine lv_if_ne (tgt := 24) hx hb dX6_code_17 (by decide) (fun hc31 => ?_) (fun hc31 => ?_)
      · rw [if_neg hc31] at hF
        refine lv_iconst (v := (0 : Int32)) hx hb dX6_code_24 (by decide) ?_
        obtain ⟨D32, eD32, hF⟩ := cp_bind hF
        refine cp_put (T := TX6) (N := 6) (ci := 6) (j := 0) hx hb htT hinX6 tyX6 tyX6_ok nmX6 hown hK hJ hP hS rfl (by decide) rfl (htT _ tw_375) rfl rfl rfl eD32 dX6_code_25 (fun H locs hP hS => ?_)
        refine lv_aload_n hx hb dX6_code_28 rfl (lv_at hl 0 rfl) ?_
        obtain ⟨v33, ev33, hF⟩ := cp_bind hF
        refine cp_getI (T := TX6) (N := 6) (ci := 6) (j := 0) hx hb htT hinX6 hown hK hP rfl (by decide) rfl (htT _ tw_375) ev33 dX6_code_29 ?_
        refine lv_if_le (tgt := 37) hx hb dX6_code_32 (by decide) (fun hc34 => ?_) (fun hc34 => ?_)
        · rw [if_pos hc34] at hF
          refine lv_iload_n hx hb dX6_code_37 rfl (lv_at hl 1 rfl) ?_
          obtain ⟨y35, ey35, hF⟩ := cp_bind hF
          refine cp_call (st1 := [.int y35.1]) (va_runS (As := [.int x1]) (rest := []) ⟨hx, hb, hml, hown, htT⟩ (ct_X6_at l G L hJ q x1 D32 y35 ey35) ⟨callB_of 1 htT gdX6_at rfl rfl rfl (htT _ tw_8) (htT _ tw_417) hdX6_at ⟨Nat.le_of_ble_eq_true rfl, Nat.le_of_ble_eq_true rfl⟩, (htT _ tw_418)⟩ ⟨cp_blind, cp_pre hP hK hN hZ hS⟩ rfl rfl hl.1 rfl (lv_room (Nat.le_of_ble_eq_true rfl)) dX6_code_38 ⟨Nat.zero_le _, Nat.zero_le _⟩) hS (fun H locs hP hS => ?_)
          refine lv_istore (lv' := [(5, .int y35.1), (0, .ref (L.2.1 k0)), (1, .int x1), (2, .int x2), (3, .long x3)]) hx hb dX6_code_41 hl (by decide) rfl (fun ls hl => ?_)
          refine lv_aload_n hx hb dX6_code_43 rfl (lv_at hl 1 rfl) ?_
          refine lv_aload_n hx hb dX6_code_44 rfl (lv_at hl 1 rfl) ?_
          obtain ⟨r36, er36, hF⟩ := cp_bind hF
          refine cp_getR (T := TX6) (N := 6) (ci := 6) (j := 3) hx hb htT hinX6 hown hK hP rfl (by decide) rfl (htT _ tw_378) er36 dX6_code_45 ?_
          refine lv_iload hx hb dX6_code_48 (lv_at hl 0 rfl) ?_
          refine lv_iconst (v := (5 : Int32)) hx hb dX6_code_50 (by decide) ?_
          refine lv_iadd hx hb dX6_code_51 ?_
          obtain ⟨v37, ev37, hF⟩ := cp_bind hF
          refine cp_iald hx hb hK hP ev37 dX6_code_52 ?_
          refine lv_iload_n hx hb dX6_code_53 rfl (lv_at hl 3 rfl) ?_
          refine lv_iadd hx hb dX6_code_54 ?_
          refine lv_bipush (v := (20 : Int32)) hx hb dX6_code_55 (by decide) ?_
          refine lv_icmp_le (tgt := 64) hx hb dX6_code_57 (by decide) (fun hc38 => ?_) (fun hc38 => ?_)
          · rw [if_pos hc38] at hF
            refine lv_iconst (v := (0 : Int32)) hx hb dX6_code_64 (by decide) ?_
            obtain ⟨D39, eD39, hF⟩ := cp_bind hF
            refine cp_put (T := TX6) (N := 6) (ci := 6) (j := 0) hx hb htT hinX6 tyX6 tyX6_ok nmX6 hown hK hJ hP hS rfl (by decide) rfl (htT _ tw_375) rfl rfl rfl eD39 dX6_code_65 (fun H locs hP hS => ?_)
            refine lv_aload_n hx hb dX6_code_68 rfl (lv_at hl 1 rfl) ?_
            obtain ⟨v40, ev40, hF⟩ := cp_bind hF
            refine cp_getI (T := TX6) (N := 6) (ci := 6) (j := 0) hx hb htT hinX6 hown hK hP rfl (by decide) rfl (htT _ tw_375) ev40 dX6_code_69 ?_
            refine lv_if_le (tgt := 77) hx hb dX6_code_72 (by decide) (fun hc41 => ?_) (fun hc41 => ?_)
            · rw [if_pos hc41] at hF
              refine lv_iload_n hx hb dX6_code_77 rfl (lv_at hl 3 rfl) ?_
              refine lv_iconst (v := (1 : Int32)) hx hb dX6_code_78 (by decide) ?_
              refine lv_isub hx hb dX6_code_79 ?_
              refine lv_istore (lv' := [(6, .int (x2 - (1 : Int32))), (5, .int y35.1), (0, .ref (L.2.1 k0)), (1, .int x1), (2, .int x2), (3, .long x3)]) hx hb dX6_code_80 hl (by decide) rfl (fun ls hl => ?_)
              exact hL82 q k0 x1 x2 x3 y35.1 (x2 - (1 : Int32)) D39 _ _ _ hF hP hS (lv_sub hl [2, 3, 4, 5, 1, 0] rfl)
            · rw [if_neg hc41] at hF
              refine lv_iconst (v := (0 : Int32)) hx hb dX6_code_75 (by decide) ?_
              exact cp_iret hx hb hr hlocks hF hP hS dX6_code_76
          · rw [if_neg hc38] at hF
            refine lv_iconst (v := (2 : Int32)) hx hb dX6_code_60 (by decide) ?_
            refine lv_goto (tgt := 65) hx hb dX6_code_61 (by decide) ?_
            obtain ⟨D42, eD42, hF⟩ := cp_bind hF
            refine cp_put (T := TX6) (N := 6) (ci := 6) (j := 0) hx hb htT hinX6 tyX6 tyX6_ok nmX6 hown hK hJ hP hS rfl (by decide) rfl (htT _ tw_375) rfl rfl rfl eD42 dX6_code_65 (fun H locs hP hS => ?_)
            refine lv_aload_n hx hb dX6_code_68 rfl (lv_at hl 1 rfl) ?_
            obtain ⟨v43, ev43, hF⟩ := cp_bind hF
            refine cp_getI (T := TX6) (N := 6) (ci := 6) (j := 0) hx hb htT hinX6 hown hK hP rfl (by decide) rfl (htT _ tw_375) ev43 dX6_code_69 ?_
            refine lv_if_le (tgt := 77) hx hb dX6_code_72 (by decide) (fun hc44 => ?_) (fun hc44 => ?_)
            · rw [if_pos hc44] at hF
              refine lv_iload_n hx hb dX6_code_77 rfl (lv_at hl 3 rfl) ?_
              refine lv_iconst (v := (1 : Int32)) hx hb dX6_code_78 (by decide) ?_
              refine lv_isub hx hb dX6_code_79 ?_
              refine lv_istore (lv' := [(6, .int (x2 - (1 : Int32))), (5, .int y35.1), (0, .ref (L.2.1 k0)), (1, .int x1), (2, .int x2), (3, .long x3)]) hx hb dX6_code_80 hl (by decide) rfl (fun ls hl => ?_)
              exact hL82 q k0 x1 x2 x3 y35.1 (x2 - (1 : Int32)) D42 _ _ _ hF hP hS (lv_sub hl [2, 3, 4, 5, 1, 0] rfl)
            · rw [if_neg hc44] at hF
              refine lv_iconst (v := (0 : Int32)) hx hb dX6_code_75 (by decide) ?_
              exact cp_iret hx hb hr hlocks hF hP hS dX6_code_76
        · rw [if_neg hc34] at hF
          refine lv_iconst (v := (0 : Int32)) hx hb dX6_code_35 (by decide) ?_
          exact cp_iret hx hb hr hlocks hF hP hS dX6_code_36
      · rw [if_pos hc31] at hF
        refine lv_iconst (v := (1 : Int32)) hx hb dX6_code_20 (by decide) ?_
        refine lv_goto (tgt := 25) hx hb dX6_code_21 (by decide) ?_
        obtain ⟨D45, eD45, hF⟩ := cp_bind hF
        refine cp_put (T := TX6) (N := 6) (ci := 6) (j := 0) hx hb htT hinX6 tyX6 tyX6_ok nmX6 hown hK hJ hP hS rfl (by decide) rfl (htT _ tw_375) rfl rfl rfl eD45 dX6_code_25 (fun H locs hP hS => ?_)
        refine lv_aload_n hx hb dX6_code_28 rfl (lv_at hl 0 rfl) ?_
        obtain ⟨v46, ev46, hF⟩ := cp_bind hF
        refine cp_getI (T := TX6) (N := 6) (ci := 6) (j := 0) hx hb htT hinX6 hown hK hP rfl (by decide) rfl (htT _ tw_375) ev46 dX6_code_29 ?_
        refine lv_if_le (tgt := 37) hx hb dX6_code_32 (by decide) (fun hc47 => ?_) (fun hc47 => ?_)
        · rw [if_pos hc47] at hF
          refine lv_iload_n hx hb dX6_code_37 rfl (lv_at hl 1 rfl) ?_
          obtain ⟨y48, ey48, hF⟩ := cp_bind hF
          refine cp_call (st1 := [.int y48.1]) (va_runS (As := [.int x1]) (rest := []) ⟨hx, hb, hml, hown, htT⟩ (ct_X6_at l G L hJ q x1 D45 y48 ey48) ⟨callB_of 1 htT gdX6_at rfl rfl rfl (htT _ tw_8) (htT _ tw_417) hdX6_at ⟨Nat.le_of_ble_eq_true rfl, Nat.le_of_ble_eq_true rfl⟩, (htT _ tw_418)⟩ ⟨cp_blind, cp_pre hP hK hN hZ hS⟩ rfl rfl hl.1 rfl (lv_room (Nat.le_of_ble_eq_true rfl)) dX6_code_38 ⟨Nat.zero_le _, Nat.zero_le _⟩) hS (fun H locs hP hS => ?_)
          refine lv_istore (lv' := [(5, .int y48.1), (0, .ref (L.2.1 k0)), (1, .int x1), (2, .int x2), (3, .long x3)]) hx hb dX6_code_41 hl (by decide) rfl (fun ls hl => ?_)
          refine lv_aload_n hx hb dX6_code_43 rfl (lv_at hl 1 rfl) ?_
          refine lv_aload_n hx hb dX6_code_44 rfl (lv_at hl 1 rfl) ?_
          obtain ⟨r49, er49, hF⟩ := cp_bind hF
          refine cp_getR (T := TX6) (N := 6) (ci := 6) (j := 3) hx hb htT hinX6 hown hK hP rfl (by decide) rfl (htT _ tw_378) er49 dX6_code_45 ?_
          refine lv_iload hx hb dX6_code_48 (lv_at hl 0 rfl) ?_
          refine lv_iconst (v := (5 : Int32)) hx hb dX6_code_50 (by decide) ?_
          refine lv_iadd hx hb dX6_code_51 ?_
          obtain ⟨v50, ev50, hF⟩ := cp_bind hF
          refine cp_iald hx hb hK hP ev50 dX6_code_52 ?_
          refine lv_iload_n hx hb dX6_code_53 rfl (lv_at hl 3 rfl) ?_
          refine lv_iadd hx hb dX6_code_54 ?_
          refine lv_bipush (v := (20 : Int32)) hx hb dX6_code_55 (by decide) ?_
          refine lv_icmp_le (tgt := 64) hx hb dX6_code_57 (by decide) (fun hc51 => ?_) (fun hc51 => ?_)
          · rw [if_pos hc51] at hF
            refine lv_iconst (v := (0 : Int32)) hx hb dX6_code_64 (by decide) ?_
            obtain ⟨D52, eD52, hF⟩ := cp_bind hF
            refine cp_put (T := TX6) (N := 6) (ci := 6) (j := 0) hx hb htT hinX6 tyX6 tyX6_ok nmX6 hown hK hJ hP hS rfl (by decide) rfl (htT _ tw_375) rfl rfl rfl eD52 dX6_code_65 (fun H locs hP hS => ?_)
            refine lv_aload_n hx hb dX6_code_68 rfl (lv_at hl 1 rfl) ?_
            obtain ⟨v53, ev53, hF⟩ := cp_bind hF
            refine cp_getI (T := TX6) (N := 6) (ci := 6) (j := 0) hx hb htT hinX6 hown hK hP rfl (by decide) rfl (htT _ tw_375) ev53 dX6_code_69 ?_
            refine lv_if_le (tgt := 77) hx hb dX6_code_72 (by decide) (fun hc54 => ?_) (fun hc54 => ?_)
            · rw [if_pos hc54] at hF
              refine lv_iload_n hx hb dX6_code_77 rfl (lv_at hl 3 rfl) ?_
              refine lv_iconst (v := (1 : Int32)) hx hb dX6_code_78 (by decide) ?_
              refine lv_isub hx hb dX6_code_79 ?_
              refine lv_istore (lv' := [(6, .int (x2 - (1 : Int32))), (5, .int y48.1), (0, .ref (L.2.1 k0)), (1, .int x1), (2, .int x2), (3, .long x3)]) hx hb dX6_code_80 hl (by decide) rfl (fun ls hl => ?_)
              exact hL82 q k0 x1 x2 x3 y48.1 (x2 - (1 : Int32)) D52 _ _ _ hF hP hS (lv_sub hl [2, 3, 4, 5, 1, 0] rfl)
            · rw [if_neg hc54] at hF
              refine lv_iconst (v := (0 : Int32)) hx hb dX6_code_75 (by decide) ?_
              exact cp_iret hx hb hr hlocks hF hP hS dX6_code_76
          · rw [if_neg hc51] at hF
            refine lv_iconst (v := (2 : Int32)) hx hb dX6_code_60 (by decide) ?_
            refine lv_goto (tgt := 65) hx hb dX6_code_61 (by decide) ?_
            obtain ⟨D55, eD55, hF⟩ := cp_bind hF
            refine cp_put (T := TX6) (N := 6) (ci := 6) (j := 0) hx hb htT hinX6 tyX6 tyX6_ok nmX6 hown hK hJ hP hS rfl (by decide) rfl (htT _ tw_375) rfl rfl rfl eD55 dX6_code_65 (fun H locs hP hS => ?_)
            refine lv_aload_n hx hb dX6_code_68 rfl (lv_at hl 1 rfl) ?_
            obtain ⟨v56, ev56, hF⟩ := cp_bind hF
            refine cp_getI (T := TX6) (N := 6) (ci := 6) (j := 0) hx hb htT hinX6 hown hK hP rfl (by decide) rfl (htT _ tw_375) ev56 dX6_code_69 ?_
            refine lv_if_le (tgt := 77) hx hb dX6_code_72 (by decide) (fun hc57 => ?_) (fun hc57 => ?_)
            · rw [if_pos hc57] at hF
              refine lv_iload_n hx hb dX6_code_77 rfl (lv_at hl 3 rfl) ?_
              refine lv_iconst (v := (1 : Int32)) hx hb dX6_code_78 (by decide) ?_
              refine lv_isub hx hb dX6_code_79 ?_
              refine lv_istore (lv' := [(6, .int (x2 - (1 : Int32))), (5, .int y48.1), (0, .ref (L.2.1 k0)), (1, .int x1), (2, .int x2), (3, .long x3)]) hx hb dX6_code_80 hl (by decide) rfl (fun ls hl => ?_)
              exact hL82 q k0 x1 x2 x3 y48.1 (x2 - (1 : Int32)) D55 _ _ _ hF hP hS (lv_sub hl [2, 3, 4, 5, 1, 0] rfl)
            · rw [if_neg hc57] at hF
              refine lv_iconst (v := (0 : Int32)) hx hb dX6_code_75 (by decide) ?_
              exact cp_iret hx hb hr hlocks hF hP hS dX6_code_76
        · rw [if_neg hc47] at hF
          refine lv_iconst (v := (0 : Int32)) hx hb dX6_code_35 (by decide) ?_
          exact cp_iret hx hb hr hlocks hF hP hS dX6_code_36
theorem dX6_shine_0 : decode cX6_shine 0 = .ok (.iconst 0, 1) := by decide +kernel
theorem dX6_shine_1 : decode cX6_shine 1 = .ok (.istore_n 1, 1) := by decide +kernel
theorem dX6_shine_2 : decode cX6_shine 2 = .ok (.iload_n 1, 1) := by decide +kernel
theorem dX6_shine_3 : decode cX6_shine 3 = .ok (.aload_n 0, 1) := by decide +kernel
theorem dX6_shine_4 : decode cX6_shine 4 = .ok (.getfield 7, 3) := by decide +kernel
theorem dX6_shine_7 : decode cX6_shine 7 = .ok (.sipush 1225, 3) := by decide +kernel
theorem dX6_shine_10 : decode cX6_shine 10 = .ok (.iaload, 1) := by decide +kernel
theorem dX6_shine_11 : decode cX6_shine 11 = .ok (.if_icmp .ge 84, 3) := by decide +kernel
theorem dX6_shine_14 : decode cX6_shine 14 = .ok (.aload_n 0, 1) := by decide +kernel
theorem dX6_shine_15 : decode cX6_shine 15 = .ok (.getfield 7, 3) := by decide +kernel
theorem dX6_shine_18 : decode cX6_shine 18 = .ok (.sipush 1224, 3) := by decide +kernel
theorem dX6_shine_21 : decode cX6_shine 21 = .ok (.iaload, 1) := by decide +kernel
theorem dX6_shine_22 : decode cX6_shine 22 = .ok (.ifCond .le 73, 3) := by decide +kernel
theorem dX6_shine_25 : decode cX6_shine 25 = .ok (.aload_n 0, 1) := by decide +kernel
theorem dX6_shine_26 : decode cX6_shine 26 = .ok (.getfield 7, 3) := by decide +kernel
theorem dX6_shine_29 : decode cX6_shine 29 = .ok (.sipush 1227, 3) := by decide +kernel
theorem dX6_shine_32 : decode cX6_shine 32 = .ok (.iaload, 1) := by decide +kernel
theorem dX6_shine_33 : decode cX6_shine 33 = .ok (.istore_n 2, 1) := by decide +kernel
theorem dX6_shine_34 : decode cX6_shine 34 = .ok (.aload_n 0, 1) := by decide +kernel
theorem dX6_shine_35 : decode cX6_shine 35 = .ok (.getfield 7, 3) := by decide +kernel
theorem dX6_shine_38 : decode cX6_shine 38 = .ok (.iload_n 2, 1) := by decide +kernel
theorem dX6_shine_39 : decode cX6_shine 39 = .ok (.iaload, 1) := by decide +kernel
theorem dX6_shine_40 : decode cX6_shine 40 = .ok (.sipush 250, 3) := by decide +kernel
theorem dX6_shine_43 : decode cX6_shine 43 = .ok (.if_icmp .ge 25, 3) := by decide +kernel
theorem dX6_shine_46 : decode cX6_shine 46 = .ok (.aload_n 0, 1) := by decide +kernel
theorem dX6_shine_47 : decode cX6_shine 47 = .ok (.getfield 7, 3) := by decide +kernel
theorem dX6_shine_50 : decode cX6_shine 50 = .ok (.iload_n 2, 1) := by decide +kernel
theorem dX6_shine_51 : decode cX6_shine 51 = .ok (.dup2, 1) := by decide +kernel
theorem dX6_shine_52 : decode cX6_shine 52 = .ok (.iaload, 1) := by decide +kernel
theorem dX6_shine_53 : decode cX6_shine 53 = .ok (.iconst 1, 1) := by decide +kernel
theorem dX6_shine_54 : decode cX6_shine 54 = .ok (.iadd, 1) := by decide +kernel
theorem dX6_shine_55 : decode cX6_shine 55 = .ok (.iastore, 1) := by decide +kernel
theorem dX6_shine_56 : decode cX6_shine 56 = .ok (.aload_n 0, 1) := by decide +kernel
theorem dX6_shine_57 : decode cX6_shine 57 = .ok (.getfield 7, 3) := by decide +kernel
theorem dX6_shine_60 : decode cX6_shine 60 = .ok (.sipush 1224, 3) := by decide +kernel
theorem dX6_shine_63 : decode cX6_shine 63 = .ok (.dup2, 1) := by decide +kernel
theorem dX6_shine_64 : decode cX6_shine 64 = .ok (.iaload, 1) := by decide +kernel
theorem dX6_shine_65 : decode cX6_shine 65 = .ok (.iconst 1, 1) := by decide +kernel
theorem dX6_shine_66 : decode cX6_shine 66 = .ok (.isub, 1) := by decide +kernel
theorem dX6_shine_67 : decode cX6_shine 67 = .ok (.iastore, 1) := by decide +kernel
theorem dX6_shine_68 : decode cX6_shine 68 = .ok (.aload_n 0, 1) := by decide +kernel
theorem dX6_shine_69 : decode cX6_shine 69 = .ok (.getfield 7, 3) := by decide +kernel
theorem dX6_shine_72 : decode cX6_shine 72 = .ok (.sipush 1227, 3) := by decide +kernel
theorem dX6_shine_75 : decode cX6_shine 75 = .ok (.iload_n 2, 1) := by decide +kernel
theorem dX6_shine_76 : decode cX6_shine 76 = .ok (.iconst 1, 1) := by decide +kernel
theorem dX6_shine_77 : decode cX6_shine 77 = .ok (.iadd, 1) := by decide +kernel
theorem dX6_shine_78 : decode cX6_shine 78 = .ok (.aload_n 0, 1) := by decide +kernel
theorem dX6_shine_79 : decode cX6_shine 79 = .ok (.getfield 16, 3) := by decide +kernel
theorem dX6_shine_82 : decode cX6_shine 82 = .ok (.aload_n 0, 1) := by decide +kernel
theorem dX6_shine_83 : decode cX6_shine 83 = .ok (.getfield 20, 3) := by decide +kernel
theorem dX6_shine_86 : decode cX6_shine 86 = .ok (.imul, 1) := by decide +kernel
theorem dX6_shine_87 : decode cX6_shine 87 = .ok (.irem, 1) := by decide +kernel
theorem dX6_shine_88 : decode cX6_shine 88 = .ok (.iastore, 1) := by decide +kernel
theorem dX6_shine_89 : decode cX6_shine 89 = .ok (.iinc 1 1, 3) := by decide +kernel
theorem dX6_shine_92 : decode cX6_shine 92 = .ok (.goto (-90), 3) := by decide +kernel
theorem dX6_shine_95 : decode cX6_shine 95 = .ok (.return_, 1) := by decide +kernel
def fn_X6_shine_L2 (L : cp_Lay) (q : Nat) : Nat → Nat → Int32 → cp_Dt → Option (cp_Dt)
  | 0, _, _, _ => none
  | n + 1, a0, i1, D =>
    (cp_gR L a0 6 3).bind fun r1 =>
    (cp_aI L D 0 r1 (1225 : Int32)).bind fun v2 =>
    if v2 ≤ i1 then (some D)
    else ((cp_gR L a0 6 3).bind fun r4 =>
    (cp_aI L D 0 r4 (1224 : Int32)).bind fun v5 =>
    if v5 ≤ 0 then (some D)
    else ((cp_gR L a0 6 3).bind fun r7 =>
    (cp_aI L D 0 r7 (1227 : Int32)).bind fun v8 =>
    (cp_gR L a0 6 3).bind fun r9 =>
    (cp_aI L D 0 r9 v8).bind fun v10 =>
    if (250 : Int32) ≤ v10 then ((cp_gR L a0 6 3).bind fun r12 =>
    (cp_gI L D a0 6 1).bind fun v13 =>
    (cp_gI L D a0 6 2).bind fun v14 =>
    (cp_nz (v13 * v14)).bind fun u15 =>
    (cp_aS L D 0 r12 (1227 : Int32) ((v8 + (1 : Int32)) - (v8 + (1 : Int32)) / (v13 * v14) * (v13 * v14))).bind fun D16 =>
    fn_X6_shine_L2 L q n a0 (i1 + 1) D16)
    else ((cp_gR L a0 6 3).bind fun r17 =>
    (cp_aI L D 0 r17 v8).bind fun v18 =>
    (cp_aS L D 0 r17 v8 (v18 + (1 : Int32))).bind fun D19 =>
    (cp_gR L a0 6 3).bind fun r20 =>
    (cp_aI L D19 0 r20 (1224 : Int32)).bind fun v21 =>
    (cp_aS L D19 0 r20 (1224 : Int32) (v21 - (1 : Int32))).bind fun D22 =>
    (cp_gR L a0 6 3).bind fun r23 =>
    (cp_gI L D22 a0 6 1).bind fun v24 =>
    (cp_gI L D22 a0 6 2).bind fun v25 =>
    (cp_nz (v24 * v25)).bind fun u26 =>
    (cp_aS L D22 0 r23 (1227 : Int32) ((v8 + (1 : Int32)) - (v8 + (1 : Int32)) / (v24 * v25) * (v24 * v25))).bind fun D27 =>
    fn_X6_shine_L2 L q n a0 (i1 + 1) D27)))
def fn_X6_shine (L : cp_Lay) (q : Nat) (k0 : Nat) (D : cp_Dt) : Option (cp_Dt) :=
  fn_X6_shine_L2 L q q k0 (0 : Int32) D
set_option maxHeartbeats 4000000 in
set_option maxRecDepth 100000 in
theorem ct_X6_shine (l : Launch) (G : va_G) (L : cp_Lay) (hJ : cp_J L) (q : Nat) (k0 : Nat) (D : cp_Dt) (res : cp_Dt) (hF : fn_X6_shine L q k0 D = some res) : cp_Met l G yX6_shine wsX6_shine ({ frames := 0, cells := 0, slots := 0, locals := 0 }) L ([.ref (L.2.1 k0)] : List Value) D res none := by
  refine Met.ofW (cc := cX6_shine) (maxL := 3) (ret := none) (by decide) rfl ?_
  intro p e s m args below meth c s₁ B hml hv
  obtain ⟨rfl, hP, hK, hN, hZ⟩ := hv
  have hx := B.exec
  have hb := B.bytes
  have hr := B.returns
  have hts := atoms_spec (ws := wsX6_shine) B.pre
  have hown : s.vm.findClass "CreaturePondModel" = some m.cls := findClass_of_methodNamed B.named
  have hlocks := B.notSynchronized
  have hS : va_S (cp_A L) s.heap s.heap [] := va_S.rf
  have htT : ∀ w ∈ cp_T, w.before ([.ref (L.2.1 k0)] : List Value).toArray s = true := fun w h => hts w (List.mem_cons_of_mem _ h)
  have hl := lv_entry (([.ref (L.2.1 k0)] : List Value)) (n := 3) (Nat.le_of_ble_eq_true rfl)
  rw [lg_entry_eq]
  generalize (lg_sl (([.ref (L.2.1 k0)] : List Value)) ++ List.replicate (3 - (lg_sl (([.ref (L.2.1 k0)] : List Value))).length) Slot.unset).toArray = ls at hl ⊢
  have hl : lv_has ls 3 [(0, .ref (L.2.1 k0))] := hl
  have hL2 : ∀ (n : Nat) (a0 : Nat) (i1 : Int32) (D : cp_Dt) (H : Heap) (locs : List Loc) (ls : Array Slot), fn_X6_shine_L2 L q n a0 i1 D = some res → va_P G vwCl (cp_ws L D) H → va_S (cp_A L) s.heap H locs → lv_has ls 3 [(0, .ref (L.2.1 a0)), (1, .int i1)] → W p l e (headSpec wsX6_shine ({ frames := 0, cells := 0, slots := 0, locals := 0 })).room s m ([.ref (L.2.1 k0)] : List Value).toArray below meth c H locs 0 0 (MQ below (cp_Q G L res none) ([.ref (L.2.1 k0)] : List Value).toArray s 0 0 (cp_A L)) (F0 m 2 ls []) := by
    intro n
    induction n with
    | zero =>
      intro a0 i1 D H locs ls hF
      cases hF
    | succ n ih =>
      intro a0 i1 D H locs ls hF hP hS hl
      unfold fn_X6_shine_L2 at hF
      refine lv_iload_n hx hb dX6_shine_2 rfl (lv_at hl 1 rfl) ?_
      refine lv_aload_n hx hb dX6_shine_3 rfl (lv_at hl 0 rfl) ?_
      obtain ⟨r1, er1, hF⟩ := cp_bind hF
      refine cp_getR (T := TX6) (N := 6) (ci := 6) (j := 3) hx hb htT hinX6 hown hK hP rfl (by decide) rfl (htT _ tw_378) er1 dX6_shine_4 ?_
      refine lv_sipush (v := (1225 : Int32)) hx hb dX6_shine_7 (by decide) ?_
      obtain ⟨v2, ev2, hF⟩ := cp_bind hF
      refine cp_iald hx hb hK hP ev2 dX6_shine_10 ?_
      refine lv_icmp_ge (tgt := 95) hx hb dX6_shine_11 (by decide) (fun hc3 => ?_) (fun hc3 => ?_)
      · rw [if_pos hc3] at hF
        exact cp_vret hx hb hr hlocks hF hP hS dX6_shine_95
      · rw [if_neg hc3] at hF
        refine lv_aload_n hx hb dX6_shine_14 rfl (lv_at hl 0 rfl) ?_
        obtain ⟨r4, er4, hF⟩ := cp_bind hF
        refine cp_getR (T := TX6) (N := 6) (ci := 6) (j := 3) hx hb htT hinX6 hown hK hP rfl (by decide) rfl (htT _ tw_378) er4 dX6_shine_15 ?_
        refine lv_sipush (v := (1224 : Int32)) hx hb dX6_shine_18 (by decide) ?_
        obtain ⟨v5, ev5, hF⟩ := cp_bind hF
        refine cp_iald hx hb hK hP ev5 dX6_shine_21 ?_
        refine lv_if_le (tgt := 95) hx hb dX6_shine_22 (by decide) (fun hc6 => ?_) (fun hc6 => ?_)
        · rw [if_pos hc6] at hF
          exact cp_vret hx hb hr hlocks hF hP hS dX6_shine_95
        · rw [if_neg hc6] at hF
          refine lv_aload_n hx hb dX6_shine_25 rfl (lv_at hl 0 rfl) ?_
          obtain ⟨r7, er7, hF⟩ := cp_bind hF
          refine cp_getR (T := TX6) (N := 6) (ci := 6) (j := 3) hx hb htT hinX6 hown hK hP rfl (by decide) rfl (htT _ tw_378) er7 dX6_shine_26 ?_
          refine lv_sipush (v := (1227 : Int32)) hx hb dX6_shine_29 (by decide) ?_
          obtain ⟨v8, ev8, hF⟩ := cp_bind hF
          refine cp_iald hx hb hK hP ev8 dX6_shine_32 ?_
          refine lv_istore_n (lv' := [(2, .int v8), (0, .ref (L.2.1 a0)), (1, .int i1)]) hx hb dX6_shine_33 rfl hl (by decide) rfl (fun ls hl => ?_)
          refine lv_aload_n hx hb dX6_shine_34 rfl (lv_at hl 1 rfl) ?_
          obtain ⟨r9, er9, hF⟩ := cp_bind hF
          refine cp_getR (T := TX6) (N := 6) (ci := 6) (j := 3) hx hb htT hinX6 hown hK hP rfl (by decide) rfl (htT _ tw_378) er9 dX6_shine_35 ?_
          refine lv_iload_n hx hb dX6_shine_38 rfl (lv_at hl 0 rfl) ?_
          obtain ⟨v10, ev10, hF⟩ := cp_bind hF
          refine cp_iald hx hb hK hP ev10 dX6_shine_39 ?_
          refine lv_sipush (v := (250 : Int32)) hx hb dX6_shine_40 (by decide) ?_
          refine lv_icmp_ge (tgt := 68) hx hb dX6_shine_43 (by decide) (fun hc11 => ?_) (fun hc11 => ?_)
          · rw [if_pos hc11] at hF
            refine lv_aload_n hx hb dX6_shine_68 rfl (lv_at hl 1 rfl) ?_
            obtain ⟨r12, er12, hF⟩ := cp_bind hF
            refine cp_getR (T := TX6) (N := 6) (ci := 6) (j := 3) hx hb htT hinX6 hown hK hP rfl (by decide) rfl (htT _ tw_378) er12 dX6_shine_69 ?_
            refine lv_sipush (v := (1227 : Int32)) hx hb dX6_shine_72 (by decide) ?_
            refine lv_iload_n hx hb dX6_shine_75 rfl (lv_at hl 0 rfl) ?_
            refine lv_iconst (v := (1 : Int32)) hx hb dX6_shine_76 (by decide) ?_
            refine lv_iadd hx hb dX6_shine_77 ?_
            refine lv_aload_n hx hb dX6_shine_78 rfl (lv_at hl 1 rfl) ?_
            obtain ⟨v13, ev13, hF⟩ := cp_bind hF
            refine cp_getI (T := TX6) (N := 6) (ci := 6) (j := 1) hx hb htT hinX6 hown hK hP rfl (by decide) rfl (htT _ tw_376) ev13 dX6_shine_79 ?_
            refine lv_aload_n hx hb dX6_shine_82 rfl (lv_at hl 1 rfl) ?_
            obtain ⟨v14, ev14, hF⟩ := cp_bind hF
            refine cp_getI (T := TX6) (N := 6) (ci := 6) (j := 2) hx hb htT hinX6 hown hK hP rfl (by decide) rfl (htT _ tw_377) ev14 dX6_shine_83 ?_
            refine lv_imul hx hb dX6_shine_86 ?_
            obtain ⟨u15, eu15, hF⟩ := cp_bind hF
            refine lv_irem hx hb dX6_shine_87 (cp_nz_ne eu15) ?_
            obtain ⟨D16, eD16, hF⟩ := cp_bind hF
            refine cp_iast hx hb hK hJ hP hS eD16 dX6_shine_88 (fun H locs hP hS => ?_)
            refine lv_iinc (k := 2) (v := (i1 + 1)) (lv' := [(1, .int (i1 + 1)), (2, .int v8), (0, .ref (L.2.1 a0))]) hx hb dX6_shine_89 hl rfl (congrArg (fun z => i1 + z) (by decide)) (by decide) rfl (fun ls hl => ?_)
            refine lv_goto (tgt := 2) hx hb dX6_shine_92 (by decide) ?_
            exact ih a0 (i1 + 1) D16 _ _ _ hF hP hS (lv_sub hl [2, 0] rfl)
          · rw [if_neg hc11] at hF
            refine lv_aload_n hx hb dX6_shine_46 rfl (lv_at hl 1 rfl) ?_
            obtain ⟨r17, er17, hF⟩ := cp_bind hF
            refine cp_getR (T := TX6) (N := 6) (ci := 6) (j := 3) hx hb htT hinX6 hown hK hP rfl (by decide) rfl (htT _ tw_378) er17 dX6_shine_47 ?_
            refine lv_iload_n hx hb dX6_shine_50 rfl (lv_at hl 0 rfl) ?_
            refine lv_dup2_11 hx hb dX6_shine_51 rfl rfl ?_
            obtain ⟨v18, ev18, hF⟩ := cp_bind hF
            refine cp_iald hx hb hK hP ev18 dX6_shine_52 ?_
            refine lv_iconst (v := (1 : Int32)) hx hb dX6_shine_53 (by decide) ?_
            refine lv_iadd hx hb dX6_shine_54 ?_
            obtain ⟨D19, eD19, hF⟩ := cp_bind hF
            refine cp_iast hx hb hK hJ hP hS eD19 dX6_shine_55 (fun H locs hP hS => ?_)
            refine lv_aload_n hx hb dX6_shine_56 rfl (lv_at hl 1 rfl) ?_
            obtain ⟨r20, er20, hF⟩ := cp_bind hF
            refine cp_getR (T := TX6) (N := 6) (ci := 6) (j := 3) hx hb htT hinX6 hown hK hP rfl (by decide) rfl (htT _ tw_378) er20 dX6_shine_57 ?_
            refine lv_sipush (v := (1224 : Int32)) hx hb dX6_shine_60 (by decide) ?_
            refine lv_dup2_11 hx hb dX6_shine_63 rfl rfl ?_
            obtain ⟨v21, ev21, hF⟩ := cp_bind hF
            refine cp_iald hx hb hK hP ev21 dX6_shine_64 ?_
            refine lv_iconst (v := (1 : Int32)) hx hb dX6_shine_65 (by decide) ?_
            refine lv_isub hx hb dX6_shine_66 ?_
            obtain ⟨D22, eD22, hF⟩ := cp_bind hF
            refine cp_iast hx hb hK hJ hP hS eD22 dX6_shine_67 (fun H locs hP hS => ?_)
            refine lv_aload_n hx hb dX6_shine_68 rfl (lv_at hl 1 rfl) ?_
            obtain ⟨r23, er23, hF⟩ := cp_bind hF
            refine cp_getR (T := TX6) (N := 6) (ci := 6) (j := 3) hx hb htT hinX6 hown hK hP rfl (by decide) rfl (htT _ tw_378) er23 dX6_shine_69 ?_
            refine lv_sipush (v := (1227 : Int32)) hx hb dX6_shine_72 (by decide) ?_
            refine lv_iload_n hx hb dX6_shine_75 rfl (lv_at hl 0 rfl) ?_
            refine lv_iconst (v := (1 : Int32)) hx hb dX6_shine_76 (by decide) ?_
            refine lv_iadd hx hb dX6_shine_77 ?_
            refine lv_aload_n hx hb dX6_shine_78 rfl (lv_at hl 1 rfl) ?_
            obtain ⟨v24, ev24, hF⟩ := cp_bind hF
            refine cp_getI (T := TX6) (N := 6) (ci := 6) (j := 1) hx hb htT hinX6 hown hK hP rfl (by decide) rfl (htT _ tw_376) ev24 dX6_shine_79 ?_
            refine lv_aload_n hx hb dX6_shine_82 rfl (lv_at hl 1 rfl) ?_
            obtain ⟨v25, ev25, hF⟩ := cp_bind hF
            refine cp_getI (T := TX6) (N := 6) (ci := 6) (j := 2) hx hb htT hinX6 hown hK hP rfl (by decide) rfl (htT _ tw_377) ev25 dX6_shine_83 ?_
            refine lv_imul hx hb dX6_shine_86 ?_
            obtain ⟨u26, eu26, hF⟩ := cp_bind hF
            refine lv_irem hx hb dX6_shine_87 (cp_nz_ne eu26) ?_
            obtain ⟨D27, eD27, hF⟩ := cp_bind hF
            refine cp_iast hx hb hK hJ hP hS eD27 dX6_shine_88 (fun H locs hP hS => ?_)
            refine lv_iinc (k := 2) (v := (i1 + 1)) (lv' := [(1, .int (i1 + 1)), (2, .int v8), (0, .ref (L.2.1 a0))]) hx hb dX6_shine_89 hl rfl (congrArg (fun z => i1 + z) (by decide)) (by decide) rfl (fun ls hl => ?_)
            refine lv_goto (tgt := 2) hx hb dX6_shine_92 (by decide) ?_
            exact ih a0 (i1 + 1) D27 _ _ _ hF hP hS (lv_sub hl [2, 0] rfl)
  unfold fn_X6_shine at hF
  refine lv_iconst (v := (0 : Int32)) hx hb dX6_shine_0 (by decide) ?_
  refine lv_istore_n (lv' := [(1, .int (0 : Int32)), (0, .ref (L.2.1 k0))]) hx hb dX6_shine_1 rfl hl (by decide) rfl (fun ls hl => ?_)
  exact hL2 q k0 (0 : Int32) D _ _ _ hF hP hS (lv_sub hl [1, 0] rfl)
theorem dX6_least_0 : decode cX6_least 0 = .ok (.iload_n 0, 1) := by decide +kernel
theorem dX6_least_1 : decode cX6_least 1 = .ok (.iload_n 1, 1) := by decide +kernel
theorem dX6_least_2 : decode cX6_least 2 = .ok (.if_icmp .ge 7, 3) := by decide +kernel
theorem dX6_least_5 : decode cX6_least 5 = .ok (.iload_n 0, 1) := by decide +kernel
theorem dX6_least_6 : decode cX6_least 6 = .ok (.goto 4, 3) := by decide +kernel
theorem dX6_least_9 : decode cX6_least 9 = .ok (.iload_n 1, 1) := by decide +kernel
theorem dX6_least_10 : decode cX6_least 10 = .ok (.ireturn, 1) := by decide +kernel
def fn_X6_least (L : cp_Lay) (q : Nat) (x1 : Int32) (x2 : Int32) (D : cp_Dt) : Option (Int32 × cp_Dt) :=
  if x2 ≤ x1 then (some (x2, D))
  else (some (x1, D))
set_option maxHeartbeats 4000000 in
set_option maxRecDepth 100000 in
theorem ct_X6_least (l : Launch) (G : va_G) (L : cp_Lay) (hJ : cp_J L) (q : Nat) (x1 : Int32) (x2 : Int32) (D : cp_Dt) (res : Int32 × cp_Dt) (hF : fn_X6_least L q x1 x2 D = some res) : cp_Met l G yX6_least wsX6_least ({ frames := 0, cells := 0, slots := 0, locals := 0 }) L ([.int x1, .int x2] : List Value) D res.2 (some (.int res.1)) := by
  refine Met.ofW (cc := cX6_least) (maxL := 2) (ret := (some .int)) (by decide) rfl ?_
  intro p e s m args below meth c s₁ B hml hv
  obtain ⟨rfl, hP, hK, hN, hZ⟩ := hv
  have hx := B.exec
  have hb := B.bytes
  have hr := B.returns
  have hts := atoms_spec (ws := wsX6_least) B.pre
  have hown : s.vm.findClass "CreaturePondModel" = some m.cls := findClass_of_methodNamed B.named
  have hlocks := B.notSynchronized
  have hS : va_S (cp_A L) s.heap s.heap [] := va_S.rf
  have htT : ∀ w ∈ cp_T, w.before ([.int x1, .int x2] : List Value).toArray s = true := fun w h => hts w (List.mem_cons_of_mem _ h)
  have hl := lv_entry (([.int x1, .int x2] : List Value)) (n := 2) (Nat.le_of_ble_eq_true rfl)
  rw [lg_entry_eq]
  generalize (lg_sl (([.int x1, .int x2] : List Value)) ++ List.replicate (2 - (lg_sl (([.int x1, .int x2] : List Value))).length) Slot.unset).toArray = ls at hl ⊢
  have hl : lv_has ls 2 [(0, .int x1), (1, .int x2)] := hl
  unfold fn_X6_least at hF
  refine lv_iload_n hx hb dX6_least_0 rfl (lv_at hl 0 rfl) ?_
  refine lv_iload_n hx hb dX6_least_1 rfl (lv_at hl 1 rfl) ?_
  refine lv_icmp_ge (tgt := 9) hx hb dX6_least_2 (by decide) (fun hc1 => ?_) (fun hc1 => ?_)
  · rw [if_pos hc1] at hF
    refine lv_iload_n hx hb dX6_least_9 rfl (lv_at hl 1 rfl) ?_
    exact cp_iret hx hb hr hlocks hF hP hS dX6_least_10
  · rw [if_neg hc1] at hF
    refine lv_iload_n hx hb dX6_least_5 rfl (lv_at hl 0 rfl) ?_
    refine lv_goto (tgt := 10) hx hb dX6_least_6 (by decide) ?_
    exact cp_iret hx hb hr hlocks hF hP hS dX6_least_10
