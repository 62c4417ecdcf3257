theorem dX6_total_0 : decode cX6_total 0 = .ok (.aload_n 0, 1) := by decide +kernel
theorem dX6_total_1 : decode cX6_total 1 = .ok (.iconst 0, 1) := by decide +kernel
theorem dX6_total_2 : decode cX6_total 2 = .ok (.putfield 23, 3) := by decide +kernel
theorem dX6_total_5 : decode cX6_total 5 = .ok (.iconst 0, 1) := by decide +kernel
theorem dX6_total_6 : decode cX6_total 6 = .ok (.istore_n 2, 1) := by decide +kernel
theorem dX6_total_7 : decode cX6_total 7 = .ok (.iconst 0, 1) := by decide +kernel
theorem dX6_total_8 : decode cX6_total 8 = .ok (.istore_n 3, 1) := by decide +kernel
theorem dX6_total_9 : decode cX6_total 9 = .ok (.iconst 0, 1) := by decide +kernel
theorem dX6_total_10 : decode cX6_total 10 = .ok (.istore 4, 2) := by decide +kernel
theorem dX6_total_12 : decode cX6_total 12 = .ok (.iload 4, 2) := by decide +kernel
theorem dX6_total_14 : decode cX6_total 14 = .ok (.bipush 16, 2) := by decide +kernel
theorem dX6_total_16 : decode cX6_total 16 = .ok (.if_icmp .ge 37, 3) := by decide +kernel
theorem dX6_total_19 : decode cX6_total 19 = .ok (.iload_n 2, 1) := by decide +kernel
theorem dX6_total_20 : decode cX6_total 20 = .ok (.aload_n 0, 1) := by decide +kernel
theorem dX6_total_21 : decode cX6_total 21 = .ok (.iload 4, 2) := by decide +kernel
theorem dX6_total_23 : decode cX6_total 23 = .ok (.invokevirtual 34, 3) := by decide +kernel
theorem dX6_total_26 : decode cX6_total 26 = .ok (.ifCond .eq 18, 3) := by decide +kernel
theorem dX6_total_29 : decode cX6_total 29 = .ok (.aload_n 0, 1) := by decide +kernel
theorem dX6_total_30 : decode cX6_total 30 = .ok (.getfield 7, 3) := by decide +kernel
theorem dX6_total_33 : decode cX6_total 33 = .ok (.iload 4, 2) := by decide +kernel
theorem dX6_total_35 : decode cX6_total 35 = .ok (.invokestatic 30, 3) := by decide +kernel
theorem dX6_total_38 : decode cX6_total 38 = .ok (.iconst 2, 1) := by decide +kernel
theorem dX6_total_39 : decode cX6_total 39 = .ok (.iadd, 1) := by decide +kernel
theorem dX6_total_40 : decode cX6_total 40 = .ok (.iaload, 1) := by decide +kernel
theorem dX6_total_41 : decode cX6_total 41 = .ok (.goto 4, 3) := by decide +kernel
theorem dX6_total_44 : decode cX6_total 44 = .ok (.iconst 0, 1) := by decide +kernel
theorem dX6_total_45 : decode cX6_total 45 = .ok (.iadd, 1) := by decide +kernel
theorem dX6_total_46 : decode cX6_total 46 = .ok (.istore_n 2, 1) := by decide +kernel
theorem dX6_total_47 : decode cX6_total 47 = .ok (.iinc 4 1, 3) := by decide +kernel
theorem dX6_total_50 : decode cX6_total 50 = .ok (.goto (-38), 3) := by decide +kernel
theorem dX6_total_53 : decode cX6_total 53 = .ok (.iconst 0, 1) := by decide +kernel
theorem dX6_total_54 : decode cX6_total 54 = .ok (.istore 4, 2) := by decide +kernel
theorem dX6_total_56 : decode cX6_total 56 = .ok (.iload 4, 2) := by decide +kernel
theorem dX6_total_58 : decode cX6_total 58 = .ok (.aload_n 0, 1) := by decide +kernel
theorem dX6_total_59 : decode cX6_total 59 = .ok (.getfield 16, 3) := by decide +kernel
theorem dX6_total_62 : decode cX6_total 62 = .ok (.aload_n 0, 1) := by decide +kernel
theorem dX6_total_63 : decode cX6_total 63 = .ok (.getfield 20, 3) := by decide +kernel
theorem dX6_total_66 : decode cX6_total 66 = .ok (.imul, 1) := by decide +kernel
theorem dX6_total_67 : decode cX6_total 67 = .ok (.if_icmp .ge 19, 3) := by decide +kernel
theorem dX6_total_70 : decode cX6_total 70 = .ok (.iload_n 3, 1) := by decide +kernel
theorem dX6_total_71 : decode cX6_total 71 = .ok (.aload_n 0, 1) := by decide +kernel
theorem dX6_total_72 : decode cX6_total 72 = .ok (.getfield 7, 3) := by decide +kernel
theorem dX6_total_75 : decode cX6_total 75 = .ok (.iload 4, 2) := by decide +kernel
theorem dX6_total_77 : decode cX6_total 77 = .ok (.iaload, 1) := by decide +kernel
theorem dX6_total_78 : decode cX6_total 78 = .ok (.iadd, 1) := by decide +kernel
theorem dX6_total_79 : decode cX6_total 79 = .ok (.istore_n 3, 1) := by decide +kernel
theorem dX6_total_80 : decode cX6_total 80 = .ok (.iinc 4 1, 3) := by decide +kernel
theorem dX6_total_83 : decode cX6_total 83 = .ok (.goto (-27), 3) := by decide +kernel
theorem dX6_total_86 : decode cX6_total 86 = .ok (.iload_n 1, 1) := by decide +kernel
theorem dX6_total_87 : decode cX6_total 87 = .ok (.iconst 5, 1) := by decide +kernel
theorem dX6_total_88 : decode cX6_total 88 = .ok (.if_icmp .ge 70, 3) := by decide +kernel
theorem dX6_total_91 : decode cX6_total 91 = .ok (.iload_n 1, 1) := by decide +kernel
theorem dX6_total_92 : decode cX6_total 92 = .ok (.ifCond .ne 7, 3) := by decide +kernel
theorem dX6_total_95 : decode cX6_total 95 = .ok (.iload_n 2, 1) := by decide +kernel
theorem dX6_total_96 : decode cX6_total 96 = .ok (.goto 61, 3) := by decide +kernel
theorem dX6_total_99 : decode cX6_total 99 = .ok (.iload_n 1, 1) := by decide +kernel
theorem dX6_total_100 : decode cX6_total 100 = .ok (.iconst 1, 1) := by decide +kernel
theorem dX6_total_101 : decode cX6_total 101 = .ok (.if_icmp .ne 7, 3) := by decide +kernel
theorem dX6_total_104 : decode cX6_total 104 = .ok (.iload_n 3, 1) := by decide +kernel
theorem dX6_total_105 : decode cX6_total 105 = .ok (.goto 52, 3) := by decide +kernel
theorem dX6_total_108 : decode cX6_total 108 = .ok (.iload_n 1, 1) := by decide +kernel
theorem dX6_total_109 : decode cX6_total 109 = .ok (.iconst 2, 1) := by decide +kernel
theorem dX6_total_110 : decode cX6_total 110 = .ok (.if_icmp .ne 14, 3) := by decide +kernel
theorem dX6_total_113 : decode cX6_total 113 = .ok (.aload_n 0, 1) := by decide +kernel
theorem dX6_total_114 : decode cX6_total 114 = .ok (.getfield 7, 3) := by decide +kernel
theorem dX6_total_117 : decode cX6_total 117 = .ok (.sipush 1224, 3) := by decide +kernel
theorem dX6_total_120 : decode cX6_total 120 = .ok (.iaload, 1) := by decide +kernel
theorem dX6_total_121 : decode cX6_total 121 = .ok (.goto 36, 3) := by decide +kernel
theorem dX6_total_124 : decode cX6_total 124 = .ok (.iload_n 1, 1) := by decide +kernel
theorem dX6_total_125 : decode cX6_total 125 = .ok (.iconst 3, 1) := by decide +kernel
theorem dX6_total_126 : decode cX6_total 126 = .ok (.if_icmp .ne 18, 3) := by decide +kernel
theorem dX6_total_129 : decode cX6_total 129 = .ok (.iload_n 2, 1) := by decide +kernel
theorem dX6_total_130 : decode cX6_total 130 = .ok (.iload_n 3, 1) := by decide +kernel
theorem dX6_total_131 : decode cX6_total 131 = .ok (.iadd, 1) := by decide +kernel
theorem dX6_total_132 : decode cX6_total 132 = .ok (.aload_n 0, 1) := by decide +kernel
theorem dX6_total_133 : decode cX6_total 133 = .ok (.getfield 7, 3) := by decide +kernel
theorem dX6_total_136 : decode cX6_total 136 = .ok (.sipush 1224, 3) := by decide +kernel
theorem dX6_total_139 : decode cX6_total 139 = .ok (.iaload, 1) := by decide +kernel
theorem dX6_total_140 : decode cX6_total 140 = .ok (.iadd, 1) := by decide +kernel
theorem dX6_total_141 : decode cX6_total 141 = .ok (.goto 16, 3) := by decide +kernel
theorem dX6_total_144 : decode cX6_total 144 = .ok (.iload_n 1, 1) := by decide +kernel
theorem dX6_total_145 : decode cX6_total 145 = .ok (.iconst 4, 1) := by decide +kernel
theorem dX6_total_146 : decode cX6_total 146 = .ok (.if_icmp .ne 10, 3) := by decide +kernel
theorem dX6_total_149 : decode cX6_total 149 = .ok (.aload_n 0, 1) := by decide +kernel
theorem dX6_total_150 : decode cX6_total 150 = .ok (.invokevirtual 112, 3) := by decide +kernel
theorem dX6_total_153 : decode cX6_total 153 = .ok (.goto 4, 3) := by decide +kernel
theorem dX6_total_156 : decode cX6_total 156 = .ok (.iconst (-1), 1) := by decide +kernel
theorem dX6_total_157 : decode cX6_total 157 = .ok (.ireturn, 1) := by decide +kernel
theorem dX6_total_158 : decode cX6_total 158 = .ok (.iload_n 1, 1) := by decide +kernel
theorem dX6_total_159 : decode cX6_total 159 = .ok (.iconst 5, 1) := by decide +kernel
theorem dX6_total_160 : decode cX6_total 160 = .ok (.if_icmp .ne 14, 3) := by decide +kernel
theorem dX6_total_163 : decode cX6_total 163 = .ok (.aload_n 0, 1) := by decide +kernel
theorem dX6_total_164 : decode cX6_total 164 = .ok (.getfield 7, 3) := by decide +kernel
theorem dX6_total_167 : decode cX6_total 167 = .ok (.sipush 1228, 3) := by decide +kernel
theorem dX6_total_170 : decode cX6_total 170 = .ok (.iaload, 1) := by decide +kernel
theorem dX6_total_171 : decode cX6_total 171 = .ok (.goto 72, 3) := by decide +kernel
theorem dX6_total_174 : decode cX6_total 174 = .ok (.iload_n 1, 1) := by decide +kernel
theorem dX6_total_175 : decode cX6_total 175 = .ok (.bipush 6, 2) := by decide +kernel
theorem dX6_total_177 : decode cX6_total 177 = .ok (.if_icmp .ne 14, 3) := by decide +kernel
theorem dX6_total_180 : decode cX6_total 180 = .ok (.aload_n 0, 1) := by decide +kernel
theorem dX6_total_181 : decode cX6_total 181 = .ok (.getfield 7, 3) := by decide +kernel
theorem dX6_total_184 : decode cX6_total 184 = .ok (.sipush 1229, 3) := by decide +kernel
theorem dX6_total_187 : decode cX6_total 187 = .ok (.iaload, 1) := by decide +kernel
theorem dX6_total_188 : decode cX6_total 188 = .ok (.goto 55, 3) := by decide +kernel
theorem dX6_total_191 : decode cX6_total 191 = .ok (.iload_n 1, 1) := by decide +kernel
theorem dX6_total_192 : decode cX6_total 192 = .ok (.bipush 7, 2) := by decide +kernel
theorem dX6_total_194 : decode cX6_total 194 = .ok (.if_icmp .ne 14, 3) := by decide +kernel
theorem dX6_total_197 : decode cX6_total 197 = .ok (.aload_n 0, 1) := by decide +kernel
theorem dX6_total_198 : decode cX6_total 198 = .ok (.getfield 7, 3) := by decide +kernel
theorem dX6_total_201 : decode cX6_total 201 = .ok (.sipush 1230, 3) := by decide +kernel
theorem dX6_total_204 : decode cX6_total 204 = .ok (.iaload, 1) := by decide +kernel
theorem dX6_total_205 : decode cX6_total 205 = .ok (.goto 38, 3) := by decide +kernel
theorem dX6_total_208 : decode cX6_total 208 = .ok (.iload_n 1, 1) := by decide +kernel
theorem dX6_total_209 : decode cX6_total 209 = .ok (.bipush 8, 2) := by decide +kernel
theorem dX6_total_211 : decode cX6_total 211 = .ok (.if_icmp .ne 14, 3) := by decide +kernel
theorem dX6_total_214 : decode cX6_total 214 = .ok (.aload_n 0, 1) := by decide +kernel
theorem dX6_total_215 : decode cX6_total 215 = .ok (.getfield 7, 3) := by decide +kernel
theorem dX6_total_218 : decode cX6_total 218 = .ok (.sipush 1226, 3) := by decide +kernel
theorem dX6_total_221 : decode cX6_total 221 = .ok (.iaload, 1) := by decide +kernel
theorem dX6_total_222 : decode cX6_total 222 = .ok (.goto 21, 3) := by decide +kernel
theorem dX6_total_225 : decode cX6_total 225 = .ok (.iload_n 1, 1) := by decide +kernel
theorem dX6_total_226 : decode cX6_total 226 = .ok (.bipush 9, 2) := by decide +kernel
theorem dX6_total_228 : decode cX6_total 228 = .ok (.if_icmp .ne 14, 3) := by decide +kernel
theorem dX6_total_231 : decode cX6_total 231 = .ok (.aload_n 0, 1) := by decide +kernel
theorem dX6_total_232 : decode cX6_total 232 = .ok (.getfield 7, 3) := by decide +kernel
theorem dX6_total_235 : decode cX6_total 235 = .ok (.sipush 1227, 3) := by decide +kernel
theorem dX6_total_238 : decode cX6_total 238 = .ok (.iaload, 1) := by decide +kernel
theorem dX6_total_239 : decode cX6_total 239 = .ok (.goto 4, 3) := by decide +kernel
theorem dX6_total_242 : decode cX6_total 242 = .ok (.iconst (-1), 1) := by decide +kernel
theorem dX6_total_243 : decode cX6_total 243 = .ok (.ireturn, 1) := by decide +kernel
def fn_X6_total_L56 (L : cp_Lay) (q : Nat) : Nat → Nat → Int32 → Int32 → Int32 → Int32 → cp_Dt → Option (Int32 × cp_Dt)
  | 0, _, _, _, _, _, _ => none
  | n + 1, a0, i1, i2, i3, i4, D =>
    (cp_gI L D a0 6 1).bind fun v9 =>
    (cp_gI L D a0 6 2).bind fun v10 =>
    if (v9 * v10) ≤ i4 then (if (5 : Int32) ≤ i1 then (if i1 = (5 : Int32) then ((cp_gR L a0 6 3).bind fun r26 =>
    (cp_aI L D 0 r26 (1228 : Int32)).bind fun v27 =>
    some (v27, D))
    else (if i1 = (6 : Int32) then ((cp_gR L a0 6 3).bind fun r24 =>
    (cp_aI L D 0 r24 (1229 : Int32)).bind fun v25 =>
    some (v25, D))
    else (if i1 = (7 : Int32) then ((cp_gR L a0 6 3).bind fun r22 =>
    (cp_aI L D 0 r22 (1230 : Int32)).bind fun v23 =>
    some (v23, D))
    else (if i1 = (8 : Int32) then ((cp_gR L a0 6 3).bind fun r20 =>
    (cp_aI L D 0 r20 (1226 : Int32)).bind fun v21 =>
    some (v21, D))
    else (if i1 = (9 : Int32) then ((cp_gR L a0 6 3).bind fun r18 =>
    (cp_aI L D 0 r18 (1227 : Int32)).bind fun v19 =>
    some (v19, D))
    else (some ((-1 : Int32), D)))))))
    else (if i1 = 0 then (some (i2, D))
    else (if i1 = (1 : Int32) then (some (i3, D))
    else (if i1 = (2 : Int32) then ((cp_gR L a0 6 3).bind fun r37 =>
    (cp_aI L D 0 r37 (1224 : Int32)).bind fun v38 =>
    some (v38, D))
    else (if i1 = (3 : Int32) then ((cp_gR L a0 6 3).bind fun r35 =>
    (cp_aI L D 0 r35 (1224 : Int32)).bind fun v36 =>
    some (((i2 + i3) + v36), D))
    else (if i1 = (4 : Int32) then ((cp_fl L a0 6).bind fun f33 =>
    (fn_X6_animals L q a0 D).bind fun y34 =>
    some (y34.1, y34.2))
    else (some ((-1 : Int32), D))))))))
    else ((cp_gR L a0 6 3).bind fun r39 =>
    (cp_aI L D 0 r39 i4).bind fun v40 =>
    fn_X6_total_L56 L q n a0 i1 i2 (i3 + v40) (i4 + 1) D)
def fn_X6_total_L12 (L : cp_Lay) (q : Nat) : Nat → Nat → Int32 → Int32 → Int32 → Int32 → cp_Dt → Option (Int32 × cp_Dt)
  | 0, _, _, _, _, _, _ => none
  | n + 1, a0, i1, i2, i3, i4, D =>
    if (16 : Int32) ≤ i4 then (fn_X6_total_L56 L q q a0 i1 i2 i3 (0 : Int32) D)
    else ((cp_fl L a0 6).bind fun f3 =>
    (fn_X6_lives L q a0 i4 D).bind fun y4 =>
    if y4.1 = 0 then (fn_X6_total_L12 L q n a0 i1 (i2 + (0 : Int32)) i3 (i4 + 1) y4.2)
    else ((cp_gR L a0 6 3).bind fun r6 =>
    (fn_X6_at L q i4 y4.2).bind fun y7 =>
    (cp_aI L y7.2 0 r6 (y7.1 + (2 : Int32))).bind fun v8 =>
    fn_X6_total_L12 L q n a0 i1 (i2 + v8) i3 (i4 + 1) y7.2))
def fn_X6_total (L : cp_Lay) (q : Nat) (k0 : Nat) (x1 : Int32) (D : cp_Dt) : Option (Int32 × cp_Dt) :=
  (cp_pI L D k0 6 0 (0 : Int32)).bind fun D1 =>
  fn_X6_total_L12 L q q k0 x1 (0 : Int32) (0 : Int32) (0 : Int32) D1
set_option maxHeartbeats 4000000 in
set_option maxRecDepth 100000 in
theorem ct_X6_total (l : Launch) (G : va_G) (L : cp_Lay) (hJ : cp_J L) (q : Nat) (k0 : Nat) (x1 : Int32) (D : cp_Dt) (res : Int32 × cp_Dt) (hF : fn_X6_total L q k0 x1 D = some res) : cp_Met l G yX6_total wsX6_total ({ frames := 3, cells := 0, slots := 0, locals := 63 }) L ([.ref (L.2.1 k0), .int x1] : List Value) D res.2 (some (.int res.1)) := by
  refine Met.ofW (cc := cX6_total) (maxL := 5) (ret := (some .int)) (by decide) rfl ?_
  intro p e s m args below meth c s₁ B hml hv
  obtain ⟨rfl, hP, hK, hN, hZ⟩ := hv
  have hx := B.exec
  have hb := B.bytes
  have hr := B.returns
  have hts := atoms_spec (ws := wsX6_total) B.pre
  have hown : s.vm.findClass "CreaturePondModel" = some m.cls := findClass_of_methodNamed B.named
  have hlocks := B.notSynchronized
  have hS : va_S (cp_A L) s.heap s.heap [] := va_S.rf
  have htT : ∀ w ∈ cp_T, w.before ([.ref (L.2.1 k0), .int x1] : List Value).toArray s = true := fun w h => hts w (List.mem_cons_of_mem _ h)
  have hl := lv_entry (([.ref (L.2.1 k0), .int x1] : List Value)) (n := 5) (Nat.le_of_ble_eq_true rfl)
  rw [lg_entry_eq]
  generalize (lg_sl (([.ref (L.2.1 k0), .int x1] : List Value)) ++ List.replicate (5 - (lg_sl (([.ref (L.2.1 k0), .int x1] : List Value))).length) Slot.unset).toArray = ls at hl ⊢
  have hl : lv_has ls 5 [(0, .ref (L.2.1 k0)), (1, .int x1)] := hl
  have hL56 : ∀ (n : Nat) (a0 : Nat) (i1 : Int32) (i2 : Int32) (i3 : Int32) (i4 : Int32) (D : cp_Dt) (H : Heap) (locs : List Loc) (ls : Array Slot), fn_X6_total_L56 L q n a0 i1 i2 i3 i4 D = some res → va_P G vwCl (cp_ws L D) H → va_S (cp_A L) s.heap H locs → lv_has ls 5 [(0, .ref (L.2.1 a0)), (1, .int i1), (2, .int i2), (3, .int i3), (4, .int i4)] → W p l e (headSpec wsX6_total ({ frames := 3, cells := 0, slots := 0, locals := 63 })).room s m ([.ref (L.2.1 k0), .int x1] : List Value).toArray below meth c H locs 0 0 (MQ below (cp_Q G L res.2 (some (.int res.1))) ([.ref (L.2.1 k0), .int x1] : List Value).toArray s 0 0 (cp_A L)) (F0 m 56 ls []) := by
    intro n
    induction n with
    | zero =>
      intro a0 i1 i2 i3 i4 D H locs ls hF
      cases hF
    | succ n ih =>
      intro a0 i1 i2 i3 i4 D H locs ls hF hP hS hl
      unfold fn_X6_total_L56 at hF
      refine lv_iload hx hb dX6_total_56 (lv_at hl 4 rfl) ?_
      refine lv_aload_n hx hb dX6_total_58 rfl (lv_at hl 0 rfl) ?_
      obtain ⟨v9, ev9, hF⟩ := cp_bind hF
      refine cp_getI (T := TX6) (N := 6) (ci := 6) (j := 1) hx hb htT hinX6 hown hK hP rfl (by decide) rfl (htT _ tw_376) ev9 dX6_total_59 ?_
      refine lv_aload_n hx hb dX6_total_62 rfl (lv_at hl 0 rfl) ?_
      obtain ⟨v10, ev10, hF⟩ := cp_bind hF
      refine cp_getI (T := TX6) (N := 6) (ci := 6) (j := 2) hx hb htT hinX6 hown hK hP rfl (by decide) rfl (htT _ tw_377) ev10 dX6_total_63 ?_
      refine lv_imul hx hb dX6_total_66 ?_
      refine lv_icmp_ge (tgt := 86) hx hb dX6_total_67 (by decide) (fun hc11 => ?_) (fun hc11 => ?_)
      · rw [if_pos hc11] at hF
        refine lv_iload_n hx hb dX6_total_86 rfl (lv_at hl 1 rfl) ?_
        refine lv_iconst (v := (5 : Int32)) hx hb dX6_total_87 (by decide) ?_
        refine lv_icmp_ge (tgt := 158) hx hb dX6_total_88 (by decide) (fun hc12 => ?_) (fun hc12 => ?_)
        · rw [if_pos hc12] at hF
          refine lv_iload_n hx hb dX6_total_158 rfl (lv_at hl 1 rfl) ?_
          refine lv_iconst (v := (5 : Int32)) hx hb dX6_total_159 (by decide) ?_
          refine lv_icmp_ne (tgt := 174) hx hb dX6_total_160 (by decide) (fun hc13 => ?_) (fun hc13 => ?_)
          · rw [if_neg hc13] at hF
            refine lv_iload_n hx hb dX6_total_174 rfl (lv_at hl 1 rfl) ?_
            refine lv_bipush (v := (6 : Int32)) hx hb dX6_total_175 (by decide) ?_
            refine lv_icmp_ne (tgt := 191) hx hb dX6_total_177 (by decide) (fun hc14 => ?_) (fun hc14 => ?_)
            · rw [if_neg hc14] at hF
              refine lv_iload_n hx hb dX6_total_191 rfl (lv_at hl 1 rfl) ?_
              refine lv_bipush (v := (7 : Int32)) hx hb dX6_total_192 (by decide) ?_
              refine lv_icmp_ne (tgt := 208) hx hb dX6_total_194 (by decide) (fun hc15 => ?_) (fun hc15 => ?_)
              · rw [if_neg hc15] at hF
                refine lv_iload_n hx hb dX6_total_208 rfl (lv_at hl 1 rfl) ?_
                refine lv_bipush (v := (8 : Int32)) hx hb dX6_total_209 (by decide) ?_
                refine lv_icmp_ne (tgt := 225) hx hb dX6_total_211 (by decide) (fun hc16 => ?_) (fun hc16 => ?_)
                · rw [if_neg hc16] at hF
                  refine lv_iload_n hx hb dX6_total_225 rfl (lv_at hl 1 rfl) ?_
                  refine lv_bipush (v := (9 : Int32)) hx hb dX6_total_226 (by decide) ?_
                  refine lv_icmp_ne (tgt := 242) hx hb dX6_total_228 (by decide) (fun hc17 => ?_) (fun hc17 => ?_)
                  · rw [if_neg hc17] at hF
                    refine lv_iconst (v := (-1 : Int32)) hx hb dX6_total_242 (by decide) ?_
                    exact cp_iret hx hb hr hlocks hF hP hS dX6_total_243
                  · rw [if_pos hc17] at hF
                    refine lv_aload_n hx hb dX6_total_231 rfl (lv_at hl 0 rfl) ?_
                    obtain ⟨r18, er18, hF⟩ := cp_bind hF
                    refine cp_getR (T := TX6) (N := 6) (ci := 6) (j := 3) hx hb htT hinX6 hown hK hP rfl (by decide) rfl (htT _ tw_378) er18 dX6_total_232 ?_
                    refine lv_sipush (v := (1227 : Int32)) hx hb dX6_total_235 (by decide) ?_
                    obtain ⟨v19, ev19, hF⟩ := cp_bind hF
                    refine cp_iald hx hb hK hP ev19 dX6_total_238 ?_
                    refine lv_goto (tgt := 243) hx hb dX6_total_239 (by decide) ?_
                    exact cp_iret hx hb hr hlocks hF hP hS dX6_total_243
                · rw [if_pos hc16] at hF
                  refine lv_aload_n hx hb dX6_total_214 rfl (lv_at hl 0 rfl) ?_
                  obtain ⟨r20, er20, hF⟩ := cp_bind hF
                  refine cp_getR (T := TX6) (N := 6) (ci := 6) (j := 3) hx hb htT hinX6 hown hK hP rfl (by decide) rfl (htT _ tw_378) er20 dX6_total_215 ?_
                  refine lv_sipush (v := (1226 : Int32)) hx hb dX6_total_218 (by decide) ?_
                  obtain ⟨v21, ev21, hF⟩ := cp_bind hF
                  refine cp_iald hx hb hK hP ev21 dX6_total_221 ?_
                  refine lv_goto (tgt := 243) hx hb dX6_total_222 (by decide) ?_
                  exact cp_iret hx hb hr hlocks hF hP hS dX6_total_243
              · rw [if_pos hc15] at hF
                refine lv_aload_n hx hb dX6_total_197 rfl (lv_at hl 0 rfl) ?_
                obtain ⟨r22, er22, hF⟩ := cp_bind hF
                refine cp_getR (T := TX6) (N := 6) (ci := 6) (j := 3) hx hb htT hinX6 hown hK hP rfl (by decide) rfl (htT _ tw_378) er22 dX6_total_198 ?_
                refine lv_sipush (v := (1230 : Int32)) hx hb dX6_total_201 (by decide) ?_
                obtain ⟨v23, ev23, hF⟩ := cp_bind hF
                refine cp_iald hx hb hK hP ev23 dX6_total_204 ?_
                refine lv_goto (tgt := 243) hx hb dX6_total_205 (by decide) ?_
                exact cp_iret hx hb hr hlocks hF hP hS dX6_total_243
            · rw [if_pos hc14] at hF
              refine lv_aload_n hx hb dX6_total_180 rfl (lv_at hl 0 rfl) ?_
              obtain ⟨r24, er24, hF⟩ := cp_bind hF
              refine cp_getR (T := TX6) (N := 6) (ci := 6) (j := 3) hx hb htT hinX6 hown hK hP rfl (by decide) rfl (htT _ tw_378) er24 dX6_total_181 ?_
              refine lv_sipush (v := (1229 : Int32)) hx hb dX6_total_184 (by decide) ?_
              obtain ⟨v25, ev25, hF⟩ := cp_bind hF
              refine cp_iald hx hb hK hP ev25 dX6_total_187 ?_
              refine lv_goto (tgt := 243) hx hb dX6_total_188 (by decide) ?_
              exact cp_iret hx hb hr hlocks hF hP hS dX6_total_243
          · rw [if_pos hc13] at hF
            refine lv_aload_n hx hb dX6_total_163 rfl (lv_at hl 0 rfl) ?_
            obtain ⟨r26, er26, hF⟩ := cp_bind hF
            refine cp_getR (T := TX6) (N := 6) (ci := 6) (j := 3) hx hb htT hinX6 hown hK hP rfl (by decide) rfl (htT _ tw_378) er26 dX6_total_164 ?_
            refine lv_sipush (v := (1228 : Int32)) hx hb dX6_total_167 (by decide) ?_
            obtain ⟨v27, ev27, hF⟩ := cp_bind hF
            refine cp_iald hx hb hK hP ev27 dX6_total_170 ?_
            refine lv_goto (tgt := 243) hx hb dX6_total_171 (by decide) ?_
            exact cp_iret hx hb hr hlocks hF hP hS dX6_total_243
        · rw [if_neg hc12] at hF
          refine lv_iload_n hx hb dX6_total_91 rfl (lv_at hl 1 rfl) ?_
          refine lv_if_ne (tgt := 99) hx hb dX6_total_92 (by decide) (fun hc28 => ?_) (fun hc28 => ?_)
          · rw [if_neg hc28] at hF
            refine lv_iload_n hx hb dX6_total_99 rfl (lv_at hl 1 rfl) ?_
            refine lv_iconst (v := (1 : Int32)) hx hb dX6_total_100 (by decide) ?_
            refine lv_icmp_ne (tgt := 108) hx hb dX6_total_101 (by decide) (fun hc29 => ?_) (fun hc29 => ?_)
            · rw [if_neg hc29] at hF
              refine lv_iload_n hx hb dX6_total_108 rfl (lv_at hl 1 rfl) ?_
              refine lv_iconst (v := (2 : Int32)) hx hb dX6_total_109 (by decide) ?_
              refine lv_icmp_ne (tgt := 124) hx hb dX6_total_110 (by decide) (fun hc30 => ?_) (fun hc30 => ?_)
              · rw [if_neg hc30] at hF
                refine lv_iload_n hx hb dX6_total_124 rfl (lv_at hl 1 rfl) ?_
                refine lv_iconst (v := (3 : Int32)) hx hb dX6_total_125 (by decide) ?_
                refine lv_icmp_ne (tgt := 144) hx hb dX6_total_126 (by decide) (fun hc31 => ?_) (fun hc31 => ?_)
                · rw [if_neg hc31] at hF
                  refine lv_iload_n hx hb dX6_total_144 rfl (lv_at hl 1 rfl) ?_
                  refine lv_iconst (v := (4 : Int32)) hx hb dX6_total_145 (by decide) ?_
                  refine lv_icmp_ne (tgt := 156) hx hb dX6_total_146 (by decide) (fun hc32 => ?_) (fun hc32 => ?_)
                  · rw [if_neg hc32] at hF
                    refine lv_iconst (v := (-1 : Int32)) hx hb dX6_total_156 (by decide) ?_
                    exact cp_iret hx hb hr hlocks hF hP hS dX6_total_157
                  · rw [if_pos hc32] at hF
                    refine lv_aload_n hx hb dX6_total_149 rfl (lv_at hl 0 rfl) ?_
                    obtain ⟨f33, ef33, hF⟩ := cp_bind hF
                    obtain ⟨y34, ey34, hF⟩ := cp_bind hF
                    refine cp_call (st1 := [.int y34.1]) (va_runV (As := []) (rest := []) ⟨hx, hb, hml, hown, htT⟩ (ct_X6_animals l G L hJ q a0 D y34 ey34) ⟨callB_of 0 htT gdX6_animals rfl rfl rfl (htT _ tw_8) (htT _ tw_492) hdX6_animals ⟨Nat.le_of_ble_eq_true rfl, Nat.le_of_ble_eq_true rfl⟩, (htT _ tw_493), (htT _ tw_594)⟩ ⟨cp_blind, cp_recv hK hP rfl ef33, cp_pre hP hK hN hZ hS⟩ rfl rfl hl.1 rfl (lv_room (Nat.le_of_ble_eq_true rfl)) dX6_total_150 ⟨Nat.zero_le _, Nat.zero_le _⟩) hS (fun H locs hP hS => ?_)
                    refine lv_goto (tgt := 157) hx hb dX6_total_153 (by decide) ?_
                    exact cp_iret hx hb hr hlocks hF hP hS dX6_total_157
                · rw [if_pos hc31] at hF
                  refine lv_iload_n hx hb dX6_total_129 rfl (lv_at hl 2 rfl) ?_
                  refine lv_iload_n hx hb dX6_total_130 rfl (lv_at hl 3 rfl) ?_
                  refine lv_iadd hx hb dX6_total_131 ?_
                  refine lv_aload_n hx hb dX6_total_132 rfl (lv_at hl 0 rfl) ?_
                  obtain ⟨r35, er35, hF⟩ := cp_bind hF
                  refine cp_getR (T := TX6) (N := 6) (ci := 6) (j := 3) hx hb htT hinX6 hown hK hP rfl (by decide) rfl (htT _ tw_378) er35 dX6_total_133 ?_
                  refine lv_sipush (v := (1224 : Int32)) hx hb dX6_total_136 (by decide) ?_
                  obtain ⟨v36, ev36, hF⟩ := cp_bind hF
                  refine cp_iald hx hb hK hP ev36 dX6_total_139 ?_
                  refine lv_iadd hx hb dX6_total_140 ?_
                  refine lv_goto (tgt := 157) hx hb dX6_total_141 (by decide) ?_
                  exact cp_iret hx hb hr hlocks hF hP hS dX6_total_157
              · rw [if_pos hc30] at hF
                refine lv_aload_n hx hb dX6_total_113 rfl (lv_at hl 0 rfl) ?_
                obtain ⟨r37, er37, hF⟩ := cp_bind hF
                refine cp_getR (T := TX6) (N := 6) (ci := 6) (j := 3) hx hb htT hinX6 hown hK hP rfl (by decide) rfl (htT _ tw_378) er37 dX6_total_114 ?_
                refine lv_sipush (v := (1224 : Int32)) hx hb dX6_total_117 (by decide) ?_
                obtain ⟨v38, ev38, hF⟩ := cp_bind hF
                refine cp_iald hx hb hK hP ev38 dX6_total_120 ?_
                refine lv_goto (tgt := 157) hx hb dX6_total_121 (by decide) ?_
                exact cp_iret hx hb hr hlocks hF hP hS dX6_total_157
            · rw [if_pos hc29] at hF
              refine lv_iload_n hx hb dX6_total_104 rfl (lv_at hl 3 rfl) ?_
              refine lv_goto (tgt := 157) hx hb dX6_total_105 (by decide) ?_
              exact cp_iret hx hb hr hlocks hF hP hS dX6_total_157
          · rw [if_pos hc28] at hF
            refine lv_iload_n hx hb dX6_total_95 rfl (lv_at hl 2 rfl) ?_
            refine lv_goto (tgt := 157) hx hb dX6_total_96 (by decide) ?_
            exact cp_iret hx hb hr hlocks hF hP hS dX6_total_157
      · rw [if_neg hc11] at hF
        refine lv_iload_n hx hb dX6_total_70 rfl (lv_at hl 3 rfl) ?_
        refine lv_aload_n hx hb dX6_total_71 rfl (lv_at hl 0 rfl) ?_
        obtain ⟨r39, er39, hF⟩ := cp_bind hF
        refine cp_getR (T := TX6) (N := 6) (ci := 6) (j := 3) hx hb htT hinX6 hown hK hP rfl (by decide) rfl (htT _ tw_378) er39 dX6_total_72 ?_
        refine lv_iload hx hb dX6_total_75 (lv_at hl 4 rfl) ?_
        obtain ⟨v40, ev40, hF⟩ := cp_bind hF
        refine cp_iald hx hb hK hP ev40 dX6_total_77 ?_
        refine lv_iadd hx hb dX6_total_78 ?_
        refine lv_istore_n (lv' := [(3, .int (i3 + v40)), (0, .ref (L.2.1 a0)), (1, .int i1), (2, .int i2), (4, .int i4)]) hx hb dX6_total_79 rfl hl (by decide) rfl (fun ls hl => ?_)
        refine lv_iinc (k := 4) (v := (i4 + 1)) (lv' := [(4, .int (i4 + 1)), (3, .int (i3 + v40)), (0, .ref (L.2.1 a0)), (1, .int i1), (2, .int i2)]) hx hb dX6_total_80 hl rfl (congrArg (fun z => i4 + z) (by decide)) (by decide) rfl (fun ls hl => ?_)
        refine lv_goto (tgt := 56) hx hb dX6_total_83 (by decide) ?_
        exact ih a0 i1 i2 (i3 + v40) (i4 + 1) D _ _ _ hF hP hS (lv_sub hl [2, 3, 4, 1, 0] rfl)
  have hL12 : ∀ (n : Nat) (a0 : Nat) (i1 : Int32) (i2 : Int32) (i3 : Int32) (i4 : Int32) (D : cp_Dt) (H : Heap) (locs : List Loc) (ls : Array Slot), fn_X6_total_L12 L q n a0 i1 i2 i3 i4 D = some res → va_P G vwCl (cp_ws L D) H → va_S (cp_A L) s.heap H locs → lv_has ls 5 [(0, .ref (L.2.1 a0)), (1, .int i1), (2, .int i2), (3, .int i3), (4, .int i4)] → W p l e (headSpec wsX6_total ({ frames := 3, cells := 0, slots := 0, locals := 63 })).room s m ([.ref (L.2.1 k0), .int x1] : List Value).toArray below meth c H locs 0 0 (MQ below (cp_Q G L res.2 (some (.int res.1))) ([.ref (L.2.1 k0), .int x1] : List Value).toArray s 0 0 (cp_A L)) (F0 m 12 ls []) := by
    intro n
    induction n with
    | zero =>
      intro a0 i1 i2 i3 i4 D H locs ls hF
      cases hF
    | succ n ih =>
      intro a0 i1 i2 i3 i4 D H locs ls hF hP hS hl
      unfold fn_X6_total_L12 at hF
      refine lv_iload hx hb dX6_total_12 (lv_at hl 4 rfl) ?_
      refine lv_bipush (v := (16 : Int32)) hx hb dX6_total_14 (by decide) ?_
      refine lv_icmp_ge (tgt := 53) hx hb dX6_total_16 (by decide) (fun hc2 => ?_) (fun hc2 => ?_)
      · rw [if_pos hc2] at hF
        refine lv_iconst (v := (0 : Int32)) hx hb dX6_total_53 (by decide) ?_
        refine lv_istore (lv' := [(4, .int (0 : Int32)), (0, .ref (L.2.1 a0)), (1, .int i1), (2, .int i2), (3, .int i3)]) hx hb dX6_total_54 hl (by decide) rfl (fun ls hl => ?_)
        exact hL56 q a0 i1 i2 i3 (0 : Int32) D _ _ _ hF hP hS (lv_sub hl [1, 2, 3, 4, 0] rfl)
      · rw [if_neg hc2] at hF
        refine lv_iload_n hx hb dX6_total_19 rfl (lv_at hl 2 rfl) ?_
        refine lv_aload_n hx hb dX6_total_20 rfl (lv_at hl 0 rfl) ?_
        refine lv_iload hx hb dX6_total_21 (lv_at hl 4 rfl) ?_
        obtain ⟨f3, ef3, hF⟩ := cp_bind hF
        obtain ⟨y4, ey4, hF⟩ := cp_bind hF
        refine cp_call (st1 := [.int y4.1, .int i2]) (va_runV (As := [.int i4]) (rest := [.int i2]) ⟨hx, hb, hml, hown, htT⟩ (ct_X6_lives l G L hJ q a0 i4 D y4 ey4) ⟨callB_of 1 htT gdX6_lives rfl rfl rfl (htT _ tw_8) (htT _ tw_423) hdX6_lives ⟨Nat.le_of_ble_eq_true rfl, Nat.le_of_ble_eq_true rfl⟩, (htT _ tw_424), (htT _ tw_576)⟩ ⟨cp_blind, cp_recv hK hP rfl ef3, cp_pre hP hK hN hZ hS⟩ rfl rfl hl.1 rfl (lv_room (Nat.le_of_ble_eq_true rfl)) dX6_total_23 ⟨Nat.zero_le _, Nat.zero_le _⟩) hS (fun H locs hP hS => ?_)
        refine lv_if_eq (tgt := 44) hx hb dX6_total_26 (by decide) (fun hc5 => ?_) (fun hc5 => ?_)
        · rw [if_pos hc5] at hF
          refine lv_iconst (v := (0 : Int32)) hx hb dX6_total_44 (by decide) ?_
          refine lv_iadd hx hb dX6_total_45 ?_
          refine lv_istore_n (lv' := [(2, .int (i2 + (0 : Int32))), (0, .ref (L.2.1 a0)), (1, .int i1), (3, .int i3), (4, .int i4)]) hx hb dX6_total_46 rfl hl (by decide) rfl (fun ls hl => ?_)
          refine lv_iinc (k := 4) (v := (i4 + 1)) (lv' := [(4, .int (i4 + 1)), (2, .int (i2 + (0 : Int32))), (0, .ref (L.2.1 a0)), (1, .int i1), (3, .int i3)]) hx hb dX6_total_47 hl rfl (congrArg (fun z => i4 + z) (by decide)) (by decide) rfl (fun ls hl => ?_)
          refine lv_goto (tgt := 12) hx hb dX6_total_50 (by decide) ?_
          exact ih a0 i1 (i2 + (0 : Int32)) i3 (i4 + 1) y4.2 _ _ _ hF hP hS (lv_sub hl [2, 3, 1, 4, 0] rfl)
        · rw [if_neg hc5] at hF
          refine lv_aload_n hx hb dX6_total_29 rfl (lv_at hl 0 rfl) ?_
          obtain ⟨r6, er6, hF⟩ := cp_bind hF
          refine cp_getR (T := TX6) (N := 6) (ci := 6) (j := 3) hx hb htT hinX6 hown hK hP rfl (by decide) rfl (htT _ tw_378) er6 dX6_total_30 ?_
          refine lv_iload hx hb dX6_total_33 (lv_at hl 4 rfl) ?_
          obtain ⟨y7, ey7, hF⟩ := cp_bind hF
          refine cp_call (st1 := [.int y7.1, .ref (L.2.1 r6), .int i2]) (va_runS (As := [.int i4]) (rest := [.ref (L.2.1 r6), .int i2]) ⟨hx, hb, hml, hown, htT⟩ (ct_X6_at l G L hJ q i4 y4.2 y7 ey7) ⟨callB_of 1 htT gdX6_at rfl rfl rfl (htT _ tw_8) (htT _ tw_417) hdX6_at ⟨Nat.le_of_ble_eq_true rfl, Nat.le_of_ble_eq_true rfl⟩, (htT _ tw_418)⟩ ⟨cp_blind, cp_pre hP hK hN hZ hS⟩ rfl rfl hl.1 rfl (lv_room (Nat.le_of_ble_eq_true rfl)) dX6_total_35 ⟨Nat.zero_le _, Nat.zero_le _⟩) hS (fun H locs hP hS => ?_)
          refine lv_iconst (v := (2 : Int32)) hx hb dX6_total_38 (by decide) ?_
          refine lv_iadd hx hb dX6_total_39 ?_
          obtain ⟨v8, ev8, hF⟩ := cp_bind hF
          refine cp_iald hx hb hK hP ev8 dX6_total_40 ?_
          refine lv_goto (tgt := 45) hx hb dX6_total_41 (by decide) ?_
          refine lv_iadd hx hb dX6_total_45 ?_
          refine lv_istore_n (lv' := [(2, .int (i2 + v8)), (0, .ref (L.2.1 a0)), (1, .int i1), (3, .int i3), (4, .int i4)]) hx hb dX6_total_46 rfl hl (by decide) rfl (fun ls hl => ?_)
          refine lv_iinc (k := 4) (v := (i4 + 1)) (lv' := [(4, .int (i4 + 1)), (2, .int (i2 + v8)), (0, .ref (L.2.1 a0)), (1, .int i1), (3, .int i3)]) hx hb dX6_total_47 hl rfl (congrArg (fun z => i4 + z) (by decide)) (by decide) rfl (fun ls hl => ?_)
          refine lv_goto (tgt := 12) hx hb dX6_total_50 (by decide) ?_
          exact ih a0 i1 (i2 + v8) i3 (i4 + 1) y7.2 _ _ _ hF hP hS (lv_sub hl [2, 3, 1, 4, 0] rfl)
  unfold fn_X6_total at hF
  refine lv_aload_n hx hb dX6_total_0 rfl (lv_at hl 0 rfl) ?_
  refine lv_iconst (v := (0 : Int32)) hx hb dX6_total_1 (by decide) ?_
  obtain ⟨D1, eD1, hF⟩ := cp_bind hF
  refine cp_put (T := TX6) (N := 6) (ci := 6) (j := 0) hx hb htT hinX6 tyX6 tyX6_ok nmX6 hown hK hJ hP hS rfl (by decide) rfl (htT _ tw_375) rfl rfl rfl eD1 dX6_total_2 (fun H locs hP hS => ?_)
  refine lv_iconst (v := (0 : Int32)) hx hb dX6_total_5 (by decide) ?_
  refine lv_istore_n (lv' := [(2, .int (0 : Int32)), (0, .ref (L.2.1 k0)), (1, .int x1)]) hx hb dX6_total_6 rfl hl (by decide) rfl (fun ls hl => ?_)
  refine lv_iconst (v := (0 : Int32)) hx hb dX6_total_7 (by decide) ?_
  refine lv_istore_n (lv' := [(3, .int (0 : Int32)), (2, .int (0 : Int32)), (0, .ref (L.2.1 k0)), (1, .int x1)]) hx hb dX6_total_8 rfl hl (by decide) rfl (fun ls hl => ?_)
  refine lv_iconst (v := (0 : Int32)) hx hb dX6_total_9 (by decide) ?_
  refine lv_istore (lv' := [(4, .int (0 : Int32)), (3, .int (0 : Int32)), (2, .int (0 : Int32)), (0, .ref (L.2.1 k0)), (1, .int x1)]) hx hb dX6_total_10 hl (by decide) rfl (fun ls hl => ?_)
  exact hL12 q k0 x1 (0 : Int32) (0 : Int32) (0 : Int32) D1 _ _ _ hF hP hS (lv_sub hl [3, 4, 2, 1, 0] rfl)
theorem dX6_keep_0 : decode cX6_keep 0 = .ok (.aload_n 0, 1) := by decide +kernel
theorem dX6_keep_1 : decode cX6_keep 1 = .ok (.iconst 0, 1) := by decide +kernel
theorem dX6_keep_2 : decode cX6_keep 2 = .ok (.putfield 23, 3) := by decide +kernel
theorem dX6_keep_5 : decode cX6_keep 5 = .ok (.aload_n 0, 1) := by decide +kernel
theorem dX6_keep_6 : decode cX6_keep 6 = .ok (.iconst 1, 1) := by decide +kernel
theorem dX6_keep_7 : decode cX6_keep 7 = .ok (.putfield 115, 3) := by decide +kernel
theorem dX6_keep_10 : decode cX6_keep 10 = .ok (.iconst 0, 1) := by decide +kernel
theorem dX6_keep_11 : decode cX6_keep 11 = .ok (.istore_n 1, 1) := by decide +kernel
theorem dX6_keep_12 : decode cX6_keep 12 = .ok (.iload_n 1, 1) := by decide +kernel
theorem dX6_keep_13 : decode cX6_keep 13 = .ok (.sipush 1232, 3) := by decide +kernel
theorem dX6_keep_16 : decode cX6_keep 16 = .ok (.if_icmp .ge 21, 3) := by decide +kernel
theorem dX6_keep_19 : decode cX6_keep 19 = .ok (.aload_n 0, 1) := by decide +kernel
theorem dX6_keep_20 : decode cX6_keep 20 = .ok (.getfield 13, 3) := by decide +kernel
theorem dX6_keep_23 : decode cX6_keep 23 = .ok (.iload_n 1, 1) := by decide +kernel
theorem dX6_keep_24 : decode cX6_keep 24 = .ok (.aload_n 0, 1) := by decide +kernel
theorem dX6_keep_25 : decode cX6_keep 25 = .ok (.getfield 7, 3) := by decide +kernel
theorem dX6_keep_28 : decode cX6_keep 28 = .ok (.iload_n 1, 1) := by decide +kernel
theorem dX6_keep_29 : decode cX6_keep 29 = .ok (.iaload, 1) := by decide +kernel
theorem dX6_keep_30 : decode cX6_keep 30 = .ok (.iastore, 1) := by decide +kernel
theorem dX6_keep_31 : decode cX6_keep 31 = .ok (.iinc 1 1, 3) := by decide +kernel
theorem dX6_keep_34 : decode cX6_keep 34 = .ok (.goto (-22), 3) := by decide +kernel
theorem dX6_keep_37 : decode cX6_keep 37 = .ok (.return_, 1) := by decide +kernel
def fn_X6_keep_L12 (L : cp_Lay) (q : Nat) : Nat → Nat → Int32 → cp_Dt → Option (cp_Dt)
  | 0, _, _, _ => none
  | n + 1, a0, i1, D =>
    if (1232 : Int32) ≤ i1 then (some D)
    else ((cp_gR L a0 6 5).bind fun r4 =>
    (cp_gR L a0 6 3).bind fun r5 =>
    (cp_aI L D 0 r5 i1).bind fun v6 =>
    (cp_aS L D 0 r4 i1 v6).bind fun D7 =>
    fn_X6_keep_L12 L q n a0 (i1 + 1) D7)
def fn_X6_keep (L : cp_Lay) (q : Nat) (k0 : Nat) (D : cp_Dt) : Option (cp_Dt) :=
  (cp_pI L D k0 6 0 (0 : Int32)).bind fun D1 =>
  (cp_pZ L D1 k0 6 4 (1 : Int32)).bind fun D2 =>
  fn_X6_keep_L12 L q q k0 (0 : Int32) D2
set_option maxHeartbeats 4000000 in
set_option maxRecDepth 100000 in
theorem ct_X6_keep (l : Launch) (G : va_G) (L : cp_Lay) (hJ : cp_J L) (q : Nat) (k0 : Nat) (D : cp_Dt) (res : cp_Dt) (hF : fn_X6_keep L q k0 D = some res) : cp_Met l G yX6_keep wsX6_keep ({ frames := 0, cells := 0, slots := 0, locals := 0 }) L ([.ref (L.2.1 k0)] : List Value) D res none := by
  refine Met.ofW (cc := cX6_keep) (maxL := 2) (ret := none) (by decide) rfl ?_
  intro p e s m args below meth c s₁ B hml hv
  obtain ⟨rfl, hP, hK, hN, hZ⟩ := hv
  have hx := B.exec
  have hb := B.bytes
  have hr := B.returns
  have hts := atoms_spec (ws := wsX6_keep) B.pre
  have hown : s.vm.findClass "CreaturePondModel" = some m.cls := findClass_of_methodNamed B.named
  have hlocks := B.notSynchronized
  have hS : va_S (cp_A L) s.heap s.heap [] := va_S.rf
  have htT : ∀ w ∈ cp_T, w.before ([.ref (L.2.1 k0)] : List Value).toArray s = true := fun w h => hts w (List.mem_cons_of_mem _ h)
  have hl := lv_entry (([.ref (L.2.1 k0)] : List Value)) (n := 2) (Nat.le_of_ble_eq_true rfl)
  rw [lg_entry_eq]
  generalize (lg_sl (([.ref (L.2.1 k0)] : List Value)) ++ List.replicate (2 - (lg_sl (([.ref (L.2.1 k0)] : List Value))).length) Slot.unset).toArray = ls at hl ⊢
  have hl : lv_has ls 2 [(0, .ref (L.2.1 k0))] := hl
  have hL12 : ∀ (n : Nat) (a0 : Nat) (i1 : Int32) (D : cp_Dt) (H : Heap) (locs : List Loc) (ls : Array Slot), fn_X6_keep_L12 L q n a0 i1 D = some res → va_P G vwCl (cp_ws L D) H → va_S (cp_A L) s.heap H locs → lv_has ls 2 [(0, .ref (L.2.1 a0)), (1, .int i1)] → W p l e (headSpec wsX6_keep ({ frames := 0, cells := 0, slots := 0, locals := 0 })).room s m ([.ref (L.2.1 k0)] : List Value).toArray below meth c H locs 0 0 (MQ below (cp_Q G L res none) ([.ref (L.2.1 k0)] : List Value).toArray s 0 0 (cp_A L)) (F0 m 12 ls []) := by
    intro n
    induction n with
    | zero =>
      intro a0 i1 D H locs ls hF
      cases hF
    | succ n ih =>
      intro a0 i1 D H locs ls hF hP hS hl
      unfold fn_X6_keep_L12 at hF
      refine lv_iload_n hx hb dX6_keep_12 rfl (lv_at hl 1 rfl) ?_
      refine lv_sipush (v := (1232 : Int32)) hx hb dX6_keep_13 (by decide) ?_
      refine lv_icmp_ge (tgt := 37) hx hb dX6_keep_16 (by decide) (fun hc3 => ?_) (fun hc3 => ?_)
      · rw [if_pos hc3] at hF
        exact cp_vret hx hb hr hlocks hF hP hS dX6_keep_37
      · rw [if_neg hc3] at hF
        refine lv_aload_n hx hb dX6_keep_19 rfl (lv_at hl 0 rfl) ?_
        obtain ⟨r4, er4, hF⟩ := cp_bind hF
        refine cp_getR (T := TX6) (N := 6) (ci := 6) (j := 5) hx hb htT hinX6 hown hK hP rfl (by decide) rfl (htT _ tw_380) er4 dX6_keep_20 ?_
        refine lv_iload_n hx hb dX6_keep_23 rfl (lv_at hl 1 rfl) ?_
        refine lv_aload_n hx hb dX6_keep_24 rfl (lv_at hl 0 rfl) ?_
        obtain ⟨r5, er5, hF⟩ := cp_bind hF
        refine cp_getR (T := TX6) (N := 6) (ci := 6) (j := 3) hx hb htT hinX6 hown hK hP rfl (by decide) rfl (htT _ tw_378) er5 dX6_keep_25 ?_
        refine lv_iload_n hx hb dX6_keep_28 rfl (lv_at hl 1 rfl) ?_
        obtain ⟨v6, ev6, hF⟩ := cp_bind hF
        refine cp_iald hx hb hK hP ev6 dX6_keep_29 ?_
        obtain ⟨D7, eD7, hF⟩ := cp_bind hF
        refine cp_iast hx hb hK hJ hP hS eD7 dX6_keep_30 (fun H locs hP hS => ?_)
        refine lv_iinc (k := 1) (v := (i1 + 1)) (lv' := [(1, .int (i1 + 1)), (0, .ref (L.2.1 a0))]) hx hb dX6_keep_31 hl rfl (congrArg (fun z => i1 + z) (by decide)) (by decide) rfl (fun ls hl => ?_)
        refine lv_goto (tgt := 12) hx hb dX6_keep_34 (by decide) ?_
        exact ih a0 (i1 + 1) D7 _ _ _ hF hP hS (lv_sub hl [1, 0] rfl)
  unfold fn_X6_keep at hF
  refine lv_aload_n hx hb dX6_keep_0 rfl (lv_at hl 0 rfl) ?_
  refine lv_iconst (v := (0 : Int32)) hx hb dX6_keep_1 (by decide) ?_
  obtain ⟨D1, eD1, hF⟩ := cp_bind hF
  refine cp_put (T := TX6) (N := 6) (ci := 6) (j := 0) hx hb htT hinX6 tyX6 tyX6_ok nmX6 hown hK hJ hP hS rfl (by decide) rfl (htT _ tw_375) rfl rfl rfl eD1 dX6_keep_2 (fun H locs hP hS => ?_)
  refine lv_aload_n hx hb dX6_keep_5 rfl (lv_at hl 0 rfl) ?_
  refine lv_iconst (v := (1 : Int32)) hx hb dX6_keep_6 (by decide) ?_
  obtain ⟨D2, eD2, hF⟩ := cp_bind hF
  refine cp_put (T := TX6) (N := 6) (ci := 6) (j := 4) hx hb htT hinX6 tyX6 tyX6_ok nmX6 hown hK hJ hP hS rfl (by decide) rfl (htT _ tw_379) rfl (cp_pZ_spec eD2).2.1 (cp_pZ_spec eD2).2.2 (cp_pZ_spec eD2).1 dX6_keep_7 (fun H locs hP hS => ?_)
  refine lv_iconst (v := (0 : Int32)) hx hb dX6_keep_10 (by decide) ?_
  refine lv_istore_n (lv' := [(1, .int (0 : Int32)), (0, .ref (L.2.1 k0))]) hx hb dX6_keep_11 rfl hl (by decide) rfl (fun ls hl => ?_)
  exact hL12 q k0 (0 : Int32) D2 _ _ _ hF hP hS (lv_sub hl [1, 0] rfl)
theorem dX6_wasIn_0 : decode cX6_wasIn 0 = .ok (.iconst 0, 1) := by decide +kernel
theorem dX6_wasIn_1 : decode cX6_wasIn 1 = .ok (.istore_n 2, 1) := by decide +kernel
theorem dX6_wasIn_2 : decode cX6_wasIn 2 = .ok (.iload_n 2, 1) := by decide +kernel
theorem dX6_wasIn_3 : decode cX6_wasIn 3 = .ok (.bipush 16, 2) := by decide +kernel
theorem dX6_wasIn_5 : decode cX6_wasIn 5 = .ok (.if_icmp .ge 24, 3) := by decide +kernel
theorem dX6_wasIn_8 : decode cX6_wasIn 8 = .ok (.aload_n 0, 1) := by decide +kernel
theorem dX6_wasIn_9 : decode cX6_wasIn 9 = .ok (.getfield 13, 3) := by decide +kernel
theorem dX6_wasIn_12 : decode cX6_wasIn 12 = .ok (.iload_n 2, 1) := by decide +kernel
theorem dX6_wasIn_13 : decode cX6_wasIn 13 = .ok (.invokestatic 30, 3) := by decide +kernel
theorem dX6_wasIn_16 : decode cX6_wasIn 16 = .ok (.iaload, 1) := by decide +kernel
theorem dX6_wasIn_17 : decode cX6_wasIn 17 = .ok (.iload_n 1, 1) := by decide +kernel
theorem dX6_wasIn_18 : decode cX6_wasIn 18 = .ok (.if_icmp .ne 5, 3) := by decide +kernel
theorem dX6_wasIn_21 : decode cX6_wasIn 21 = .ok (.iload_n 2, 1) := by decide +kernel
theorem dX6_wasIn_22 : decode cX6_wasIn 22 = .ok (.ireturn, 1) := by decide +kernel
theorem dX6_wasIn_23 : decode cX6_wasIn 23 = .ok (.iinc 2 1, 3) := by decide +kernel
theorem dX6_wasIn_26 : decode cX6_wasIn 26 = .ok (.goto (-24), 3) := by decide +kernel
theorem dX6_wasIn_29 : decode cX6_wasIn 29 = .ok (.iconst (-1), 1) := by decide +kernel
theorem dX6_wasIn_30 : decode cX6_wasIn 30 = .ok (.ireturn, 1) := by decide +kernel
def fn_X6_wasIn_L2 (L : cp_Lay) (q : Nat) : Nat → Nat → Int32 → Int32 → cp_Dt → Option (Int32 × cp_Dt)
  | 0, _, _, _, _ => none
  | n + 1, a0, i1, i2, D =>
    if (16 : Int32) ≤ i2 then (some ((-1 : Int32), D))
    else ((cp_gR L a0 6 5).bind fun r2 =>
    (fn_X6_at L q i2 D).bind fun y3 =>
    (cp_aI L y3.2 0 r2 y3.1).bind fun v4 =>
    if v4 = i1 then (some (i2, y3.2))
    else (fn_X6_wasIn_L2 L q n a0 i1 (i2 + 1) y3.2))
def fn_X6_wasIn (L : cp_Lay) (q : Nat) (k0 : Nat) (x1 : Int32) (D : cp_Dt) : Option (Int32 × cp_Dt) :=
  fn_X6_wasIn_L2 L q q k0 x1 (0 : Int32) D
set_option maxHeartbeats 4000000 in
set_option maxRecDepth 100000 in
theorem ct_X6_wasIn (l : Launch) (G : va_G) (L : cp_Lay) (hJ : cp_J L) (q : Nat) (k0 : Nat) (x1 : Int32) (D : cp_Dt) (res : Int32 × cp_Dt) (hF : fn_X6_wasIn L q k0 x1 D = some res) : cp_Met l G yX6_wasIn wsX6_wasIn ({ frames := 1, cells := 0, slots := 0, locals := 20 }) L ([.ref (L.2.1 k0), .int x1] : List Value) D res.2 (some (.int res.1)) := by
  refine Met.ofW (cc := cX6_wasIn) (maxL := 3) (ret := (some .int)) (by decide) rfl ?_
  intro p e s m args below meth c s₁ B hml hv
  obtain ⟨rfl, hP, hK, hN, hZ⟩ := hv
  have hx := B.exec
  have hb := B.bytes
  have hr := B.returns
  have hts := atoms_spec (ws := wsX6_wasIn) B.pre
  have hown : s.vm.findClass "CreaturePondModel" = some m.cls := findClass_of_methodNamed B.named
  have hlocks := B.notSynchronized
  have hS : va_S (cp_A L) s.heap s.heap [] := va_S.rf
  have htT : ∀ w ∈ cp_T, w.before ([.ref (L.2.1 k0), .int x1] : List Value).toArray s = true := fun w h => hts w (List.mem_cons_of_mem _ h)
  have hl := lv_entry (([.ref (L.2.1 k0), .int x1] : List Value)) (n := 3) (Nat.le_of_ble_eq_true rfl)
  rw [lg_entry_eq]
  generalize (lg_sl (([.ref (L.2.1 k0), .int x1] : List Value)) ++ List.replicate (3 - (lg_sl (([.ref (L.2.1 k0), .int x1] : List Value))).length) Slot.unset).toArray = ls at hl ⊢
  have hl : lv_has ls 3 [(0, .ref (L.2.1 k0)), (1, .int x1)] := hl
  have hL2 : ∀ (n : Nat) (a0 : Nat) (i1 : Int32) (i2 : Int32) (D : cp_Dt) (H : Heap) (locs : List Loc) (ls : Array Slot), fn_X6_wasIn_L2 L q n a0 i1 i2 D = some res → va_P G vwCl (cp_ws L D) H → va_S (cp_A L) s.heap H locs → lv_has ls 3 [(0, .ref (L.2.1 a0)), (1, .int i1), (2, .int i2)] → W p l e (headSpec wsX6_wasIn ({ frames := 1, cells := 0, slots := 0, locals := 20 })).room s m ([.ref (L.2.1 k0), .int x1] : List Value).toArray below meth c H locs 0 0 (MQ below (cp_Q G L res.2 (some (.int res.1))) ([.ref (L.2.1 k0), .int x1] : List Value).toArray s 0 0 (cp_A L)) (F0 m 2 ls []) := by
    intro n
    induction n with
    | zero =>
      intro a0 i1 i2 D H locs ls hF
      cases hF
    | succ n ih =>
      intro a0 i1 i2 D H locs ls hF hP hS hl
      unfold fn_X6_wasIn_L2 at hF
      refine lv_iload_n hx hb dX6_wasIn_2 rfl (lv_at hl 2 rfl) ?_
      refine lv_bipush (v := (16 : Int32)) hx hb dX6_wasIn_3 (by decide) ?_
      refine lv_icmp_ge (tgt := 29) hx hb dX6_wasIn_5 (by decide) (fun hc1 => ?_) (fun hc1 => ?_)
      · rw [if_pos hc1] at hF
        refine lv_iconst (v := (-1 : Int32)) hx hb dX6_wasIn_29 (by decide) ?_
        exact cp_iret hx hb hr hlocks hF hP hS dX6_wasIn_30
      · rw [if_neg hc1] at hF
        refine lv_aload_n hx hb dX6_wasIn_8 rfl (lv_at hl 0 rfl) ?_
        obtain ⟨r2, er2, hF⟩ := cp_bind hF
        refine cp_getR (T := TX6) (N := 6) (ci := 6) (j := 5) hx hb htT hinX6 hown hK hP rfl (by decide) rfl (htT _ tw_380) er2 dX6_wasIn_9 ?_
        refine lv_iload_n hx hb dX6_wasIn_12 rfl (lv_at hl 2 rfl) ?_
        obtain ⟨y3, ey3, hF⟩ := cp_bind hF
        refine cp_call (st1 := [.int y3.1, .ref (L.2.1 r2)]) (va_runS (As := [.int i2]) (rest := [.ref (L.2.1 r2)]) ⟨hx, hb, hml, hown, htT⟩ (ct_X6_at l G L hJ q i2 D y3 ey3) ⟨callB_of 1 htT gdX6_at rfl rfl rfl (htT _ tw_8) (htT _ tw_417) hdX6_at ⟨Nat.le_of_ble_eq_true rfl, Nat.le_of_ble_eq_true rfl⟩, (htT _ tw_418)⟩ ⟨cp_blind, cp_pre hP hK hN hZ hS⟩ rfl rfl hl.1 rfl (lv_room (Nat.le_of_ble_eq_true rfl)) dX6_wasIn_13 ⟨Nat.zero_le _, Nat.zero_le _⟩) hS (fun H locs hP hS => ?_)
        obtain ⟨v4, ev4, hF⟩ := cp_bind hF
        refine cp_iald hx hb hK hP ev4 dX6_wasIn_16 ?_
        refine lv_iload_n hx hb dX6_wasIn_17 rfl (lv_at hl 1 rfl) ?_
        refine lv_icmp_ne (tgt := 23) hx hb dX6_wasIn_18 (by decide) (fun hc5 => ?_) (fun hc5 => ?_)
        · rw [if_neg hc5] at hF
          refine lv_iinc (k := 2) (v := (i2 + 1)) (lv' := [(2, .int (i2 + 1)), (0, .ref (L.2.1 a0)), (1, .int i1)]) hx hb dX6_wasIn_23 hl rfl (congrArg (fun z => i2 + z) (by decide)) (by decide) rfl (fun ls hl => ?_)
          refine lv_goto (tgt := 2) hx hb dX6_wasIn_26 (by decide) ?_
          exact ih a0 i1 (i2 + 1) y3.2 _ _ _ hF hP hS (lv_sub hl [1, 2, 0] rfl)
        · rw [if_pos hc5] at hF
          refine lv_iload_n hx hb dX6_wasIn_21 rfl (lv_at hl 2 rfl) ?_
          exact cp_iret hx hb hr hlocks hF hP hS dX6_wasIn_22
  unfold fn_X6_wasIn at hF
  refine lv_iconst (v := (0 : Int32)) hx hb dX6_wasIn_0 (by decide) ?_
  refine lv_istore_n (lv' := [(2, .int (0 : Int32)), (0, .ref (L.2.1 k0)), (1, .int x1)]) hx hb dX6_wasIn_1 rfl hl (by decide) rfl (fun ls hl => ?_)
  exact hL2 q k0 x1 (0 : Int32) D _ _ _ hF hP hS (lv_sub hl [1, 2, 0] rfl)
theorem dX6_back_0 : decode cX6_back 0 = .ok (.aload_n 0, 1) := by decide +kernel
theorem dX6_back_1 : decode cX6_back 1 = .ok (.iconst 0, 1) := by decide +kernel
theorem dX6_back_2 : decode cX6_back 2 = .ok (.putfield 23, 3) := by decide +kernel
theorem dX6_back_5 : decode cX6_back 5 = .ok (.iconst 0, 1) := by decide +kernel
theorem dX6_back_6 : decode cX6_back 6 = .ok (.istore_n 1, 1) := by decide +kernel
theorem dX6_back_7 : decode cX6_back 7 = .ok (.iload_n 1, 1) := by decide +kernel
theorem dX6_back_8 : decode cX6_back 8 = .ok (.sipush 1232, 3) := by decide +kernel
theorem dX6_back_11 : decode cX6_back 11 = .ok (.if_icmp .ge 28, 3) := by decide +kernel
theorem dX6_back_14 : decode cX6_back 14 = .ok (.aload_n 0, 1) := by decide +kernel
theorem dX6_back_15 : decode cX6_back 15 = .ok (.getfield 115, 3) := by decide +kernel
theorem dX6_back_18 : decode cX6_back 18 = .ok (.ifCond .eq 21, 3) := by decide +kernel
theorem dX6_back_21 : decode cX6_back 21 = .ok (.aload_n 0, 1) := by decide +kernel
theorem dX6_back_22 : decode cX6_back 22 = .ok (.getfield 7, 3) := by decide +kernel
theorem dX6_back_25 : decode cX6_back 25 = .ok (.iload_n 1, 1) := by decide +kernel
theorem dX6_back_26 : decode cX6_back 26 = .ok (.aload_n 0, 1) := by decide +kernel
theorem dX6_back_27 : decode cX6_back 27 = .ok (.getfield 13, 3) := by decide +kernel
theorem dX6_back_30 : decode cX6_back 30 = .ok (.iload_n 1, 1) := by decide +kernel
theorem dX6_back_31 : decode cX6_back 31 = .ok (.iaload, 1) := by decide +kernel
theorem dX6_back_32 : decode cX6_back 32 = .ok (.iastore, 1) := by decide +kernel
theorem dX6_back_33 : decode cX6_back 33 = .ok (.iinc 1 1, 3) := by decide +kernel
theorem dX6_back_36 : decode cX6_back 36 = .ok (.goto (-29), 3) := by decide +kernel
theorem dX6_back_39 : decode cX6_back 39 = .ok (.aload_n 0, 1) := by decide +kernel
theorem dX6_back_40 : decode cX6_back 40 = .ok (.getfield 115, 3) := by decide +kernel
theorem dX6_back_43 : decode cX6_back 43 = .ok (.ireturn, 1) := by decide +kernel
def fn_X6_back_L7 (L : cp_Lay) (q : Nat) : Nat → Nat → Int32 → cp_Dt → Option (Int32 × cp_Dt)
  | 0, _, _, _ => none
  | n + 1, a0, i1, D =>
    if (1232 : Int32) ≤ i1 then ((cp_gI L D a0 6 4).bind fun v3 =>
    (cp_g01 v3).bind fun u4 => some (v3, D))
    else ((cp_gI L D a0 6 4).bind fun v5 =>
    if v5 = 0 then ((cp_gI L D a0 6 4).bind fun v7 =>
    (cp_g01 v7).bind fun u8 => some (v7, D))
    else ((cp_gR L a0 6 3).bind fun r9 =>
    (cp_gR L a0 6 5).bind fun r10 =>
    (cp_aI L D 0 r10 i1).bind fun v11 =>
    (cp_aS L D 0 r9 i1 v11).bind fun D12 =>
    fn_X6_back_L7 L q n a0 (i1 + 1) D12))
def fn_X6_back (L : cp_Lay) (q : Nat) (k0 : Nat) (D : cp_Dt) : Option (Int32 × cp_Dt) :=
  (cp_pI L D k0 6 0 (0 : Int32)).bind fun D1 =>
  fn_X6_back_L7 L q q k0 (0 : Int32) D1
set_option maxHeartbeats 4000000 in
set_option maxRecDepth 100000 in
theorem ct_X6_back (l : Launch) (G : va_G) (L : cp_Lay) (hJ : cp_J L) (q : Nat) (k0 : Nat) (D : cp_Dt) (res : Int32 × cp_Dt) (hF : fn_X6_back L q k0 D = some res) : cp_Met l G yX6_back wsX6_back ({ frames := 0, cells := 0, slots := 0, locals := 0 }) L ([.ref (L.2.1 k0)] : List Value) D res.2 (some (.int res.1)) := by
  refine Met.ofW (cc := cX6_back) (maxL := 2) (ret := (some .boolean)) (by decide) rfl ?_
  intro p e s m args below meth c s₁ B hml hv
  obtain ⟨rfl, hP, hK, hN, hZ⟩ := hv
  have hx := B.exec
  have hb := B.bytes
  have hr := B.returns
  have hts := atoms_spec (ws := wsX6_back) B.pre
  have hown : s.vm.findClass "CreaturePondModel" = some m.cls := findClass_of_methodNamed B.named
  have hlocks := B.notSynchronized
  have hS : va_S (cp_A L) s.heap s.heap [] := va_S.rf
  have htT : ∀ w ∈ cp_T, w.before ([.ref (L.2.1 k0)] : List Value).toArray s = true := fun w h => hts w (List.mem_cons_of_mem _ h)
  have hl := lv_entry (([.ref (L.2.1 k0)] : List Value)) (n := 2) (Nat.le_of_ble_eq_true rfl)
  rw [lg_entry_eq]
  generalize (lg_sl (([.ref (L.2.1 k0)] : List Value)) ++ List.replicate (2 - (lg_sl (([.ref (L.2.1 k0)] : List Value))).length) Slot.unset).toArray = ls at hl ⊢
  have hl : lv_has ls 2 [(0, .ref (L.2.1 k0))] := hl
  have hL7 : ∀ (n : Nat) (a0 : Nat) (i1 : Int32) (D : cp_Dt) (H : Heap) (locs : List Loc) (ls : Array Slot), fn_X6_back_L7 L q n a0 i1 D = some res → va_P G vwCl (cp_ws L D) H → va_S (cp_A L) s.heap H locs → lv_has ls 2 [(0, .ref (L.2.1 a0)), (1, .int i1)] → W p l e (headSpec wsX6_back ({ frames := 0, cells := 0, slots := 0, locals := 0 })).room s m ([.ref (L.2.1 k0)] : List Value).toArray below meth c H locs 0 0 (MQ below (cp_Q G L res.2 (some (.int res.1))) ([.ref (L.2.1 k0)] : List Value).toArray s 0 0 (cp_A L)) (F0 m 7 ls []) := by
    intro n
    induction n with
    | zero =>
      intro a0 i1 D H locs ls hF
      cases hF
    | succ n ih =>
      intro a0 i1 D H locs ls hF hP hS hl
      unfold fn_X6_back_L7 at hF
      refine lv_iload_n hx hb dX6_back_7 rfl (lv_at hl 1 rfl) ?_
      refine lv_sipush (v := (1232 : Int32)) hx hb dX6_back_8 (by decide) ?_
      refine lv_icmp_ge (tgt := 39) hx hb dX6_back_11 (by decide) (fun hc2 => ?_) (fun hc2 => ?_)
      · rw [if_pos hc2] at hF
        refine lv_aload_n hx hb dX6_back_39 rfl (lv_at hl 0 rfl) ?_
        obtain ⟨v3, ev3, hF⟩ := cp_bind hF
        refine cp_getI (T := TX6) (N := 6) (ci := 6) (j := 4) hx hb htT hinX6 hown hK hP rfl (by decide) rfl (htT _ tw_379) ev3 dX6_back_40 ?_
        obtain ⟨u4, eu4, hF⟩ := cp_bind hF
        exact cp_zret hx hb hr hlocks (cp_g01_n eu4) hF hP hS dX6_back_43
      · rw [if_neg hc2] at hF
        refine lv_aload_n hx hb dX6_back_14 rfl (lv_at hl 0 rfl) ?_
        obtain ⟨v5, ev5, hF⟩ := cp_bind hF
        refine cp_getI (T := TX6) (N := 6) (ci := 6) (j := 4) hx hb htT hinX6 hown hK hP rfl (by decide) rfl (htT _ tw_379) ev5 dX6_back_15 ?_
        refine lv_if_eq (tgt := 39) hx hb dX6_back_18 (by decide) (fun hc6 => ?_) (fun hc6 => ?_)
        · rw [if_pos hc6] at hF
          refine lv_aload_n hx hb dX6_back_39 rfl (lv_at hl 0 rfl) ?_
          obtain ⟨v7, ev7, hF⟩ := cp_bind hF
          refine cp_getI (T := TX6) (N := 6) (ci := 6) (j := 4) hx hb htT hinX6 hown hK hP rfl (by decide) rfl (htT _ tw_379) ev7 dX6_back_40 ?_
          obtain ⟨u8, eu8, hF⟩ := cp_bind hF
          exact cp_zret hx hb hr hlocks (cp_g01_n eu8) hF hP hS dX6_back_43
        · rw [if_neg hc6] at hF
          refine lv_aload_n hx hb dX6_back_21 rfl (lv_at hl 0 rfl) ?_
          obtain ⟨r9, er9, hF⟩ := cp_bind hF
          refine cp_getR (T := TX6) (N := 6) (ci := 6) (j := 3) hx hb htT hinX6 hown hK hP rfl (by decide) rfl (htT _ tw_378) er9 dX6_back_22 ?_
          refine lv_iload_n hx hb dX6_back_25 rfl (lv_at hl 1 rfl) ?_
          refine lv_aload_n hx hb dX6_back_26 rfl (lv_at hl 0 rfl) ?_
          obtain ⟨r10, er10, hF⟩ := cp_bind hF
          refine cp_getR (T := TX6) (N := 6) (ci := 6) (j := 5) hx hb htT hinX6 hown hK hP rfl (by decide) rfl (htT _ tw_380) er10 dX6_back_27 ?_
          refine lv_iload_n hx hb dX6_back_30 rfl (lv_at hl 1 rfl) ?_
          obtain ⟨v11, ev11, hF⟩ := cp_bind hF
          refine cp_iald hx hb hK hP ev11 dX6_back_31 ?_
          obtain ⟨D12, eD12, hF⟩ := cp_bind hF
          refine cp_iast hx hb hK hJ hP hS eD12 dX6_back_32 (fun H locs hP hS => ?_)
          refine lv_iinc (k := 1) (v := (i1 + 1)) (lv' := [(1, .int (i1 + 1)), (0, .ref (L.2.1 a0))]) hx hb dX6_back_33 hl rfl (congrArg (fun z => i1 + z) (by decide)) (by decide) rfl (fun ls hl => ?_)
          refine lv_goto (tgt := 7) hx hb dX6_back_36 (by decide) ?_
          exact ih a0 (i1 + 1) D12 _ _ _ hF hP hS (lv_sub hl [1, 0] rfl)
  unfold fn_X6_back at hF
  refine lv_aload_n hx hb dX6_back_0 rfl (lv_at hl 0 rfl) ?_
  refine lv_iconst (v := (0 : Int32)) hx hb dX6_back_1 (by decide) ?_
  obtain ⟨D1, eD1, hF⟩ := cp_bind hF
  refine cp_put (T := TX6) (N := 6) (ci := 6) (j := 0) hx hb htT hinX6 tyX6 tyX6_ok nmX6 hown hK hJ hP hS rfl (by decide) rfl (htT _ tw_375) rfl rfl rfl eD1 dX6_back_2 (fun H locs hP hS => ?_)
  refine lv_iconst (v := (0 : Int32)) hx hb dX6_back_5 (by decide) ?_
  refine lv_istore_n (lv' := [(1, .int (0 : Int32)), (0, .ref (L.2.1 k0))]) hx hb dX6_back_6 rfl hl (by decide) rfl (fun ls hl => ?_)
  exact hL7 q k0 (0 : Int32) D1 _ _ _ hF hP hS (lv_sub hl [1, 0] rfl)
theorem dX1_geneBehindPlace_0 : decode cX1_geneBehindPlace 0 = .ok (.aload_n 0, 1) := by decide +kernel
theorem dX1_geneBehindPlace_1 : decode cX1_geneBehindPlace 1 = .ok (.getfield 18, 3) := by decide +kernel
theorem dX1_geneBehindPlace_4 : decode cX1_geneBehindPlace 4 = .ok (.aload_n 0, 1) := by decide +kernel
theorem dX1_geneBehindPlace_5 : decode cX1_geneBehindPlace 5 = .ok (.aload_n 0, 1) := by decide +kernel
theorem dX1_geneBehindPlace_6 : decode cX1_geneBehindPlace 6 = .ok (.getfield 44, 3) := by decide +kernel
theorem dX1_geneBehindPlace_9 : decode cX1_geneBehindPlace 9 = .ok (.iload_n 1, 1) := by decide +kernel
theorem dX1_geneBehindPlace_10 : decode cX1_geneBehindPlace 10 = .ok (.iadd, 1) := by decide +kernel
theorem dX1_geneBehindPlace_11 : decode cX1_geneBehindPlace 11 = .ok (.invokevirtual 62, 3) := by decide +kernel
theorem dX1_geneBehindPlace_14 : decode cX1_geneBehindPlace 14 = .ok (.baload, 1) := by decide +kernel
theorem dX1_geneBehindPlace_15 : decode cX1_geneBehindPlace 15 = .ok (.ireturn, 1) := by decide +kernel
def fn_X1_geneBehindPlace (L : cp_Lay) (q : Nat) (k0 : Nat) (x1 : Int32) (D : cp_Dt) : Option (Int32 × cp_Dt) :=
  (cp_gR L k0 1 2).bind fun r1 =>
  (cp_gI L D k0 1 10).bind fun v2 =>
  (cp_fl L k0 1).bind fun f3 =>
  (fn_X1_wrapped L q k0 (v2 + x1) D).bind fun y4 =>
  (cp_aI L y4.2 1 r1 y4.1).bind fun v5 =>
  (cp_gby v5).bind fun u6 => some (v5, y4.2)
set_option maxHeartbeats 4000000 in
set_option maxRecDepth 100000 in
theorem ct_X1_geneBehindPlace (l : Launch) (G : va_G) (L : cp_Lay) (hJ : cp_J L) (q : Nat) (k0 : Nat) (x1 : Int32) (D : cp_Dt) (res : Int32 × cp_Dt) (hF : fn_X1_geneBehindPlace L q k0 x1 D = some res) : cp_Met l G yX1_geneBehindPlace wsX1_geneBehindPlace ({ frames := 1, cells := 0, slots := 0, locals := 21 }) L ([.ref (L.2.1 k0), .int x1] : List Value) D res.2 (some (.int res.1)) := by
  refine Met.ofW (cc := cX1_geneBehindPlace) (maxL := 2) (ret := (some .byte)) (by decide) rfl ?_
  intro p e s m args below meth c s₁ B hml hv
  obtain ⟨rfl, hP, hK, hN, hZ⟩ := hv
  have hx := B.exec
  have hb := B.bytes
  have hr := B.returns
  have hts := atoms_spec (ws := wsX1_geneBehindPlace) B.pre
  have hown : s.vm.findClass "CreaturePond$Animal" = some m.cls := findClass_of_methodNamed B.named
  have hlocks := B.notSynchronized
  have hS : va_S (cp_A L) s.heap s.heap [] := va_S.rf
  have htT : ∀ w ∈ cp_T, w.before ([.ref (L.2.1 k0), .int x1] : List Value).toArray s = true := fun w h => hts w (List.mem_cons_of_mem _ h)
  have hl := lv_entry (([.ref (L.2.1 k0), .int x1] : List Value)) (n := 2) (Nat.le_of_ble_eq_true rfl)
  rw [lg_entry_eq]
  generalize (lg_sl (([.ref (L.2.1 k0), .int x1] : List Value)) ++ List.replicate (2 - (lg_sl (([.ref (L.2.1 k0), .int x1] : List Value))).length) Slot.unset).toArray = ls at hl ⊢
  have hl : lv_has ls 2 [(0, .ref (L.2.1 k0)), (1, .int x1)] := hl
  unfold fn_X1_geneBehindPlace at hF
  refine lv_aload_n hx hb dX1_geneBehindPlace_0 rfl (lv_at hl 0 rfl) ?_
  obtain ⟨r1, er1, hF⟩ := cp_bind hF
  refine cp_getR (T := TX1) (N := 14) (ci := 1) (j := 2) hx hb htT hinX1 hown hK hP rfl (by decide) rfl (htT _ tw_70) er1 dX1_geneBehindPlace_1 ?_
  refine lv_aload_n hx hb dX1_geneBehindPlace_4 rfl (lv_at hl 0 rfl) ?_
  refine lv_aload_n hx hb dX1_geneBehindPlace_5 rfl (lv_at hl 0 rfl) ?_
  obtain ⟨v2, ev2, hF⟩ := cp_bind hF
  refine cp_getI (T := TX1) (N := 14) (ci := 1) (j := 10) hx hb htT hinX1 hown hK hP rfl (by decide) rfl (htT _ tw_78) ev2 dX1_geneBehindPlace_6 ?_
  refine lv_iload_n hx hb dX1_geneBehindPlace_9 rfl (lv_at hl 1 rfl) ?_
  refine lv_iadd hx hb dX1_geneBehindPlace_10 ?_
  obtain ⟨f3, ef3, hF⟩ := cp_bind hF
  obtain ⟨y4, ey4, hF⟩ := cp_bind hF
  refine cp_call (st1 := [.int y4.1, .ref (L.2.1 r1)]) (va_runV (As := [.int (v2 + x1)]) (rest := [.ref (L.2.1 r1)]) ⟨hx, hb, hml, hown, htT⟩ (ct_X1_wrapped l G L hJ q k0 (v2 + x1) D y4 ey4) ⟨callB_of 1 htT gdX1_wrapped rfl rfl rfl (htT _ tw_5) (htT _ tw_274) hdX1_wrapped ⟨Nat.le_of_ble_eq_true rfl, Nat.le_of_ble_eq_true rfl⟩, (htT _ tw_275), (htT _ tw_548)⟩ ⟨cp_blind, cp_recv hK hP rfl ef3, cp_pre hP hK hN hZ hS⟩ rfl rfl hl.1 rfl (lv_room (Nat.le_of_ble_eq_true rfl)) dX1_geneBehindPlace_11 ⟨Nat.zero_le _, Nat.zero_le _⟩) hS (fun H locs hP hS => ?_)
  obtain ⟨v5, ev5, hF⟩ := cp_bind hF
  refine cp_bald hx hb hK hP ev5 dX1_geneBehindPlace_14 ?_
  obtain ⟨u6, eu6, hF⟩ := cp_bind hF
  exact cp_zret hx hb hr hlocks (cp_gby_n eu6) hF hP hS dX1_geneBehindPlace_15
