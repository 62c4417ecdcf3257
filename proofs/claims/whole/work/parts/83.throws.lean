/-! Methods that write nothing; methods that throw -/
def cx_nm (k : Nat) : String := if k = 1 then "java/lang/IllegalArgumentException" else if k = 2 then "java/lang/IllegalStateException" else "java/lang/IndexOutOfBoundsException"
theorem cx_lt {G : va_G} {L : cp_Lay} {D D' : cp_Dt} {H : Heap} (hP : va_P G vwCl (cp_ws L D) H) : ∀ (k : Nat) (q : Nat × va_E), (cp_ws L D')[k]? = some q → q.1 < H.size := by
  intro k q hq
  obtain ⟨h1, rfl⟩ := cp_ws_inv hq
  exact (hP k _ (cp_ws_get h1)).lt
theorem cu_S {A : Nat → Prop} {H0 H : Heap} {locs : List Loc} (h : va_S (fun _ => False) H0 H locs) : va_S A H0 H locs := ⟨h.1, fun q h1 _ => h.2.1 q h1 (fun z => z), fun x hx => (h.2.2 x hx).elim⟩
def cu_Q (G : va_G) (L : cp_Lay) (D' : cp_Dt) (rv : Option Value) : Array Value → State → Outcome → State → Prop := fun _ st oc t => (oc = .returned rv ∧ va_P G vwCl (cp_ws L D') t.heap) ∧ va_F (fun _ => False) st t
def cu_Met (l : Launch) (G : va_G) (y : MethodName) (ws : List Cond) (rm : Room) (L : cp_Lay) (av : List Value) (D D' : cp_Dt) (rv : Option Value) : Prop := Met l y ws rm (va_Pc av (cp_Pre G L D)) (cu_Q G L D' rv) 0 0 (fun _ => False)
section CUC
variable {p : Program} {l : Launch} {e : Env} {R : Room} {s : State} {m : MethodId} {args : Array Value} {below : List Frame} {meth : Method} {c : Code} {H : Heap} {locs : List Loc} {cells slots : Nat} {Q : State → Prop}
variable {cc : ByteArray} {pc : Nat} {ls : Array Slot} {rest : List Value} {G : va_G} {H0 : Heap} {L : cp_Lay} {D : cp_Dt}
theorem cu_call {st1 : List Value} {D' : cp_Dt} {rv : Option Value} {a : Array Value} {st0 : List Value} (hr : va_Run p l e R s m args below meth c H locs cells slots 0 0 (F0 m pc ls st0) rest (cu_Q G L D' rv a) (fun _ => False)) (hS : va_S (fun _ => False) H0 H locs)
    (kk : ∀ (H1 : Heap) (locs1 : List Loc), va_P G vwCl (cp_ws L D') H1 → va_S (fun _ => False) H0 H1 locs1 → W p l e R s m args below meth c H1 locs1 cells slots Q (F0 m (pc + 3) ls st1)) (hst : rv.toList ++ rest = st1 := by rfl) : W p l e R s m args below meth c H locs cells slots Q (F0 m pc ls st0) := by
  subst hst
  intro T hT X
  obtain ⟨v, st₀, t, T', L1, h0, X', hL, e1, e2, ⟨⟨hv, hp⟩, hz, hk⟩, st⟩ := hr T hT X
  cases hv
  rw [h0] at hz hk
  obtain ⟨t2, a1, b1⟩ := kk T'.heap (locs ++ L1) (by rw [e1]; exact hp)
    ⟨Nat.le_trans hS.1 (by rw [e1]; exact hz), fun q h1 h2 => by rw [e1, hk q (Nat.lt_of_lt_of_le h1 hS.1) h2]; exact hS.2.1 q h1 h2, fun q hq => by
      rcases List.mem_append.mp hq with h | h
      · exact hS.2.2 q h
      · exact hL q h⟩ T' rfl X'
  exact ⟨t2, st t2 a1, b1⟩
theorem cu_iret (hx : p.tables.exec = Jvm.exec) (hb : c.code = cc) (hr : meth.sig.returnType = some .int) (hlocks : meth.locks = false) {v : Int32} {res : Int32 × cp_Dt} (hF : some (v, D) = some res) (hP : va_P G vwCl (cp_ws L D) H) (hS : va_S (fun _ => False) s.heap H locs) (hdg : decode cc pc = .ok (.ireturn, 1)) : W p l e R s m args below meth c H locs 0 0 (MQ below (cu_Q G L res.2 (some (.int res.1))) args s 0 0 (fun _ => False)) (F0 m pc ls [.int v]) := by
  cases hF
  exact W.iret hx hb hr (fun t ht _ => ⟨⟨rfl, by rw [ht]; exact hP⟩, hS.F ht⟩) hS.2.2 hdg hlocks
theorem cu_zret (hx : p.tables.exec = Jvm.exec) (hb : c.code = cc) {ty : FieldType} (hr : meth.sig.returnType = some ty) (hlocks : meth.locks = false) {v : Int32} (hn : narrow ty (.int v) = .int v) {res : Int32 × cp_Dt} (hF : some (v, D) = some res) (hP : va_P G vwCl (cp_ws L D) H) (hS : va_S (fun _ => False) s.heap H locs) (hdg : decode cc pc = .ok (.ireturn, 1)) : W p l e R s m args below meth c H locs 0 0 (MQ below (cu_Q G L res.2 (some (.int res.1))) args s 0 0 (fun _ => False)) (F0 m pc ls [.int v]) := by
  cases hF
  exact W.zret hx hb hr hn (fun t ht _ => ⟨⟨rfl, by rw [ht]; exact hP⟩, hS.F ht⟩) hS.2.2 hdg hlocks
end CUC
set_option maxHeartbeats 4000000 in
set_option maxRecDepth 100000 in
theorem cu_J_floorMod (l : Launch) (G : va_G) (L : cp_Lay) (hJ : cp_J L) (q : Nat) (x1 : Int32) (x2 : Int32) (D : cp_Dt) (res : Int32 × cp_Dt) (hF : fn_J_floorMod L q x1 x2 D = some res) : cu_Met l G yJ_floorMod wsJ_floorMod ({ frames := 0, cells := 0, slots := 0, locals := 0 }) L ([.int x1, .int x2] : List Value) D res.2 (some (.int res.1)) := by
  refine va_MetF (cc := cJ_floorMod) (maxL := 3) (ret := (some .int)) (by decide +kernel) rfl ?_
  intro p e s m args below meth c s₁ B hml hv
  obtain ⟨rfl, hP, hK, hN, hZ⟩ := hv
  have hx := B.exec
  have hb := B.bytes
  have hr := B.returns
  have hts := atoms_spec (ws := wsJ_floorMod) B.pre
  have hown : s.vm.findClass "java/lang/Math" = some m.cls := findClass_of_methodNamed B.named
  have hlocks := B.notSynchronized
  have hS : va_S (fun _ => False) s.heap s.heap [] := va_S.rf
  have htT : ∀ w ∈ cp_T, w.before ([.int x1, .int x2] : List Value).toArray s = true := fun w h => hts w (List.mem_cons_of_mem _ h)
  have hl := lv_entry (([.int x1, .int x2] : List Value)) (n := 3) (Nat.le_of_ble_eq_true rfl)
  rw [lg_entry_eq]
  generalize (lg_sl (([.int x1, .int x2] : List Value)) ++ List.replicate (3 - (lg_sl (([.int x1, .int x2] : List Value))).length) Slot.unset).toArray = ls at hl ⊢
  have hl : lv_has ls 3 [(0, .int x1), (1, .int x2)] := hl
  unfold fn_J_floorMod at hF
  refine lv_iload_n hx hb dJ_floorMod_0 rfl (lv_at hl 0 rfl) ?_
  refine lv_iload_n hx hb dJ_floorMod_1 rfl (lv_at hl 1 rfl) ?_
  obtain ⟨u1, eu1, hF⟩ := cp_bind hF
  refine lv_irem hx hb dJ_floorMod_2 (cp_nz_ne eu1) ?_
  refine lv_istore_n (lv' := [(2, .int (x1 - x1 / x2 * x2)), (0, .int x1), (1, .int x2)]) hx hb dJ_floorMod_3 rfl hl (by decide) rfl (fun ls hl => ?_)
  refine lv_iload_n hx hb dJ_floorMod_4 rfl (lv_at hl 1 rfl) ?_
  refine lv_iload_n hx hb dJ_floorMod_5 rfl (lv_at hl 2 rfl) ?_
  refine lv_ixor hx hb dJ_floorMod_6 ?_
  refine lv_if_ge (tgt := 18) hx hb dJ_floorMod_7 (by decide) (fun hc2 => ?_) (fun hc2 => ?_)
  · rw [if_pos hc2] at hF
    refine lv_iload_n hx hb dJ_floorMod_18 rfl (lv_at hl 0 rfl) ?_
    exact cu_iret hx hb hr hlocks hF hP hS dJ_floorMod_19
  · rw [if_neg hc2] at hF
    refine lv_iload_n hx hb dJ_floorMod_10 rfl (lv_at hl 0 rfl) ?_
    refine lv_if_eq (tgt := 18) hx hb dJ_floorMod_11 (by decide) (fun hc3 => ?_) (fun hc3 => ?_)
    · rw [if_pos hc3] at hF
      refine lv_iload_n hx hb dJ_floorMod_18 rfl (lv_at hl 0 rfl) ?_
      exact cu_iret hx hb hr hlocks hF hP hS dJ_floorMod_19
    · rw [if_neg hc3] at hF
      refine lv_iload_n hx hb dJ_floorMod_14 rfl (lv_at hl 0 rfl) ?_
      refine lv_iload_n hx hb dJ_floorMod_15 rfl (lv_at hl 2 rfl) ?_
      refine lv_iadd hx hb dJ_floorMod_16 ?_
      exact cu_iret hx hb hr hlocks hF hP hS dJ_floorMod_17
set_option maxHeartbeats 4000000 in
set_option maxRecDepth 100000 in
theorem cu_X5_cellAt (l : Launch) (G : va_G) (L : cp_Lay) (hJ : cp_J L) (q : Nat) (k0 : Nat) (x1 : Int32) (x2 : Int32) (D : cp_Dt) (res : Int32 × cp_Dt) (hF : fn_X5_cellAt L q k0 x1 x2 D = some res) : cu_Met l G yX5_cellAt wsX5_cellAt ({ frames := 1, cells := 0, slots := 0, locals := 22 }) L ([.ref (L.2.1 k0), .int x1, .int x2] : List Value) D res.2 (some (.int res.1)) := by
  refine Met.ofW (cc := cX5_cellAt) (maxL := 3) (ret := (some .int)) (by decide) rfl ?_
  intro p e s m args below meth c s₁ B hml hv
  obtain ⟨rfl, hP, hK, hN, hZ⟩ := hv
  have hx := B.exec
  have hb := B.bytes
  have hr := B.returns
  have hts := atoms_spec (ws := wsX5_cellAt) B.pre
  have hown : s.vm.findClass "CreaturePond$Shape" = some m.cls := findClass_of_methodNamed B.named
  have hlocks := B.notSynchronized
  have hS : va_S (fun _ => False) s.heap s.heap [] := va_S.rf
  have htT : ∀ w ∈ cp_T, w.before ([.ref (L.2.1 k0), .int x1, .int x2] : List Value).toArray s = true := fun w h => hts w (List.mem_cons_of_mem _ h)
  have hl := lv_entry (([.ref (L.2.1 k0), .int x1, .int x2] : List Value)) (n := 3) (Nat.le_of_ble_eq_true rfl)
  rw [lg_entry_eq]
  generalize (lg_sl (([.ref (L.2.1 k0), .int x1, .int x2] : List Value)) ++ List.replicate (3 - (lg_sl (([.ref (L.2.1 k0), .int x1, .int x2] : List Value))).length) Slot.unset).toArray = ls at hl ⊢
  have hl : lv_has ls 3 [(0, .ref (L.2.1 k0)), (1, .int x1), (2, .int x2)] := hl
  unfold fn_X5_cellAt at hF
  refine lv_iload_n hx hb dX5_cellAt_0 rfl (lv_at hl 1 rfl) ?_
  refine lv_aload_n hx hb dX5_cellAt_1 rfl (lv_at hl 0 rfl) ?_
  obtain ⟨v1, ev1, hF⟩ := cp_bind hF
  refine cp_getI (T := TX5) (N := 4) (ci := 5) (j := 0) hx hb htT hinX5 hown hK hP rfl (by decide) rfl (htT _ tw_49) ev1 dX5_cellAt_2 ?_
  obtain ⟨y2, ey2, hF⟩ := cp_bind hF
  refine cu_call (st1 := [.int y2.1]) (va_runS (As := [.int x1, .int v1]) (rest := []) ⟨hx, hb, hml, hown, htT⟩ (cu_J_floorMod l G L hJ q x1 v1 D y2 ey2) ⟨callB_of 2 htT gdJ_floorMod rfl rfl rfl (htT _ tw_3) (htT _ tw_46) hdJ_floorMod ⟨Nat.le_of_ble_eq_true rfl, Nat.le_of_ble_eq_true rfl⟩, (htT _ tw_47)⟩ ⟨cp_blind, cp_pre hP hK hN hZ (cu_S hS)⟩ rfl rfl hl.1 rfl (lv_room (Nat.le_of_ble_eq_true rfl)) dX5_cellAt_5 ⟨Nat.zero_le _, Nat.zero_le _⟩) hS (fun H locs hP hS => ?_)
  refine lv_iload_n hx hb dX5_cellAt_8 rfl (lv_at hl 2 rfl) ?_
  refine lv_aload_n hx hb dX5_cellAt_9 rfl (lv_at hl 0 rfl) ?_
  obtain ⟨v3, ev3, hF⟩ := cp_bind hF
  refine cp_getI (T := TX5) (N := 4) (ci := 5) (j := 1) hx hb htT hinX5 hown hK hP rfl (by decide) rfl (htT _ tw_50) ev3 dX5_cellAt_10 ?_
  obtain ⟨y4, ey4, hF⟩ := cp_bind hF
  refine cu_call (st1 := [.int y4.1, .int y2.1]) (va_runS (As := [.int x2, .int v3]) (rest := [.int y2.1]) ⟨hx, hb, hml, hown, htT⟩ (cu_J_floorMod l G L hJ q x2 v3 y2.2 y4 ey4) ⟨callB_of 2 htT gdJ_floorMod rfl rfl rfl (htT _ tw_3) (htT _ tw_46) hdJ_floorMod ⟨Nat.le_of_ble_eq_true rfl, Nat.le_of_ble_eq_true rfl⟩, (htT _ tw_47)⟩ ⟨cp_blind, cp_pre hP hK hN hZ (cu_S hS)⟩ rfl rfl hl.1 rfl (lv_room (Nat.le_of_ble_eq_true rfl)) dX5_cellAt_13 ⟨Nat.zero_le _, Nat.zero_le _⟩) hS (fun H locs hP hS => ?_)
  refine lv_aload_n hx hb dX5_cellAt_16 rfl (lv_at hl 0 rfl) ?_
  obtain ⟨v5, ev5, hF⟩ := cp_bind hF
  refine cp_getI (T := TX5) (N := 4) (ci := 5) (j := 0) hx hb htT hinX5 hown hK hP rfl (by decide) rfl (htT _ tw_49) ev5 dX5_cellAt_17 ?_
  refine lv_imul hx hb dX5_cellAt_20 ?_
  refine lv_iadd hx hb dX5_cellAt_21 ?_
  exact cu_iret hx hb hr hlocks hF hP hS dX5_cellAt_22
set_option maxHeartbeats 4000000 in
set_option maxRecDepth 100000 in
theorem cu_X4_freeNumber (l : Launch) (G : va_G) (L : cp_Lay) (hJ : cp_J L) (q : Nat) (k0 : Nat) (D : cp_Dt) (res : Int32 × cp_Dt) (hF : fn_X4_freeNumber L q k0 D = some res) : cu_Met l G yX4_freeNumber wsX4_freeNumber ({ frames := 0, cells := 0, slots := 0, locals := 0 }) L ([.ref (L.2.1 k0)] : List Value) D res.2 (some (.int res.1)) := by
  refine Met.ofW (cc := cX4_freeNumber) (maxL := 2) (ret := (some .int)) (by decide) rfl ?_
  intro p e s m args below meth c s₁ B hml hv
  obtain ⟨rfl, hP, hK, hN, hZ⟩ := hv
  have hx := B.exec
  have hb := B.bytes
  have hr := B.returns
  have hts := atoms_spec (ws := wsX4_freeNumber) B.pre
  have hown : s.vm.findClass "CreaturePond$Pond" = some m.cls := findClass_of_methodNamed B.named
  have hlocks := B.notSynchronized
  have hS : va_S (fun _ => False) s.heap s.heap [] := va_S.rf
  have htT : ∀ w ∈ cp_T, w.before ([.ref (L.2.1 k0)] : List Value).toArray s = true := fun w h => hts w (List.mem_cons_of_mem _ h)
  have hl := lv_entry (([.ref (L.2.1 k0)] : List Value)) (n := 2) (Nat.le_of_ble_eq_true rfl)
  rw [lg_entry_eq]
  generalize (lg_sl (([.ref (L.2.1 k0)] : List Value)) ++ List.replicate (2 - (lg_sl (([.ref (L.2.1 k0)] : List Value))).length) Slot.unset).toArray = ls at hl ⊢
  have hl : lv_has ls 2 [(0, .ref (L.2.1 k0))] := hl
  have hL2 : ∀ (n : Nat) (a0 : Nat) (i1 : Int32) (D : cp_Dt) (H : Heap) (locs : List Loc) (ls : Array Slot), fn_X4_freeNumber_L2 L q n a0 i1 D = some res → va_P G vwCl (cp_ws L D) H → va_S (fun _ => False) s.heap H locs → lv_has ls 2 [(0, .ref (L.2.1 a0)), (1, .int i1)] → W p l e (headSpec wsX4_freeNumber ({ frames := 0, cells := 0, slots := 0, locals := 0 })).room s m ([.ref (L.2.1 k0)] : List Value).toArray below meth c H locs 0 0 (MQ below (cu_Q G L res.2 (some (.int res.1))) ([.ref (L.2.1 k0)] : List Value).toArray s 0 0 (fun _ => False)) (F0 m 2 ls []) := by
    intro n
    induction n with
    | zero =>
      intro a0 i1 D H locs ls hF
      cases hF
    | succ n ih =>
      intro a0 i1 D H locs ls hF hP hS hl
      unfold fn_X4_freeNumber_L2 at hF
      refine lv_iload_n hx hb dX4_freeNumber_2 rfl (lv_at hl 1 rfl) ?_
      refine lv_bipush (v := (16 : Int32)) hx hb dX4_freeNumber_3 (by decide) ?_
      refine lv_icmp_ge (tgt := 28) hx hb dX4_freeNumber_5 (by decide) (fun hc1 => ?_) (fun hc1 => ?_)
      · rw [if_pos hc1] at hF
        refine lv_iconst (v := (-1 : Int32)) hx hb dX4_freeNumber_28 (by decide) ?_
        exact cu_iret hx hb hr hlocks hF hP hS dX4_freeNumber_29
      · rw [if_neg hc1] at hF
        refine lv_aload_n hx hb dX4_freeNumber_8 rfl (lv_at hl 0 rfl) ?_
        obtain ⟨r2, er2, hF⟩ := cp_bind hF
        refine cp_getR (T := TX4) (N := 12) (ci := 4) (j := 4) hx hb htT hinX4 hown hK hP rfl (by decide) rfl (htT _ tw_101) er2 dX4_freeNumber_9 ?_
        refine lv_iload_n hx hb dX4_freeNumber_12 rfl (lv_at hl 1 rfl) ?_
        obtain ⟨r3, er3, hF⟩ := cp_bind hF
        refine cp_aald hx hb hK hP er3 dX4_freeNumber_13 ?_
        obtain ⟨v4, ev4, hF⟩ := cp_bind hF
        refine cp_getIN (T := TX1) (N := 14) (ci := 1) (j := 3) hx hb htT hinX1 hown hK hP rfl (by decide) rfl (hN _ (List.mem_of_getElem? (i := 13) rfl)) ev4 dX4_freeNumber_14 ?_
        refine lv_if_ne (tgt := 22) hx hb dX4_freeNumber_17 (by decide) (fun hc5 => ?_) (fun hc5 => ?_)
        · rw [if_neg hc5] at hF
          refine lv_iinc (k := 1) (v := (i1 + 1)) (lv' := [(1, .int (i1 + 1)), (0, .ref (L.2.1 a0))]) hx hb dX4_freeNumber_22 hl rfl (congrArg (fun z => i1 + z) (by decide)) (by decide) rfl (fun ls hl => ?_)
          refine lv_goto (tgt := 2) hx hb dX4_freeNumber_25 (by decide) ?_
          exact ih a0 (i1 + 1) D _ _ _ hF hP hS (lv_sub hl [1, 0] rfl)
        · rw [if_pos hc5] at hF
          refine lv_iload_n hx hb dX4_freeNumber_20 rfl (lv_at hl 1 rfl) ?_
          exact cu_iret hx hb hr hlocks hF hP hS dX4_freeNumber_21
  unfold fn_X4_freeNumber at hF
  refine lv_iconst (v := (0 : Int32)) hx hb dX4_freeNumber_0 (by decide) ?_
  refine lv_istore_n (lv' := [(1, .int (0 : Int32)), (0, .ref (L.2.1 k0))]) hx hb dX4_freeNumber_1 rfl hl (by decide) rfl (fun ls hl => ?_)
  exact hL2 q k0 (0 : Int32) D _ _ _ hF hP hS (lv_sub hl [1, 0] rfl)
set_option maxHeartbeats 4000000 in
set_option maxRecDepth 100000 in
theorem cu_X4_has (l : Launch) (G : va_G) (L : cp_Lay) (hJ : cp_J L) (q : Nat) (k0 : Nat) (x1 : Int32) (D : cp_Dt) (res : Int32 × cp_Dt) (hF : fn_X4_has L q k0 x1 D = some res) : cu_Met l G yX4_has wsX4_has ({ frames := 0, cells := 0, slots := 0, locals := 0 }) L ([.ref (L.2.1 k0), .int x1] : List Value) D res.2 (some (.int res.1)) := by
  refine Met.ofW (cc := cX4_has) (maxL := 2) (ret := (some .boolean)) (by decide) rfl ?_
  intro p e s m args below meth c s₁ B hml hv
  obtain ⟨rfl, hP, hK, hN, hZ⟩ := hv
  have hx := B.exec
  have hb := B.bytes
  have hr := B.returns
  have hts := atoms_spec (ws := wsX4_has) B.pre
  have hown : s.vm.findClass "CreaturePond$Pond" = some m.cls := findClass_of_methodNamed B.named
  have hlocks := B.notSynchronized
  have hS : va_S (fun _ => False) s.heap s.heap [] := va_S.rf
  have htT : ∀ w ∈ cp_T, w.before ([.ref (L.2.1 k0), .int x1] : List Value).toArray s = true := fun w h => hts w (List.mem_cons_of_mem _ h)
  have hl := lv_entry (([.ref (L.2.1 k0), .int x1] : List Value)) (n := 2) (Nat.le_of_ble_eq_true rfl)
  rw [lg_entry_eq]
  generalize (lg_sl (([.ref (L.2.1 k0), .int x1] : List Value)) ++ List.replicate (2 - (lg_sl (([.ref (L.2.1 k0), .int x1] : List Value))).length) Slot.unset).toArray = ls at hl ⊢
  have hl : lv_has ls 2 [(0, .ref (L.2.1 k0)), (1, .int x1)] := hl
  unfold fn_X4_has at hF
  refine lv_iload_n hx hb dX4_has_0 rfl (lv_at hl 1 rfl) ?_
  refine lv_if_lt (tgt := 26) hx hb dX4_has_1 (by decide) (fun hc1 => ?_) (fun hc1 => ?_)
  · rw [if_pos hc1] at hF
    refine lv_iconst (v := (0 : Int32)) hx hb dX4_has_26 (by decide) ?_
    exact cu_zret hx hb hr hlocks (by decide) hF hP hS dX4_has_27
  · rw [if_neg hc1] at hF
    refine lv_iload_n hx hb dX4_has_4 rfl (lv_at hl 1 rfl) ?_
    refine lv_bipush (v := (16 : Int32)) hx hb dX4_has_5 (by decide) ?_
    refine lv_icmp_ge (tgt := 26) hx hb dX4_has_7 (by decide) (fun hc2 => ?_) (fun hc2 => ?_)
    · rw [if_pos hc2] at hF
      refine lv_iconst (v := (0 : Int32)) hx hb dX4_has_26 (by decide) ?_
      exact cu_zret hx hb hr hlocks (by decide) hF hP hS dX4_has_27
    · rw [if_neg hc2] at hF
      refine lv_aload_n hx hb dX4_has_10 rfl (lv_at hl 0 rfl) ?_
      obtain ⟨r3, er3, hF⟩ := cp_bind hF
      refine cp_getR (T := TX4) (N := 12) (ci := 4) (j := 4) hx hb htT hinX4 hown hK hP rfl (by decide) rfl (htT _ tw_101) er3 dX4_has_11 ?_
      refine lv_iload_n hx hb dX4_has_14 rfl (lv_at hl 1 rfl) ?_
      obtain ⟨r4, er4, hF⟩ := cp_bind hF
      refine cp_aald hx hb hK hP er4 dX4_has_15 ?_
      obtain ⟨v5, ev5, hF⟩ := cp_bind hF
      refine cp_getIN (T := TX1) (N := 14) (ci := 1) (j := 3) hx hb htT hinX1 hown hK hP rfl (by decide) rfl (hN _ (List.mem_of_getElem? (i := 13) rfl)) ev5 dX4_has_16 ?_
      refine lv_if_eq (tgt := 26) hx hb dX4_has_19 (by decide) (fun hc6 => ?_) (fun hc6 => ?_)
      · rw [if_pos hc6] at hF
        refine lv_iconst (v := (0 : Int32)) hx hb dX4_has_26 (by decide) ?_
        exact cu_zret hx hb hr hlocks (by decide) hF hP hS dX4_has_27
      · rw [if_neg hc6] at hF
        refine lv_iconst (v := (1 : Int32)) hx hb dX4_has_22 (by decide) ?_
        refine lv_goto (tgt := 27) hx hb dX4_has_23 (by decide) ?_
        exact cu_zret hx hb hr hlocks (by decide) hF hP hS dX4_has_27
set_option maxHeartbeats 4000000 in
set_option maxRecDepth 100000 in
theorem cxt_X0_animal (l : Launch) (hst : l.stackTraces = false) (G : va_G) (L : cp_Lay) (hJ : cp_J L) (q : Nat) (k0 : Nat) (x1 : Int32) (x2 : Int32) (x3 : Int32) (x4 : Int32) (D : cp_Dt) (res : Nat × cp_Dt) (hF : tx_X0_animal L q k0 x1 x2 x3 x4 D = some res) : cx_Met l G yX0_animal wsX0_animal ({ frames := 6, cells := 1, slots := 6, locals := 100 }) L ([.ref (L.2.1 k0), .int x1, .int x2, .int x3, .int x4] : List Value) D res.2 (cx_nm res.1) := by
  refine cx_ofW (cc := cX0_animal) (maxL := 7) (ret := (some .int)) (by decide) rfl ?_
  intro p e s m args below meth c s₁ B hml hadm hv
  obtain ⟨rfl, ⟨hP, hK, hN, hZ⟩, hE⟩ := hv
  have hx := B.exec
  have hb := B.bytes
  have hr := B.returns
  have hP0 := hP
  have hts := atoms_spec (ws := wsX0_animal) B.pre
  have hem : c.exceptionTable.isEmpty = true := BodyLoose.noHandlers B (hts _ List.mem_cons_self)
  have hown : s.vm.findClass "CreaturePond" = some m.cls := findClass_of_methodNamed B.named
  have hlocks := B.notSynchronized
  have hS : va_S (fun _ => False) s.heap s.heap [] := va_S.rf
  have htT : ∀ w ∈ cp_T, w.before ([.ref (L.2.1 k0), .int x1, .int x2, .int x3, .int x4] : List Value).toArray s = true := fun w h => hts w (List.mem_cons_of_mem _ h)
  have hl := lv_entry (([.ref (L.2.1 k0), .int x1, .int x2, .int x3, .int x4] : List Value)) (n := 7) (Nat.le_of_ble_eq_true rfl)
  rw [lg_entry_eq]
  generalize (lg_sl (([.ref (L.2.1 k0), .int x1, .int x2, .int x3, .int x4] : List Value)) ++ List.replicate (7 - (lg_sl (([.ref (L.2.1 k0), .int x1, .int x2, .int x3, .int x4] : List Value))).length) Slot.unset).toArray = ls at hl ⊢
  have hl : lv_has ls 7 [(0, .ref (L.2.1 k0)), (1, .int x1), (2, .int x2), (3, .int x3), (4, .int x4)] := hl
  unfold tx_X0_animal at hF
  refine lv_iload_n hx hb dX0_animal_0 rfl (lv_at hl 3 rfl) ?_
  refine lv_if_lt (tgt := 23) hx hb dX0_animal_1 (by decide) (fun hc1 => ?_) (fun hc1 => ?_)
  · rw [if_pos hc1] at hF
    cases hF
    exact cx_thr (q := (77, "java/lang/IllegalArgumentException")) (ix := 73) (istr := 75) (tx := "heading is 0 to 3, energy 1 to 1000") hx hb hst (by rw [hml]; exact hl.1.symm) hown hE hP (cx_lt hP0) hS (by decide) (htT _ tw_209) (htT _ tw_12) (by decide) hem hlocks dX0_animal_23 dX0_animal_26 dX0_animal_27 dX0_animal_29 dX0_animal_32 (Nat.le_of_ble_eq_true rfl) (Nat.le_of_ble_eq_true rfl) (Nat.le_of_ble_eq_true rfl) (Nat.le_of_ble_eq_true rfl)
  · rw [if_neg hc1] at hF
    refine lv_iload_n hx hb dX0_animal_4 rfl (lv_at hl 3 rfl) ?_
    refine lv_iconst (v := (4 : Int32)) hx hb dX0_animal_5 (by decide) ?_
    refine lv_icmp_ge (tgt := 23) hx hb dX0_animal_6 (by decide) (fun hc2 => ?_) (fun hc2 => ?_)
    · rw [if_pos hc2] at hF
      cases hF
      exact cx_thr (q := (77, "java/lang/IllegalArgumentException")) (ix := 73) (istr := 75) (tx := "heading is 0 to 3, energy 1 to 1000") hx hb hst (by rw [hml]; exact hl.1.symm) hown hE hP (cx_lt hP0) hS (by decide) (htT _ tw_209) (htT _ tw_12) (by decide) hem hlocks dX0_animal_23 dX0_animal_26 dX0_animal_27 dX0_animal_29 dX0_animal_32 (Nat.le_of_ble_eq_true rfl) (Nat.le_of_ble_eq_true rfl) (Nat.le_of_ble_eq_true rfl) (Nat.le_of_ble_eq_true rfl)
    · rw [if_neg hc2] at hF
      refine lv_iload hx hb dX0_animal_9 (lv_at hl 4 rfl) ?_
      refine lv_iconst (v := (1 : Int32)) hx hb dX0_animal_11 (by decide) ?_
      refine lv_icmp_lt (tgt := 23) hx hb dX0_animal_12 (by decide) (fun hc3 => ?_) (fun hc3 => ?_)
      · rw [if_pos hc3] at hF
        cases hF
        exact cx_thr (q := (77, "java/lang/IllegalArgumentException")) (ix := 73) (istr := 75) (tx := "heading is 0 to 3, energy 1 to 1000") hx hb hst (by rw [hml]; exact hl.1.symm) hown hE hP (cx_lt hP0) hS (by decide) (htT _ tw_209) (htT _ tw_12) (by decide) hem hlocks dX0_animal_23 dX0_animal_26 dX0_animal_27 dX0_animal_29 dX0_animal_32 (Nat.le_of_ble_eq_true rfl) (Nat.le_of_ble_eq_true rfl) (Nat.le_of_ble_eq_true rfl) (Nat.le_of_ble_eq_true rfl)
      · rw [if_neg hc3] at hF
        refine lv_iload hx hb dX0_animal_15 (lv_at hl 4 rfl) ?_
        refine lv_sipush (v := (1000 : Int32)) hx hb dX0_animal_17 (by decide) ?_
        refine lv_icmp_le (tgt := 33) hx hb dX0_animal_20 (by decide) (fun hc4 => ?_) (fun hc4 => ?_)
        · rw [if_pos hc4] at hF
          refine lv_aload_n hx hb dX0_animal_33 rfl (lv_at hl 0 rfl) ?_
          obtain ⟨r5, er5, hF⟩ := cp_bind hF
          refine cp_getR (T := TX0) (N := 6) (ci := 0) (j := 0) hx hb htT hinX0 hown hK hP rfl (by decide) rfl (htT _ tw_135) er5 dX0_animal_34 ?_
          refine lv_iload_n hx hb dX0_animal_37 rfl (lv_at hl 1 rfl) ?_
          refine lv_iload_n hx hb dX0_animal_38 rfl (lv_at hl 2 rfl) ?_
          obtain ⟨f6, ef6, hF⟩ := cp_bind hF
          obtain ⟨y7, ey7, hF⟩ := cp_bind hF
          refine cu_call (st1 := [.int y7.1]) (va_runVN (As := [.int x1, .int x2]) (rest := []) ⟨hx, hb, hml, hown, htT⟩ (cu_X5_cellAt l G L hJ q r5 x1 x2 D y7 ey7) ⟨va_cnB 2 htT gdX5_cellAt rfl rfl rfl (hN _ (List.mem_of_getElem? (i := 56) rfl)) (htT _ tw_2) hdX5_cellAt ⟨Nat.le_of_ble_eq_true rfl, Nat.le_of_ble_eq_true rfl⟩, (htT _ tw_44), (htT _ tw_530)⟩ ⟨cp_blind, cp_recv hK hP rfl ef6, cp_pre hP hK hN hZ (cu_S hS)⟩ rfl rfl hl.1 rfl (lv_room (Nat.le_of_ble_eq_true rfl)) dX0_animal_39 ⟨Nat.zero_le _, Nat.zero_le _⟩) hS (fun H locs hP hS => ?_)
          refine lv_istore (lv' := [(5, .int y7.1), (0, .ref (L.2.1 k0)), (1, .int x1), (2, .int x2), (3, .int x3), (4, .int x4)]) hx hb dX0_animal_42 hl (by decide) rfl (fun ls hl => ?_)
          refine lv_aload_n hx hb dX0_animal_44 rfl (lv_at hl 1 rfl) ?_
          obtain ⟨r8, er8, hF⟩ := cp_bind hF
          refine cp_getR (T := TX0) (N := 6) (ci := 0) (j := 1) hx hb htT hinX0 hown hK hP rfl (by decide) rfl (htT _ tw_136) er8 dX0_animal_45 ?_
          obtain ⟨f9, ef9, hF⟩ := cp_bind hF
          obtain ⟨y10, ey10, hF⟩ := cp_bind hF
          refine cu_call (st1 := [.int y10.1]) (va_runVN (As := []) (rest := []) ⟨hx, hb, hml, hown, htT⟩ (cu_X4_freeNumber l G L hJ q r8 y7.2 y10 ey10) ⟨va_cnB 0 htT gdX4_freeNumber rfl rfl rfl (hN _ (List.mem_of_getElem? (i := 66) rfl)) (htT _ tw_4) hdX4_freeNumber ⟨Nat.le_of_ble_eq_true rfl, Nat.le_of_ble_eq_true rfl⟩, (htT _ tw_231), (htT _ tw_538)⟩ ⟨cp_blind, cp_recv hK hP rfl ef9, cp_pre hP hK hN hZ (cu_S hS)⟩ rfl rfl hl.1 rfl (lv_room (Nat.le_of_ble_eq_true rfl)) dX0_animal_48 ⟨Nat.zero_le _, Nat.zero_le _⟩) hS (fun H locs hP hS => ?_)
          refine lv_istore (lv' := [(6, .int y10.1), (5, .int y7.1), (0, .ref (L.2.1 k0)), (1, .int x1), (2, .int x2), (3, .int x3), (4, .int x4)]) hx hb dX0_animal_51 hl (by decide) rfl (fun ls hl => ?_)
          refine lv_aload_n hx hb dX0_animal_53 rfl (lv_at hl 2 rfl) ?_
          obtain ⟨r11, er11, hF⟩ := cp_bind hF
          refine cp_getR (T := TX0) (N := 6) (ci := 0) (j := 1) hx hb htT hinX0 hown hK hP rfl (by decide) rfl (htT _ tw_136) er11 dX0_animal_54 ?_
          obtain ⟨r12, er12, hF⟩ := cp_bind hF
          refine cp_getRN (T := TX4) (N := 12) (ci := 4) (j := 3) hx hb htT hinX4 hown hK hP rfl (by decide) rfl (hN _ (List.mem_of_getElem? (i := 41) rfl)) er12 dX0_animal_57 ?_
          refine lv_iload hx hb dX0_animal_60 (lv_at hl 1 rfl) ?_
          obtain ⟨v13, ev13, hF⟩ := cp_bind hF
          refine cp_iald hx hb hK hP ev13 dX0_animal_62 ?_
          refine lv_iconst (v := (-1 : Int32)) hx hb dX0_animal_63 (by decide) ?_
          refine lv_icmp_ne (tgt := 73) hx hb dX0_animal_64 (by decide) (fun hc14 => ?_) (fun hc14 => ?_)
          · rw [if_neg hc14] at hF
            cases hF
            exact cx_thr (q := (91, "java/lang/IllegalStateException")) (ix := 87) (istr := 89) (tx := "there is an animal in the cell, or there are 16") hx hb hst (by rw [hml]; exact hl.1.symm) hown hE hP (cx_lt hP0) hS (by decide) (htT _ tw_233) (htT _ tw_13) (by decide) hem hlocks dX0_animal_73 dX0_animal_76 dX0_animal_77 dX0_animal_79 dX0_animal_82 (Nat.le_of_ble_eq_true rfl) (Nat.le_of_ble_eq_true rfl) (Nat.le_of_ble_eq_true rfl) (Nat.le_of_ble_eq_true rfl)
          · rw [if_pos hc14] at hF
            refine lv_iload hx hb dX0_animal_67 (lv_at hl 0 rfl) ?_
            refine lv_iconst (v := (-1 : Int32)) hx hb dX0_animal_69 (by decide) ?_
            refine lv_icmp_ne (tgt := 83) hx hb dX0_animal_70 (by decide) (fun hc15 => ?_) (fun hc15 => ?_)
            · rw [if_neg hc15] at hF
              refine lv_aload_n hx hb dX0_animal_83 rfl (lv_at hl 2 rfl) ?_
              obtain ⟨r16, er16, hF⟩ := cp_bind hF
              refine cp_getR (T := TX0) (N := 6) (ci := 0) (j := 1) hx hb htT hinX0 hown hK hP rfl (by decide) rfl (htT _ tw_136) er16 dX0_animal_84 ?_
              refine lv_iload hx hb dX0_animal_87 (lv_at hl 0 rfl) ?_
              refine lv_iload hx hb dX0_animal_89 (lv_at hl 1 rfl) ?_
              refine lv_iload_n hx hb dX0_animal_91 rfl (lv_at hl 5 rfl) ?_
              refine lv_iload hx hb dX0_animal_92 (lv_at hl 6 rfl) ?_
              cases hF
            · rw [if_pos hc15] at hF
              cases hF
              exact cx_thr (q := (91, "java/lang/IllegalStateException")) (ix := 87) (istr := 89) (tx := "there is an animal in the cell, or there are 16") hx hb hst (by rw [hml]; exact hl.1.symm) hown hE hP (cx_lt hP0) hS (by decide) (htT _ tw_233) (htT _ tw_13) (by decide) hem hlocks dX0_animal_73 dX0_animal_76 dX0_animal_77 dX0_animal_79 dX0_animal_82 (Nat.le_of_ble_eq_true rfl) (Nat.le_of_ble_eq_true rfl) (Nat.le_of_ble_eq_true rfl) (Nat.le_of_ble_eq_true rfl)
        · rw [if_neg hc4] at hF
          cases hF
          exact cx_thr (q := (77, "java/lang/IllegalArgumentException")) (ix := 73) (istr := 75) (tx := "heading is 0 to 3, energy 1 to 1000") hx hb hst (by rw [hml]; exact hl.1.symm) hown hE hP (cx_lt hP0) hS (by decide) (htT _ tw_209) (htT _ tw_12) (by decide) hem hlocks dX0_animal_23 dX0_animal_26 dX0_animal_27 dX0_animal_29 dX0_animal_32 (Nat.le_of_ble_eq_true rfl) (Nat.le_of_ble_eq_true rfl) (Nat.le_of_ble_eq_true rfl) (Nat.le_of_ble_eq_true rfl)
set_option maxHeartbeats 4000000 in
set_option maxRecDepth 100000 in
theorem cxt_X0_code (l : Launch) (hst : l.stackTraces = false) (G : va_G) (L : cp_Lay) (hJ : cp_J L) (q : Nat) (k0 : Nat) (x1 : Int32) (x2 : Int32) (x3 : Int64) (D : cp_Dt) (res : Nat × cp_Dt) (hF : tx_X0_code L q k0 x1 x2 x3 D = some res) : cx_Met l G yX0_code wsX0_code ({ frames := 6, cells := 1, slots := 6, locals := 100 }) L ([.ref (L.2.1 k0), .int x1, .int x2, .long x3] : List Value) D res.2 (cx_nm res.1) := by
  refine cx_ofW (cc := cX0_code) (maxL := 7) (ret := (some .int)) (by decide) rfl ?_
  intro p e s m args below meth c s₁ B hml hadm hv
  obtain ⟨rfl, ⟨hP, hK, hN, hZ⟩, hE⟩ := hv
  have hx := B.exec
  have hb := B.bytes
  have hr := B.returns
  have hP0 := hP
  have hts := atoms_spec (ws := wsX0_code) B.pre
  have hem : c.exceptionTable.isEmpty = true := BodyLoose.noHandlers B (hts _ List.mem_cons_self)
  have hown : s.vm.findClass "CreaturePond" = some m.cls := findClass_of_methodNamed B.named
  have hlocks := B.notSynchronized
  have hS : va_S (fun _ => False) s.heap s.heap [] := va_S.rf
  have htT : ∀ w ∈ cp_T, w.before ([.ref (L.2.1 k0), .int x1, .int x2, .long x3] : List Value).toArray s = true := fun w h => hts w (List.mem_cons_of_mem _ h)
  have hl := lv_entry (([.ref (L.2.1 k0), .int x1, .int x2, .long x3] : List Value)) (n := 7) (Nat.le_of_ble_eq_true rfl)
  rw [lg_entry_eq]
  generalize (lg_sl (([.ref (L.2.1 k0), .int x1, .int x2, .long x3] : List Value)) ++ List.replicate (7 - (lg_sl (([.ref (L.2.1 k0), .int x1, .int x2, .long x3] : List Value))).length) Slot.unset).toArray = ls at hl ⊢
  have hl : lv_has ls 7 [(0, .ref (L.2.1 k0)), (1, .int x1), (2, .int x2), (3, .long x3)] := hl
  unfold tx_X0_code at hF
  refine lv_iload_n hx hb dX0_code_0 rfl (lv_at hl 2 rfl) ?_
  refine lv_iconst (v := (1 : Int32)) hx hb dX0_code_1 (by decide) ?_
  refine lv_icmp_lt (tgt := 22) hx hb dX0_code_2 (by decide) (fun hc1 => ?_) (fun hc1 => ?_)
  · rw [if_pos hc1] at hF
    cases hF
    exact cx_thr (q := (77, "java/lang/IllegalArgumentException")) (ix := 73) (istr := 100) (tx := "n is 1 to 8, and the animal must live") hx hb hst (by rw [hml]; exact hl.1.symm) hown hE hP (cx_lt hP0) hS (by decide) (htT _ tw_209) (htT _ tw_12) (by decide) hem hlocks dX0_code_22 dX0_code_25 dX0_code_26 dX0_code_28 dX0_code_31 (Nat.le_of_ble_eq_true rfl) (Nat.le_of_ble_eq_true rfl) (Nat.le_of_ble_eq_true rfl) (Nat.le_of_ble_eq_true rfl)
  · rw [if_neg hc1] at hF
    refine lv_iload_n hx hb dX0_code_5 rfl (lv_at hl 2 rfl) ?_
    refine lv_bipush (v := (8 : Int32)) hx hb dX0_code_6 (by decide) ?_
    refine lv_icmp_gt (tgt := 22) hx hb dX0_code_8 (by decide) (fun hc2 => ?_) (fun hc2 => ?_)
    · rw [if_pos hc2] at hF
      cases hF
      exact cx_thr (q := (77, "java/lang/IllegalArgumentException")) (ix := 73) (istr := 100) (tx := "n is 1 to 8, and the animal must live") hx hb hst (by rw [hml]; exact hl.1.symm) hown hE hP (cx_lt hP0) hS (by decide) (htT _ tw_209) (htT _ tw_12) (by decide) hem hlocks dX0_code_22 dX0_code_25 dX0_code_26 dX0_code_28 dX0_code_31 (Nat.le_of_ble_eq_true rfl) (Nat.le_of_ble_eq_true rfl) (Nat.le_of_ble_eq_true rfl) (Nat.le_of_ble_eq_true rfl)
    · rw [if_neg hc2] at hF
      refine lv_aload_n hx hb dX0_code_11 rfl (lv_at hl 0 rfl) ?_
      obtain ⟨r3, er3, hF⟩ := cp_bind hF
      refine cp_getR (T := TX0) (N := 6) (ci := 0) (j := 1) hx hb htT hinX0 hown hK hP rfl (by decide) rfl (htT _ tw_136) er3 dX0_code_12 ?_
      refine lv_iload_n hx hb dX0_code_15 rfl (lv_at hl 1 rfl) ?_
      obtain ⟨f4, ef4, hF⟩ := cp_bind hF
      obtain ⟨y5, ey5, hF⟩ := cp_bind hF
      refine cu_call (st1 := [.int y5.1]) (va_runVN (As := [.int x1]) (rest := []) ⟨hx, hb, hml, hown, htT⟩ (cu_X4_has l G L hJ q r3 x1 D y5 ey5) ⟨va_cnB 1 htT gdX4_has rfl rfl rfl (hN _ (List.mem_of_getElem? (i := 57) rfl)) (htT _ tw_4) hdX4_has ⟨Nat.le_of_ble_eq_true rfl, Nat.le_of_ble_eq_true rfl⟩, (htT _ tw_168), (htT _ tw_531)⟩ ⟨cp_blind, cp_recv hK hP rfl ef4, cp_pre hP hK hN hZ (cu_S hS)⟩ rfl rfl hl.1 rfl (lv_room (Nat.le_of_ble_eq_true rfl)) dX0_code_16 ⟨Nat.zero_le _, Nat.zero_le _⟩) hS (fun H locs hP hS => ?_)
      refine lv_if_ne (tgt := 32) hx hb dX0_code_19 (by decide) (fun hc6 => ?_) (fun hc6 => ?_)
      · rw [if_neg hc6] at hF
        refine lv_aload_n hx hb dX0_code_32 rfl (lv_at hl 0 rfl) ?_
        obtain ⟨r7, er7, hF⟩ := cp_bind hF
        refine cp_getR (T := TX0) (N := 6) (ci := 0) (j := 1) hx hb htT hinX0 hown hK hP rfl (by decide) rfl (htT _ tw_136) er7 dX0_code_33 ?_
        obtain ⟨r8, er8, hF⟩ := cp_bind hF
        refine cp_getRN (T := TX4) (N := 12) (ci := 4) (j := 4) hx hb htT hinX4 hown hK hP rfl (by decide) rfl (hN _ (List.mem_of_getElem? (i := 45) rfl)) er8 dX0_code_36 ?_
        refine lv_iload_n hx hb dX0_code_39 rfl (lv_at hl 1 rfl) ?_
        obtain ⟨r9, er9, hF⟩ := cp_bind hF
        refine cp_aald hx hb hK hP er9 dX0_code_40 ?_
        refine lv_astore (lv' := [(5, .ref (L.2.1 r9)), (0, .ref (L.2.1 k0)), (1, .int x1), (2, .int x2), (3, .long x3)]) hx hb dX0_code_41 hl (by decide) rfl (fun ls hl => ?_)
        refine lv_aload hx hb dX0_code_43 (lv_at hl 0 rfl) ?_
        obtain ⟨v10, ev10, hF⟩ := cp_bind hF
        refine cp_getIN (T := TX1) (N := 14) (ci := 1) (j := 9) hx hb htT hinX1 hown hK hP rfl (by decide) rfl (hN _ (List.mem_of_getElem? (i := 29) rfl)) ev10 dX0_code_45 ?_
        refine lv_iload_n hx hb dX0_code_48 rfl (lv_at hl 3 rfl) ?_
        refine lv_iadd hx hb dX0_code_49 ?_
        refine lv_bipush (v := (20 : Int32)) hx hb dX0_code_50 (by decide) ?_
        refine lv_icmp_le (tgt := 65) hx hb dX0_code_52 (by decide) (fun hc11 => ?_) (fun hc11 => ?_)
        · rw [if_pos hc11] at hF
          refine lv_iload_n hx hb dX0_code_65 rfl (lv_at hl 3 rfl) ?_
          refine lv_iconst (v := (1 : Int32)) hx hb dX0_code_66 (by decide) ?_
          refine lv_isub hx hb dX0_code_67 ?_
          refine lv_istore (lv' := [(6, .int (x2 - (1 : Int32))), (5, .ref (L.2.1 r9)), (0, .ref (L.2.1 k0)), (1, .int x1), (2, .int x2), (3, .long x3)]) hx hb dX0_code_68 hl (by decide) rfl (fun ls hl => ?_)
          cases hF
        · rw [if_neg hc11] at hF
          cases hF
          exact cx_thr (q := (91, "java/lang/IllegalStateException")) (ix := 87) (istr := 111) (tx := "a code has at most 20 bytes") hx hb hst (by rw [hml]; exact hl.1.symm) hown hE hP (cx_lt hP0) hS (by decide) (htT _ tw_233) (htT _ tw_13) (by decide) hem hlocks dX0_code_55 dX0_code_58 dX0_code_59 dX0_code_61 dX0_code_64 (Nat.le_of_ble_eq_true rfl) (Nat.le_of_ble_eq_true rfl) (Nat.le_of_ble_eq_true rfl) (Nat.le_of_ble_eq_true rfl)
      · rw [if_pos hc6] at hF
        cases hF
        exact cx_thr (q := (77, "java/lang/IllegalArgumentException")) (ix := 73) (istr := 100) (tx := "n is 1 to 8, and the animal must live") hx hb hst (by rw [hml]; exact hl.1.symm) hown hE hP (cx_lt hP0) hS (by decide) (htT _ tw_209) (htT _ tw_12) (by decide) hem hlocks dX0_code_22 dX0_code_25 dX0_code_26 dX0_code_28 dX0_code_31 (Nat.le_of_ble_eq_true rfl) (Nat.le_of_ble_eq_true rfl) (Nat.le_of_ble_eq_true rfl) (Nat.le_of_ble_eq_true rfl)
set_option maxHeartbeats 4000000 in
set_option maxRecDepth 100000 in
theorem cxt_X0_tick (l : Launch) (hst : l.stackTraces = false) (G : va_G) (L : cp_Lay) (hJ : cp_J L) (q : Nat) (k0 : Nat) (x1 : Int32) (D : cp_Dt) (res : Nat × cp_Dt) (hF : tx_X0_tick L q k0 x1 D = some res) : cx_Met l G yX0_tick wsX0_tick ({ frames := 6, cells := 1, slots := 6, locals := 100 }) L ([.ref (L.2.1 k0), .int x1] : List Value) D res.2 (cx_nm res.1) := by
  refine cx_ofW (cc := cX0_tick) (maxL := 3) (ret := (some .int)) (by decide) rfl ?_
  intro p e s m args below meth c s₁ B hml hadm hv
  obtain ⟨rfl, ⟨hP, hK, hN, hZ⟩, hE⟩ := hv
  have hx := B.exec
  have hb := B.bytes
  have hr := B.returns
  have hP0 := hP
  have hts := atoms_spec (ws := wsX0_tick) B.pre
  have hem : c.exceptionTable.isEmpty = true := BodyLoose.noHandlers B (hts _ List.mem_cons_self)
  have hown : s.vm.findClass "CreaturePond" = some m.cls := findClass_of_methodNamed B.named
  have hlocks := B.notSynchronized
  have hS : va_S (fun _ => False) s.heap s.heap [] := va_S.rf
  have htT : ∀ w ∈ cp_T, w.before ([.ref (L.2.1 k0), .int x1] : List Value).toArray s = true := fun w h => hts w (List.mem_cons_of_mem _ h)
  have hl := lv_entry (([.ref (L.2.1 k0), .int x1] : List Value)) (n := 3) (Nat.le_of_ble_eq_true rfl)
  rw [lg_entry_eq]
  generalize (lg_sl (([.ref (L.2.1 k0), .int x1] : List Value)) ++ List.replicate (3 - (lg_sl (([.ref (L.2.1 k0), .int x1] : List Value))).length) Slot.unset).toArray = ls at hl ⊢
  have hl : lv_has ls 3 [(0, .ref (L.2.1 k0)), (1, .int x1)] := hl
  unfold tx_X0_tick at hF
  refine lv_iload_n hx hb dX0_tick_0 rfl (lv_at hl 1 rfl) ?_
  refine lv_if_lt (tgt := 10) hx hb dX0_tick_1 (by decide) (fun hc1 => ?_) (fun hc1 => ?_)
  · rw [if_pos hc1] at hF
    cases hF
    exact cx_thr (q := (77, "java/lang/IllegalArgumentException")) (ix := 73) (istr := 117) (tx := "n is 0 to 50") hx hb hst (by rw [hml]; exact hl.1.symm) hown hE hP (cx_lt hP0) hS (by decide) (htT _ tw_209) (htT _ tw_12) (by decide) hem hlocks dX0_tick_10 dX0_tick_13 dX0_tick_14 dX0_tick_16 dX0_tick_19 (Nat.le_of_ble_eq_true rfl) (Nat.le_of_ble_eq_true rfl) (Nat.le_of_ble_eq_true rfl) (Nat.le_of_ble_eq_true rfl)
  · rw [if_neg hc1] at hF
    refine lv_iload_n hx hb dX0_tick_4 rfl (lv_at hl 1 rfl) ?_
    refine lv_bipush (v := (50 : Int32)) hx hb dX0_tick_5 (by decide) ?_
    refine lv_icmp_le (tgt := 20) hx hb dX0_tick_7 (by decide) (fun hc2 => ?_) (fun hc2 => ?_)
    · rw [if_pos hc2] at hF
      refine lv_iconst (v := (0 : Int32)) hx hb dX0_tick_20 (by decide) ?_
      refine lv_istore_n (lv' := [(2, .int (0 : Int32)), (0, .ref (L.2.1 k0)), (1, .int x1)]) hx hb dX0_tick_21 rfl hl (by decide) rfl (fun ls hl => ?_)
      cases hF
    · rw [if_neg hc2] at hF
      cases hF
      exact cx_thr (q := (77, "java/lang/IllegalArgumentException")) (ix := 73) (istr := 117) (tx := "n is 0 to 50") hx hb hst (by rw [hml]; exact hl.1.symm) hown hE hP (cx_lt hP0) hS (by decide) (htT _ tw_209) (htT _ tw_12) (by decide) hem hlocks dX0_tick_10 dX0_tick_13 dX0_tick_14 dX0_tick_16 dX0_tick_19 (Nat.le_of_ble_eq_true rfl) (Nat.le_of_ble_eq_true rfl) (Nat.le_of_ble_eq_true rfl) (Nat.le_of_ble_eq_true rfl)
set_option maxHeartbeats 4000000 in
set_option maxRecDepth 100000 in
theorem cxt_X0_inner (l : Launch) (hst : l.stackTraces = false) (G : va_G) (L : cp_Lay) (hJ : cp_J L) (q : Nat) (k0 : Nat) (x1 : Int32) (x2 : Int32) (x3 : Int32) (D : cp_Dt) (res : Nat × cp_Dt) (hF : tx_X0_inner L q k0 x1 x2 x3 D = some res) : cx_Met l G yX0_inner wsX0_inner ({ frames := 6, cells := 1, slots := 6, locals := 100 }) L ([.ref (L.2.1 k0), .int x1, .int x2, .int x3] : List Value) D res.2 (cx_nm res.1) := by
  refine cx_ofW (cc := cX0_inner) (maxL := 6) (ret := (some .byte)) (by decide) rfl ?_
  intro p e s m args below meth c s₁ B hml hadm hv
  obtain ⟨rfl, ⟨hP, hK, hN, hZ⟩, hE⟩ := hv
  have hx := B.exec
  have hb := B.bytes
  have hr := B.returns
  have hP0 := hP
  have hts := atoms_spec (ws := wsX0_inner) B.pre
  have hem : c.exceptionTable.isEmpty = true := BodyLoose.noHandlers B (hts _ List.mem_cons_self)
  have hown : s.vm.findClass "CreaturePond" = some m.cls := findClass_of_methodNamed B.named
  have hlocks := B.notSynchronized
  have hS : va_S (fun _ => False) s.heap s.heap [] := va_S.rf
  have htT : ∀ w ∈ cp_T, w.before ([.ref (L.2.1 k0), .int x1, .int x2, .int x3] : List Value).toArray s = true := fun w h => hts w (List.mem_cons_of_mem _ h)
  have hl := lv_entry (([.ref (L.2.1 k0), .int x1, .int x2, .int x3] : List Value)) (n := 6) (Nat.le_of_ble_eq_true rfl)
  rw [lg_entry_eq]
  generalize (lg_sl (([.ref (L.2.1 k0), .int x1, .int x2, .int x3] : List Value)) ++ List.replicate (6 - (lg_sl (([.ref (L.2.1 k0), .int x1, .int x2, .int x3] : List Value))).length) Slot.unset).toArray = ls at hl ⊢
  have hl : lv_has ls 6 [(0, .ref (L.2.1 k0)), (1, .int x1), (2, .int x2), (3, .int x3)] := hl
  unfold tx_X0_inner at hF
  refine lv_aload_n hx hb dX0_inner_0 rfl (lv_at hl 0 rfl) ?_
  obtain ⟨r1, er1, hF⟩ := cp_bind hF
  refine cp_getR (T := TX0) (N := 6) (ci := 0) (j := 1) hx hb htT hinX0 hown hK hP rfl (by decide) rfl (htT _ tw_136) er1 dX0_inner_1 ?_
  refine lv_iload_n hx hb dX0_inner_4 rfl (lv_at hl 1 rfl) ?_
  obtain ⟨f2, ef2, hF⟩ := cp_bind hF
  obtain ⟨y3, ey3, hF⟩ := cp_bind hF
  refine cu_call (st1 := [.int y3.1]) (va_runVN (As := [.int x1]) (rest := []) ⟨hx, hb, hml, hown, htT⟩ (cu_X4_has l G L hJ q r1 x1 D y3 ey3) ⟨va_cnB 1 htT gdX4_has rfl rfl rfl (hN _ (List.mem_of_getElem? (i := 57) rfl)) (htT _ tw_4) hdX4_has ⟨Nat.le_of_ble_eq_true rfl, Nat.le_of_ble_eq_true rfl⟩, (htT _ tw_168), (htT _ tw_531)⟩ ⟨cp_blind, cp_recv hK hP rfl ef2, cp_pre hP hK hN hZ (cu_S hS)⟩ rfl rfl hl.1 rfl (lv_room (Nat.le_of_ble_eq_true rfl)) dX0_inner_5 ⟨Nat.zero_le _, Nat.zero_le _⟩) hS (fun H locs hP hS => ?_)
  refine lv_if_ne (tgt := 21) hx hb dX0_inner_8 (by decide) (fun hc4 => ?_) (fun hc4 => ?_)
  · rw [if_neg hc4] at hF
    refine lv_aload_n hx hb dX0_inner_21 rfl (lv_at hl 0 rfl) ?_
    obtain ⟨r5, er5, hF⟩ := cp_bind hF
    refine cp_getR (T := TX0) (N := 6) (ci := 0) (j := 1) hx hb htT hinX0 hown hK hP rfl (by decide) rfl (htT _ tw_136) er5 dX0_inner_22 ?_
    obtain ⟨r6, er6, hF⟩ := cp_bind hF
    refine cp_getRN (T := TX4) (N := 12) (ci := 4) (j := 4) hx hb htT hinX4 hown hK hP rfl (by decide) rfl (hN _ (List.mem_of_getElem? (i := 45) rfl)) er6 dX0_inner_25 ?_
    refine lv_iload_n hx hb dX0_inner_28 rfl (lv_at hl 1 rfl) ?_
    obtain ⟨r7, er7, hF⟩ := cp_bind hF
    refine cp_aald hx hb hK hP er7 dX0_inner_29 ?_
    refine lv_astore (lv' := [(4, .ref (L.2.1 r7)), (0, .ref (L.2.1 k0)), (1, .int x1), (2, .int x2), (3, .int x3)]) hx hb dX0_inner_30 hl (by decide) rfl (fun ls hl => ?_)
    refine lv_iload_n hx hb dX0_inner_32 rfl (lv_at hl 3 rfl) ?_
    refine lv_if_eq (tgt := 44) hx hb dX0_inner_33 (by decide) (fun hc8 => ?_) (fun hc8 => ?_)
    · rw [if_pos hc8] at hF
      refine lv_bipush (v := (16 : Int32)) hx hb dX0_inner_44 (by decide) ?_
      refine lv_istore (lv' := [(5, .int (16 : Int32)), (4, .ref (L.2.1 r7)), (0, .ref (L.2.1 k0)), (1, .int x1), (2, .int x2), (3, .int x3)]) hx hb dX0_inner_46 hl (by decide) rfl (fun ls hl => ?_)
      refine lv_iload_n hx hb dX0_inner_48 rfl (lv_at hl 5 rfl) ?_
      refine lv_if_lt (tgt := 58) hx hb dX0_inner_49 (by decide) (fun hc9 => ?_) (fun hc9 => ?_)
      · rw [if_pos hc9] at hF
        cases hF
        exact cx_thr (q := (161, "java/lang/IndexOutOfBoundsException")) (ix := 157) (istr := 162) (tx := "there is no such byte") hx hb hst (by rw [hml]; exact hl.1.symm) hown hE hP (cx_lt hP0) hS (by decide) (htT _ tw_350) (htT _ tw_14) (by decide) hem hlocks dX0_inner_58 dX0_inner_61 dX0_inner_62 dX0_inner_64 dX0_inner_67 (Nat.le_of_ble_eq_true rfl) (Nat.le_of_ble_eq_true rfl) (Nat.le_of_ble_eq_true rfl) (Nat.le_of_ble_eq_true rfl)
      · rw [if_neg hc9] at hF
        refine lv_iload_n hx hb dX0_inner_52 rfl (lv_at hl 5 rfl) ?_
        refine lv_iload hx hb dX0_inner_53 (lv_at hl 0 rfl) ?_
        refine lv_icmp_lt (tgt := 68) hx hb dX0_inner_55 (by decide) (fun hc10 => ?_) (fun hc10 => ?_)
        · rw [if_pos hc10] at hF
          refine lv_iload_n hx hb dX0_inner_68 rfl (lv_at hl 4 rfl) ?_
          refine lv_if_eq (tgt := 82) hx hb dX0_inner_69 (by decide) (fun hc11 => ?_) (fun hc11 => ?_)
          · rw [if_pos hc11] at hF
            refine lv_aload hx hb dX0_inner_82 (lv_at hl 1 rfl) ?_
            obtain ⟨r12, er12, hF⟩ := cp_bind hF
            refine cp_getRN (T := TX1) (N := 14) (ci := 1) (j := 1) hx hb htT hinX1 hown hK hP rfl (by decide) rfl (hN _ (List.mem_of_getElem? (i := 8) rfl)) er12 dX0_inner_84 ?_
            refine lv_iload_n hx hb dX0_inner_87 rfl (lv_at hl 5 rfl) ?_
            obtain ⟨v13, ev13, hF⟩ := cp_bind hF
            refine cp_bald hx hb hK hP ev13 dX0_inner_88 ?_
            cases hF
          · rw [if_neg hc11] at hF
            refine lv_aload hx hb dX0_inner_72 (lv_at hl 1 rfl) ?_
            obtain ⟨r14, er14, hF⟩ := cp_bind hF
            refine cp_getRN (T := TX1) (N := 14) (ci := 1) (j := 2) hx hb htT hinX1 hown hK hP rfl (by decide) rfl (hN _ (List.mem_of_getElem? (i := 10) rfl)) er14 dX0_inner_74 ?_
            refine lv_iload_n hx hb dX0_inner_77 rfl (lv_at hl 5 rfl) ?_
            obtain ⟨v15, ev15, hF⟩ := cp_bind hF
            refine cp_bald hx hb hK hP ev15 dX0_inner_78 ?_
            refine lv_goto (tgt := 89) hx hb dX0_inner_79 (by decide) ?_
            cases hF
        · rw [if_neg hc10] at hF
          cases hF
          exact cx_thr (q := (161, "java/lang/IndexOutOfBoundsException")) (ix := 157) (istr := 162) (tx := "there is no such byte") hx hb hst (by rw [hml]; exact hl.1.symm) hown hE hP (cx_lt hP0) hS (by decide) (htT _ tw_350) (htT _ tw_14) (by decide) hem hlocks dX0_inner_58 dX0_inner_61 dX0_inner_62 dX0_inner_64 dX0_inner_67 (Nat.le_of_ble_eq_true rfl) (Nat.le_of_ble_eq_true rfl) (Nat.le_of_ble_eq_true rfl) (Nat.le_of_ble_eq_true rfl)
    · rw [if_neg hc8] at hF
      refine lv_aload hx hb dX0_inner_36 (lv_at hl 0 rfl) ?_
      obtain ⟨v16, ev16, hF⟩ := cp_bind hF
      refine cp_getIN (T := TX1) (N := 14) (ci := 1) (j := 9) hx hb htT hinX1 hown hK hP rfl (by decide) rfl (hN _ (List.mem_of_getElem? (i := 29) rfl)) ev16 dX0_inner_38 ?_
      refine lv_goto (tgt := 46) hx hb dX0_inner_41 (by decide) ?_
      refine lv_istore (lv' := [(5, .int v16), (4, .ref (L.2.1 r7)), (0, .ref (L.2.1 k0)), (1, .int x1), (2, .int x2), (3, .int x3)]) hx hb dX0_inner_46 hl (by decide) rfl (fun ls hl => ?_)
      refine lv_iload_n hx hb dX0_inner_48 rfl (lv_at hl 5 rfl) ?_
      refine lv_if_lt (tgt := 58) hx hb dX0_inner_49 (by decide) (fun hc17 => ?_) (fun hc17 => ?_)
      · rw [if_pos hc17] at hF
        cases hF
        exact cx_thr (q := (161, "java/lang/IndexOutOfBoundsException")) (ix := 157) (istr := 162) (tx := "there is no such byte") hx hb hst (by rw [hml]; exact hl.1.symm) hown hE hP (cx_lt hP0) hS (by decide) (htT _ tw_350) (htT _ tw_14) (by decide) hem hlocks dX0_inner_58 dX0_inner_61 dX0_inner_62 dX0_inner_64 dX0_inner_67 (Nat.le_of_ble_eq_true rfl) (Nat.le_of_ble_eq_true rfl) (Nat.le_of_ble_eq_true rfl) (Nat.le_of_ble_eq_true rfl)
      · rw [if_neg hc17] at hF
        refine lv_iload_n hx hb dX0_inner_52 rfl (lv_at hl 5 rfl) ?_
        refine lv_iload hx hb dX0_inner_53 (lv_at hl 0 rfl) ?_
        refine lv_icmp_lt (tgt := 68) hx hb dX0_inner_55 (by decide) (fun hc18 => ?_) (fun hc18 => ?_)
        · rw [if_pos hc18] at hF
          refine lv_iload_n hx hb dX0_inner_68 rfl (lv_at hl 4 rfl) ?_
          refine lv_if_eq (tgt := 82) hx hb dX0_inner_69 (by decide) (fun hc19 => ?_) (fun hc19 => ?_)
          · rw [if_pos hc19] at hF
            refine lv_aload hx hb dX0_inner_82 (lv_at hl 1 rfl) ?_
            obtain ⟨r20, er20, hF⟩ := cp_bind hF
            refine cp_getRN (T := TX1) (N := 14) (ci := 1) (j := 1) hx hb htT hinX1 hown hK hP rfl (by decide) rfl (hN _ (List.mem_of_getElem? (i := 8) rfl)) er20 dX0_inner_84 ?_
            refine lv_iload_n hx hb dX0_inner_87 rfl (lv_at hl 5 rfl) ?_
            obtain ⟨v21, ev21, hF⟩ := cp_bind hF
            refine cp_bald hx hb hK hP ev21 dX0_inner_88 ?_
            cases hF
          · rw [if_neg hc19] at hF
            refine lv_aload hx hb dX0_inner_72 (lv_at hl 1 rfl) ?_
            obtain ⟨r22, er22, hF⟩ := cp_bind hF
            refine cp_getRN (T := TX1) (N := 14) (ci := 1) (j := 2) hx hb htT hinX1 hown hK hP rfl (by decide) rfl (hN _ (List.mem_of_getElem? (i := 10) rfl)) er22 dX0_inner_74 ?_
            refine lv_iload_n hx hb dX0_inner_77 rfl (lv_at hl 5 rfl) ?_
            obtain ⟨v23, ev23, hF⟩ := cp_bind hF
            refine cp_bald hx hb hK hP ev23 dX0_inner_78 ?_
            refine lv_goto (tgt := 89) hx hb dX0_inner_79 (by decide) ?_
            cases hF
        · rw [if_neg hc18] at hF
          cases hF
          exact cx_thr (q := (161, "java/lang/IndexOutOfBoundsException")) (ix := 157) (istr := 162) (tx := "there is no such byte") hx hb hst (by rw [hml]; exact hl.1.symm) hown hE hP (cx_lt hP0) hS (by decide) (htT _ tw_350) (htT _ tw_14) (by decide) hem hlocks dX0_inner_58 dX0_inner_61 dX0_inner_62 dX0_inner_64 dX0_inner_67 (Nat.le_of_ble_eq_true rfl) (Nat.le_of_ble_eq_true rfl) (Nat.le_of_ble_eq_true rfl) (Nat.le_of_ble_eq_true rfl)
  · rw [if_pos hc4] at hF
    cases hF
    exact cx_thr (q := (161, "java/lang/IndexOutOfBoundsException")) (ix := 157) (istr := 159) (tx := "there is no such animal") hx hb hst (by rw [hml]; exact hl.1.symm) hown hE hP (cx_lt hP0) hS (by decide) (htT _ tw_350) (htT _ tw_14) (by decide) hem hlocks dX0_inner_11 dX0_inner_14 dX0_inner_15 dX0_inner_17 dX0_inner_20 (Nat.le_of_ble_eq_true rfl) (Nat.le_of_ble_eq_true rfl) (Nat.le_of_ble_eq_true rfl) (Nat.le_of_ble_eq_true rfl)
set_option maxHeartbeats 4000000 in
set_option maxRecDepth 100000 in
theorem cxt_X0_differ (l : Launch) (hst : l.stackTraces = false) (G : va_G) (L : cp_Lay) (hJ : cp_J L) (q : Nat) (k0 : Nat) (D : cp_Dt) (res : Nat × cp_Dt) (hF : tx_X0_differ L q k0 D = some res) : cx_Met l G yX0_differ wsX0_differ ({ frames := 6, cells := 1, slots := 6, locals := 100 }) L ([.ref (L.2.1 k0)] : List Value) D res.2 (cx_nm res.1) := by
  refine cx_ofW (cc := cX0_differ) (maxL := 1) (ret := (some .int)) (by decide) rfl ?_
  intro p e s m args below meth c s₁ B hml hadm hv
  obtain ⟨rfl, ⟨hP, hK, hN, hZ⟩, hE⟩ := hv
  have hx := B.exec
  have hb := B.bytes
  have hr := B.returns
  have hP0 := hP
  have hts := atoms_spec (ws := wsX0_differ) B.pre
  have hem : c.exceptionTable.isEmpty = true := BodyLoose.noHandlers B (hts _ List.mem_cons_self)
  have hown : s.vm.findClass "CreaturePond" = some m.cls := findClass_of_methodNamed B.named
  have hlocks := B.notSynchronized
  have hS : va_S (fun _ => False) s.heap s.heap [] := va_S.rf
  have htT : ∀ w ∈ cp_T, w.before ([.ref (L.2.1 k0)] : List Value).toArray s = true := fun w h => hts w (List.mem_cons_of_mem _ h)
  have hl := lv_entry (([.ref (L.2.1 k0)] : List Value)) (n := 1) (Nat.le_of_ble_eq_true rfl)
  rw [lg_entry_eq]
  generalize (lg_sl (([.ref (L.2.1 k0)] : List Value)) ++ List.replicate (1 - (lg_sl (([.ref (L.2.1 k0)] : List Value))).length) Slot.unset).toArray = ls at hl ⊢
  have hl : lv_has ls 1 [(0, .ref (L.2.1 k0))] := hl
  unfold tx_X0_differ at hF
  refine lv_aload_n hx hb dX0_differ_0 rfl (lv_at hl 0 rfl) ?_
  obtain ⟨v1, ev1, hF⟩ := cp_bind hF
  refine cp_getI (T := TX0) (N := 6) (ci := 0) (j := 5) hx hb htT hinX0 hown hK hP rfl (by decide) rfl (htT _ tw_140) ev1 dX0_differ_1 ?_
  refine lv_if_ne (tgt := 17) hx hb dX0_differ_4 (by decide) (fun hc2 => ?_) (fun hc2 => ?_)
  · rw [if_neg hc2] at hF
    refine lv_aload_n hx hb dX0_differ_17 rfl (lv_at hl 0 rfl) ?_
    obtain ⟨r3, er3, hF⟩ := cp_bind hF
    refine cp_getR (T := TX0) (N := 6) (ci := 0) (j := 1) hx hb htT hinX0 hown hK hP rfl (by decide) rfl (htT _ tw_136) er3 dX0_differ_18 ?_
    refine lv_aload_n hx hb dX0_differ_21 rfl (lv_at hl 0 rfl) ?_
    obtain ⟨r4, er4, hF⟩ := cp_bind hF
    refine cp_getR (T := TX0) (N := 6) (ci := 0) (j := 2) hx hb htT hinX0 hown hK hP rfl (by decide) rfl (htT _ tw_137) er4 dX0_differ_22 ?_
    cases hF
  · rw [if_pos hc2] at hF
    cases hF
    exact cx_thr (q := (91, "java/lang/IllegalStateException")) (ix := 87) (istr := 192) (tx := "nothing is kept") hx hb hst (by rw [hml]; exact hl.1.symm) hown hE hP (cx_lt hP0) hS (by decide) (htT _ tw_233) (htT _ tw_13) (by decide) hem hlocks dX0_differ_7 dX0_differ_10 dX0_differ_11 dX0_differ_13 dX0_differ_16 (Nat.le_of_ble_eq_true rfl) (Nat.le_of_ble_eq_true rfl) (Nat.le_of_ble_eq_true rfl) (Nat.le_of_ble_eq_true rfl)
