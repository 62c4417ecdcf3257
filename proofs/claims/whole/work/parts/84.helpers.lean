/-! The law's helpers: rows -/
def cx_NC (U : State) : Prop := ∀ c1 c2 : ClassId, U.vm.findClass "java/lang/IllegalStateException" = some c1 → U.vm.findClass "java/lang/IllegalArgumentException" = some c2 → U.vm.assignable c1 c2 = false
theorem cx_NC.moved {u U : State} (hvm : u.vm.Alike U.vm) (h : cx_NC u) : cx_NC U := by
  intro c1 c2 h1 h2
  rw [hvm.findClass] at h1 h2
  rw [hvm.assignable]
  exact h c1 c2 h1 h2
def hq_Pre (G : va_G) (L : cp_Lay) (D : cp_Dt) (U : State) : Prop := cx_Pre G L D U ∧ cx_NC U
def hq_Met (l : Launch) (G : va_G) (y : MethodName) (ws : List Cond) (rm : Room) (L : cp_Lay) (av : List Value) (D D' : cp_Dt) (rv : Option Value) : Prop := Met l y ws rm (va_Pc av (hq_Pre G L D)) (cp_Q G L D' rv) 1 6 (cp_A L)
theorem hq_blind {G : va_G} {L : cp_Lay} {D : cp_Dt} {av : List Value} : FrameBlind (va_Pc av (hq_Pre G L D)) := by
  intro a U g mk h
  obtain ⟨h0, h1, h2⟩ := h
  exact ⟨h0, (cx_blind (av := av) a U g mk ⟨h0, h1⟩).2, cx_NC.moved (u := U) (U := U.calling g mk a) (Vm.Alike.refl U.vm) h2⟩
theorem hq_pre {G : va_G} {L : cp_Lay} {D : cp_Dt} {av : List Value} {s : State} {H : Heap} {locs : List Loc} (hP : va_P G vwCl (cp_ws L D) H) (hK : va_K G vwCl (cp_tys L) s) (hN : cp_N cp_nw s) (hZ : cp_Z (cp_A L) s s.heap) (hE : cx_E (cp_A L) s s.heap) (hNC : cx_NC s) (hS : va_S (cp_A L) s.heap H locs) : ∀ U : State, U.heap = H → s.WarmedH U.vm → va_Pc av (hq_Pre G L D) av.toArray U := fun U hU hW => ⟨rfl, (cx_pre (av := av) hP hK hN hZ hE hS U hU hW).2, hNC.moved hW.alike⟩
section HQ
variable {p : Program} {l : Launch} {e : Env} {R : Room} {s : State} {m : MethodId} {args : Array Value} {below : List Frame} {meth : Method} {c : Code} {H : Heap} {locs : List Loc} {cells slots : Nat} {Q : State → Prop}
variable {y : MethodName} {bytes cc : ByteArray} {maxL nL n index pc : Nat} {ret : Option FieldType} {ws ws' : List Cond} {rm : Room} {Ts : List Cond} {own C X : String} {b : Addr} {As rest av st0 : List Value} {g : JFrame} {G : va_G} {L : cp_Lay} {D D' : cp_Dt} {ls : Array Slot} {H0 : Heap}
theorem cp_last (hx : p.tables.exec = Jvm.exec) (hb : c.code = cc) (hK : va_K G vwCl (cp_tys L) s) (hJ : cp_J L) (hP : va_P G vwCl (cp_ws L D) H) (hS : va_S (cp_A L) H0 H locs) {k : Nat} {i x : Int32} (hv : cp_aS L D 3 k i x = some D') (hdg : decode cc pc = .ok (.lastore, 1))
    (kk : ∀ (H1 : Heap) (locs1 : List Loc), va_P G vwCl (cp_ws L D') H1 → va_S (cp_A L) H0 H1 locs1 → W p l e R s m args below meth c H1 locs1 cells slots Q (F0 m (pc + 1) ls rest)) : W p l e R s m args below meth c H locs cells slots Q (F0 m pc ls (.long x.toInt64 :: .int i :: .ref (L.2.1 k) :: rest)) := by
  obtain ⟨a, h1, h2⟩ := cp_bind hv
  obtain ⟨h3, h5⟩ := cp_in h2
  cases h5
  have h4 : (cp_ws L D).set k (L.2.1 k, .inl (L.2.2.2 3, a.1, .inr (.inl (vp_updL (fun i => (D k i).toInt64) i.toNatClampNeg x.toInt64)))) = cp_ws L (cp_up D k i.toNatClampNeg x) := by
    refine cp_ws_set ?_ (fun j hj => cp_up_ne hj)
    unfold cp_ce
    rw [(cp_ar_spec h1).2, cp_up_eq]
    show Sum.inl (L.2.2.2 3, (a.1, Sum.inr (Sum.inl (fun j => (upd (D k) i.toNatClampNeg x j).toInt64)))) = _
    have : (fun j => (upd (D k) i.toNatClampNeg x j).toInt64) = vp_updL (fun i => (D k i).toInt64) i.toNatClampNeg x.toInt64 := by
      funext j
      by_cases hj : j = i.toNatClampNeg
      · simp [upd, vp_updL, hj]
      · simp [upd, vp_updL, hj]
    rw [this]
  exact va_last hx hb hK hP (cp_D hJ D) hS k 3 (cp_cell3 h1) rfl h3 hdg (fun H1 locs1 p1 _ s1 => kk H1 locs1 (h4 ▸ p1) s1)
theorem cp_lald (hx : p.tables.exec = Jvm.exec) (hb : c.code = cc) (hK : va_K G vwCl (cp_tys L) s) (hP : va_P G vwCl (cp_ws L D) H) {k : Nat} {i v : Int32} (hv : cp_aI L D 3 k i = some v) (hdg : decode cc pc = .ok (.laload, 1))
    (kk : W p l e R s m args below meth c H locs cells slots Q (F0 m (pc + 1) ls (.long v.toInt64 :: rest))) : W p l e R s m args below meth c H locs cells slots Q (F0 m pc ls (.int i :: .ref (L.2.1 k) :: rest)) := by
  obtain ⟨a, h1, h2⟩ := cp_bind hv
  obtain ⟨h3, h5⟩ := cp_in h2
  cases h5
  exact va_lald hx hb hK hP k 3 (cp_cell3 h1) rfl h3 hdg kk
theorem hq_iret (hx : p.tables.exec = Jvm.exec) (hb : c.code = cc) (hr : meth.sig.returnType = some .int) (hlocks : meth.locks = false) {v : Int32} {res : Int32 × cp_Dt} (hF : some (v, D) = some res) (hP : va_P G vwCl (cp_ws L D) H) (hS : va_S (cp_A L) s.heap H locs) (hdg : decode cc pc = .ok (.ireturn, 1)) : W p l e R s m args below meth c H locs 1 6 (MQ below (cp_Q G L res.2 (some (.int res.1))) args s 1 6 (cp_A L)) (F0 m pc ls [.int v]) := by
  cases hF
  exact W.iret hx hb hr (fun t ht _ => ⟨⟨rfl, by rw [ht]; exact hP⟩, hS.F ht⟩) hS.2.2 hdg hlocks
theorem cx_to1 (S : CallFix p m c cc nL s args Ts own) (hM : cx_Met l G y ws rm L av D D' X) (cw : CallW R s args own C index y bytes maxL ret ws rm 1 6 n) (hp : PreV s H C b (va_Pc av (cx_Pre G L D)) As)
    (hn : As.length = n) (hsize : ls.size = nL) (hst : st0 = As.reverse ++ .ref b :: rest) (hW : 2 * (F0 m pc ls st0).monitorRoom + (rest.map fun v => v.category).sum ≤ 8) (hdg : decode cc pc = .ok (.invokevirtual index, 3)) (hf : cells + 1 ≤ R.cells ∧ slots + 6 ≤ R.slots) (hS : va_S (cp_A L) s.heap H locs)
    {a1 a2 a3 a4 : Nat} {tl : List (Nat × Nat × Nat × Nat)} (htab : c.exceptionTable.toList.map (fun h => (h.startPc, h.endPc, h.handlerPc, h.catchType)) = (a1, a2, a3, a4) :: tl) (hcv : a1 ≤ pc ∧ pc < a2) (h0 : a4 ≠ 0) (hl : (Cond.classLink own a4 X).before args s = true)
    (kk : ∀ (q : Nat) (H1 : Heap), va_P G vwCl (cp_ws L D') H1 → va_S (cp_A L) s.heap H1 locs → W p l e R s m args below meth c H1 locs (cells + 1) (slots + 6) Q (F0 m a3 ls [.ref q])) : W p l e R s m args below meth c H locs cells slots Q (F0 m pc ls st0) := by
  intro T hT X0
  obtain ⟨q, ce, T', X', hce, hcv1, hcc, hca, hPt, ⟨hz, hk⟩, st⟩ := cx_run S hM cw hp (g := F0 m pc ls st0) rfl hn hsize hst hW hdg hf T hT X0
  obtain ⟨hx, hb, hml, ho, -⟩ := S
  cases htl : c.exceptionTable.toList with
  | nil => rw [htl] at htab; cases htab
  | cons x rt =>
    rw [htl, List.map_cons] at htab
    injection htab with hx1 hx2
    injection hx1 with e1 hx1
    injection hx1 with e2 hx1
    injection hx1 with e3 e4
    subst e1 e2 e3 e4
    obtain ⟨vm', X2, st2⟩ := cx_catch1 X' ho hl htl (g := { (F0 m pc ls st0) with stack := rest }) rfl (by simp [covers, hcv]) h0 hce (by rw [hcv1]; rfl) hcc hca
    obtain ⟨t, t1, t2⟩ := kk q T'.heap hPt ⟨Nat.le_trans hS.1 hz, fun r h1 h2 => by rw [hk r (Nat.lt_of_lt_of_le h1 hS.1) h2]; exact hS.2.1 r h1 h2, hS.2.2⟩ (T'.setVm vm') rfl X2
    exact ⟨t, st t (st2 t t1), t2⟩
theorem cx_to2 {N1 : String} (S : CallFix p m c cc nL s args Ts own) (hM : cx_Met l G y ws rm L av D D' X) (cw : CallW R s args own C index y bytes maxL ret ws rm 1 6 n) (hp : PreV s H C b (va_Pc av (cx_Pre G L D)) As)
    (hn : As.length = n) (hsize : ls.size = nL) (hst : st0 = As.reverse ++ .ref b :: rest) (hW : 2 * (F0 m pc ls st0).monitorRoom + (rest.map fun v => v.category).sum ≤ 8) (hdg : decode cc pc = .ok (.invokevirtual index, 3)) (hf : cells + 1 ≤ R.cells ∧ slots + 6 ≤ R.slots) (hS : va_S (cp_A L) s.heap H locs)
    {a1 a2 a3 a4 b1 b2 b3 b4 : Nat} {tl : List (Nat × Nat × Nat × Nat)} (htab : c.exceptionTable.toList.map (fun h => (h.startPc, h.endPc, h.handlerPc, h.catchType)) = (a1, a2, a3, a4) :: (b1, b2, b3, b4) :: tl) (hcv : a1 ≤ pc ∧ pc < a2) (hcv' : b1 ≤ pc ∧ pc < b2) (h0 : a4 ≠ 0) (h0' : b4 ≠ 0) (hl1 : (Cond.classLink own a4 N1).before args s = true) (hl : (Cond.classLink own b4 X).before args s = true)
    (hfN : ∃ c1, s.vm.findClass N1 = some c1) (hno : ∀ c1 c2 : ClassId, s.vm.findClass X = some c1 → s.vm.findClass N1 = some c2 → s.vm.assignable c1 c2 = false)
    (kk : ∀ (q : Nat) (H1 : Heap), va_P G vwCl (cp_ws L D') H1 → va_S (cp_A L) s.heap H1 locs → W p l e R s m args below meth c H1 locs (cells + 1) (slots + 6) Q (F0 m b3 ls [.ref q])) : W p l e R s m args below meth c H locs cells slots Q (F0 m pc ls st0) := by
  intro T hT X0
  obtain ⟨q, ce, T', X', hce, hcv1, hcc, hca, hPt, ⟨hz, hk⟩, st⟩ := cx_run S hM cw hp (g := F0 m pc ls st0) rfl hn hsize hst hW hdg hf T hT X0
  obtain ⟨hx, hb, hml, ho, -⟩ := S
  obtain ⟨c1, hc1⟩ := hfN
  cases htl : c.exceptionTable.toList with
  | nil => rw [htl] at htab; cases htab
  | cons x rt =>
    cases hrt : rt with
    | nil => rw [htl, hrt] at htab; cases htab
    | cons x2 rt2 =>
      rw [htl, hrt, List.map_cons, List.map_cons] at htab
      injection htab with hx1 hx2
      injection hx2 with hy1 hy2
      injection hx1 with e1 hx1
      injection hx1 with e2 hx1
      injection hx1 with e3 e4
      injection hy1 with f1 hy1
      injection hy1 with f2 hy1
      injection hy1 with f3 f4
      subst e1 e2 e3 e4 f1 f2 f3 f4
      obtain ⟨vm', X2, st2⟩ := cx_catch2 X' ho hl1 hl (htl.trans (by rw [hrt])) (g := { (F0 m pc ls st0) with stack := rest }) rfl (by simp [covers, hcv]) h0 (by simp [covers, hcv']) h0' hce (by rw [hcv1]; rfl) hc1 hcc (hno _ _ hcc hc1) hca
      obtain ⟨t, t1, t2⟩ := kk q T'.heap hPt ⟨Nat.le_trans hS.1 hz, fun r h1 h2 => by rw [hk r (Nat.lt_of_lt_of_le h1 hS.1) h2]; exact hS.2.1 r h1 h2, hS.2.2⟩ (T'.setVm vm') rfl X2
      exact ⟨t, st t (st2 t t1), t2⟩
/-- a method with handlers: its table -/
theorem hq_tab {hh : List (Nat × Nat × Nat × Nat)} {s₁ : State} {S : Spec} (B : BodyLoose p l y S bytes maxL ret e s m args below meth c s₁) (h : (Cond.codeWith y bytes maxL ret hh).before args s = true) : c.exceptionTable.toList.map (fun h => (h.startPc, h.endPc, h.handlerPc, h.catchType)) = hh := by
  obtain ⟨m9, meth9, c9, hn9, hm9, hc9, -, -, ht9, -⟩ := Cond.codeWith_spec h
  cases B.named.symm.trans hn9
  cases B.method.symm.trans hm9
  cases (Stand.of_body B).code.symm.trans hc9
  exact ht9
end HQ
theorem hq_fc {C : String} {args : Array Value} {s : State} (h : (Cond.initialized C).before args s = true) : ∃ c1, s.vm.findClass C = some c1 := by
  simp only [Cond.before, Cond.holds, Cond.value] at h
  cases hc : s.vm.findClass C with
  | none => simp [hc] at h
  | some c => exact ⟨c, rfl⟩
theorem dL_animal_0 : decode cL_animal 0 = .ok (.aload 5, 2) := by decide +kernel
theorem dL_animal_2 : decode cL_animal 2 = .ok (.iconst 0, 1) := by decide +kernel
theorem dL_animal_3 : decode cL_animal 3 = .ok (.aload_n 0, 1) := by decide +kernel
theorem dL_animal_4 : decode cL_animal 4 = .ok (.iload_n 1, 1) := by decide +kernel
theorem dL_animal_5 : decode cL_animal 5 = .ok (.iload_n 2, 1) := by decide +kernel
theorem dL_animal_6 : decode cL_animal 6 = .ok (.iload_n 3, 1) := by decide +kernel
theorem dL_animal_7 : decode cL_animal 7 = .ok (.iload 4, 2) := by decide +kernel
theorem dL_animal_9 : decode cL_animal 9 = .ok (.invokevirtual 7, 3) := by decide +kernel
theorem dL_animal_12 : decode cL_animal 12 = .ok (.i2l, 1) := by decide +kernel
theorem dL_animal_13 : decode cL_animal 13 = .ok (.lastore, 1) := by decide +kernel
theorem dL_animal_14 : decode cL_animal 14 = .ok (.goto 11, 3) := by decide +kernel
theorem dL_animal_17 : decode cL_animal 17 = .ok (.astore 6, 2) := by decide +kernel
theorem dL_animal_19 : decode cL_animal 19 = .ok (.iconst 1, 1) := by decide +kernel
theorem dL_animal_20 : decode cL_animal 20 = .ok (.ireturn, 1) := by decide +kernel
theorem dL_animal_21 : decode cL_animal 21 = .ok (.astore 6, 2) := by decide +kernel
theorem dL_animal_23 : decode cL_animal 23 = .ok (.iconst 2, 1) := by decide +kernel
theorem dL_animal_24 : decode cL_animal 24 = .ok (.ireturn, 1) := by decide +kernel
theorem dL_animal_25 : decode cL_animal 25 = .ok (.iconst 0, 1) := by decide +kernel
theorem dL_animal_26 : decode cL_animal 26 = .ok (.ireturn, 1) := by decide +kernel
def wqL_animal : List Cond := .codeWith yL_animal cL_animal 7 (some .int) [(0, 14, 17, 13), (0, 14, 21, 15)] :: cp_T
def hx_L_animal (L : cp_Lay) (q : Nat) (k1 : Nat) (x2 : Int32) (x3 : Int32) (x4 : Int32) (x5 : Int32) (k6 : Nat) (D : cp_Dt) : Option (Int32 × cp_Dt) := match tx_X0_animal L q k1 x2 x3 x4 x5 D with
  | some t => (cp_fl L k1 0).bind fun _ => if t.1 = 1 then some (1, t.2) else if t.1 = 2 then some (2, t.2) else none
  | none =>
    (cp_fl L k1 0).bind fun f1 =>
    (fn_X0_animal L q k1 x2 x3 x4 x5 D).bind fun y2 =>
    (cp_aS L y2.2 3 k6 (0 : Int32) y2.1).bind fun D3 =>
    some ((0 : Int32), D3)
set_option maxHeartbeats 4000000 in
set_option maxRecDepth 100000 in
theorem hc_L_animal (l : Launch) (hst : l.stackTraces = false) (G : va_G) (L : cp_Lay) (hJ : cp_J L) (q : Nat) (k1 : Nat) (x2 : Int32) (x3 : Int32) (x4 : Int32) (x5 : Int32) (k6 : Nat) (D : cp_Dt) (res : Int32 × cp_Dt) (hF : hx_L_animal L q k1 x2 x3 x4 x5 k6 D = some res) : hq_Met l G yL_animal wqL_animal ({ frames := 7, cells := 1, slots := 6, locals := 126 }) L ([.ref (L.2.1 k1), .int x2, .int x3, .int x4, .int x5, .ref (L.2.1 k6)] : List Value) D res.2 (some (.int res.1)) := by
  refine va_MetW (cc := cL_animal) (maxL := 7) (ret := some .int) (hh := [(0, 14, 17, 13), (0, 14, 21, 15)]) (by decide) rfl ?_
  intro p e s m args below meth c s₁ B hml hv
  obtain ⟨rfl, ⟨⟨hP, hK, hN, hZ⟩, hE⟩, hNC⟩ := hv
  have hx := B.exec
  have hb := B.bytes
  have hr := B.returns
  have hts := atoms_spec (ws := wqL_animal) B.pre
  have htab := hq_tab B (hts _ List.mem_cons_self)
  have hown : s.vm.findClass "CreaturePondLaw" = some m.cls := findClass_of_methodNamed B.named
  have hlocks := B.notSynchronized
  have hS : va_S (cp_A L) s.heap s.heap [] := va_S.rf
  have htT : ∀ w ∈ cp_T, w.before ([.ref (L.2.1 k1), .int x2, .int x3, .int x4, .int x5, .ref (L.2.1 k6)] : List Value).toArray s = true := fun w h => hts w (List.mem_cons_of_mem _ h)
  have hl := lv_entry (([.ref (L.2.1 k1), .int x2, .int x3, .int x4, .int x5, .ref (L.2.1 k6)] : List Value)) (n := 7) (Nat.le_of_ble_eq_true rfl)
  rw [lg_entry_eq]
  generalize (lg_sl (([.ref (L.2.1 k1), .int x2, .int x3, .int x4, .int x5, .ref (L.2.1 k6)] : List Value)) ++ List.replicate (7 - (lg_sl (([.ref (L.2.1 k1), .int x2, .int x3, .int x4, .int x5, .ref (L.2.1 k6)] : List Value))).length) Slot.unset).toArray = ls at hl ⊢
  have hl : lv_has ls 7 [(0, .ref (L.2.1 k1)), (1, .int x2), (2, .int x3), (3, .int x4), (4, .int x5), (5, .ref (L.2.1 k6))] := hl
  unfold hx_L_animal at hF
  cases htx : tx_X0_animal L q k1 x2 x3 x4 x5 D with
  | some t =>
    rw [htx] at hF
    dsimp only at hF
    obtain ⟨f, ef, hF⟩ := cp_bind hF
    refine lv_aload hx hb dL_animal_0 (lv_at hl 5 rfl) ?_
    refine lv_iconst (v := (0 : Int32)) hx hb dL_animal_2 (by decide) ?_
    refine lv_aload_n hx hb dL_animal_3 rfl (lv_at hl 0 rfl) ?_
    refine lv_iload_n hx hb dL_animal_4 rfl (lv_at hl 1 rfl) ?_
    refine lv_iload_n hx hb dL_animal_5 rfl (lv_at hl 2 rfl) ?_
    refine lv_iload_n hx hb dL_animal_6 rfl (lv_at hl 3 rfl) ?_
    refine lv_iload hx hb dL_animal_7 (lv_at hl 4 rfl) ?_
    have hM := cxt_X0_animal l hst G L hJ q k1 x2 x3 x4 x5 D t htx
    by_cases hk1 : t.1 = 1
    · rw [if_pos hk1] at hF
      rw [show cx_nm t.1 = "java/lang/IllegalArgumentException" by rw [hk1]; rfl] at hM
      refine cx_to1 (As := [.int x2, .int x3, .int x4, .int x5]) (rest := [.int (0 : Int32), .ref (L.2.1 k6)]) ⟨hx, hb, hml, hown, htT⟩ hM ⟨callB_of 4 htT gdX0_animal rfl rfl rfl (htT _ tw_1) (htT _ tw_205) hdX0_animal ⟨Nat.le_of_ble_eq_true rfl, Nat.le_of_ble_eq_true rfl⟩, (htT _ tw_206), (htT _ tw_207)⟩ ⟨cx_blind, cp_recv hK hP rfl ef, cx_pre hP hK hN hZ hE hS⟩ rfl hl.1 rfl (lv_room (Nat.le_of_ble_eq_true rfl)) dL_animal_9 ⟨Nat.le_of_ble_eq_true rfl, Nat.le_of_ble_eq_true rfl⟩ hS htab ⟨by decide, by decide⟩ (by decide) (htT _ tw_203) (fun qx H hP hS => ?_)
      refine lv_astore (lv' := [(6, .ref qx), (0, .ref (L.2.1 k1)), (1, .int x2), (2, .int x3), (3, .int x4), (4, .int x5), (5, .ref (L.2.1 k6))]) hx hb dL_animal_17 hl (by decide) rfl (fun ls hl => ?_)
      refine lv_iconst (v := (1 : Int32)) hx hb dL_animal_19 (by decide) ?_
      exact hq_iret hx hb hr hlocks hF hP hS dL_animal_20
    · rw [if_neg hk1] at hF
      by_cases hk2 : t.1 = 2
      · rw [if_pos hk2] at hF
        rw [show cx_nm t.1 = "java/lang/IllegalStateException" by rw [hk2]; rfl] at hM
        refine cx_to2 (N1 := "java/lang/IllegalArgumentException") (As := [.int x2, .int x3, .int x4, .int x5]) (rest := [.int (0 : Int32), .ref (L.2.1 k6)]) ⟨hx, hb, hml, hown, htT⟩ hM ⟨callB_of 4 htT gdX0_animal rfl rfl rfl (htT _ tw_1) (htT _ tw_205) hdX0_animal ⟨Nat.le_of_ble_eq_true rfl, Nat.le_of_ble_eq_true rfl⟩, (htT _ tw_206), (htT _ tw_207)⟩ ⟨cx_blind, cp_recv hK hP rfl ef, cx_pre hP hK hN hZ hE hS⟩ rfl hl.1 rfl (lv_room (Nat.le_of_ble_eq_true rfl)) dL_animal_9 ⟨Nat.le_of_ble_eq_true rfl, Nat.le_of_ble_eq_true rfl⟩ hS htab ⟨by decide, by decide⟩ ⟨by decide, by decide⟩ (by decide) (by decide) (htT _ tw_203) (htT _ tw_204) (hq_fc (htT _ tw_12)) hNC (fun qx H hP hS => ?_)
        refine lv_astore (lv' := [(6, .ref qx), (0, .ref (L.2.1 k1)), (1, .int x2), (2, .int x3), (3, .int x4), (4, .int x5), (5, .ref (L.2.1 k6))]) hx hb dL_animal_21 hl (by decide) rfl (fun ls hl => ?_)
        refine lv_iconst (v := (2 : Int32)) hx hb dL_animal_23 (by decide) ?_
        exact hq_iret hx hb hr hlocks hF hP hS dL_animal_24
      · rw [if_neg hk2] at hF
        cases hF
  | none =>
    rw [htx] at hF
    dsimp only at hF
    refine W.widen (k := 1) (n := 6) (Nat.zero_le _) (Nat.zero_le _) ?_
    refine lv_aload hx hb dL_animal_0 (lv_at hl 5 rfl) ?_
    refine lv_iconst (v := (0 : Int32)) hx hb dL_animal_2 (by decide) ?_
    refine lv_aload_n hx hb dL_animal_3 rfl (lv_at hl 0 rfl) ?_
    refine lv_iload_n hx hb dL_animal_4 rfl (lv_at hl 1 rfl) ?_
    refine lv_iload_n hx hb dL_animal_5 rfl (lv_at hl 2 rfl) ?_
    refine lv_iload_n hx hb dL_animal_6 rfl (lv_at hl 3 rfl) ?_
    refine lv_iload hx hb dL_animal_7 (lv_at hl 4 rfl) ?_
    obtain ⟨f1, ef1, hF⟩ := cp_bind hF
    obtain ⟨y2, ey2, hF⟩ := cp_bind hF
    refine cp_call (st1 := [.int y2.1, .int (0 : Int32), .ref (L.2.1 k6)]) (va_runV (As := [.int x2, .int x3, .int x4, .int x5]) (rest := [.int (0 : Int32), .ref (L.2.1 k6)]) ⟨hx, hb, hml, hown, htT⟩ (ct_X0_animal l G L hJ q k1 x2 x3 x4 x5 D y2 ey2) ⟨callB_of 4 htT gdX0_animal rfl rfl rfl (htT _ tw_1) (htT _ tw_205) hdX0_animal ⟨Nat.le_of_ble_eq_true rfl, Nat.le_of_ble_eq_true rfl⟩, (htT _ tw_206), (htT _ tw_207)⟩ ⟨cp_blind, cp_recv hK hP rfl ef1, cp_pre hP hK hN hZ hS⟩ rfl rfl hl.1 rfl (lv_room (Nat.le_of_ble_eq_true rfl)) dL_animal_9 ⟨Nat.le_of_ble_eq_true rfl, Nat.le_of_ble_eq_true rfl⟩) hS (fun H locs hP hS => ?_)
    refine lv_i2l hx hb dL_animal_12 rfl ?_
    obtain ⟨D3, eD3, hF⟩ := cp_bind hF
    refine cp_last hx hb hK hJ hP hS eD3 dL_animal_13 (fun H locs hP hS => ?_)
    refine lv_goto (tgt := 25) hx hb dL_animal_14 (by decide) ?_
    refine lv_iconst (v := (0 : Int32)) hx hb dL_animal_25 (by decide) ?_
    exact hq_iret hx hb hr hlocks hF hP hS dL_animal_26
theorem dL_code_0 : decode cL_code 0 = .ok (.aload 5, 2) := by decide +kernel
theorem dL_code_2 : decode cL_code 2 = .ok (.iconst 0, 1) := by decide +kernel
theorem dL_code_3 : decode cL_code 3 = .ok (.aload_n 0, 1) := by decide +kernel
theorem dL_code_4 : decode cL_code 4 = .ok (.iload_n 1, 1) := by decide +kernel
theorem dL_code_5 : decode cL_code 5 = .ok (.iload_n 2, 1) := by decide +kernel
theorem dL_code_6 : decode cL_code 6 = .ok (.lload_n 3, 1) := by decide +kernel
theorem dL_code_7 : decode cL_code 7 = .ok (.invokevirtual 17, 3) := by decide +kernel
theorem dL_code_10 : decode cL_code 10 = .ok (.i2l, 1) := by decide +kernel
theorem dL_code_11 : decode cL_code 11 = .ok (.lastore, 1) := by decide +kernel
theorem dL_code_12 : decode cL_code 12 = .ok (.goto 11, 3) := by decide +kernel
theorem dL_code_15 : decode cL_code 15 = .ok (.astore 6, 2) := by decide +kernel
theorem dL_code_17 : decode cL_code 17 = .ok (.iconst 1, 1) := by decide +kernel
theorem dL_code_18 : decode cL_code 18 = .ok (.ireturn, 1) := by decide +kernel
theorem dL_code_19 : decode cL_code 19 = .ok (.astore 6, 2) := by decide +kernel
theorem dL_code_21 : decode cL_code 21 = .ok (.iconst 2, 1) := by decide +kernel
theorem dL_code_22 : decode cL_code 22 = .ok (.ireturn, 1) := by decide +kernel
theorem dL_code_23 : decode cL_code 23 = .ok (.iconst 0, 1) := by decide +kernel
theorem dL_code_24 : decode cL_code 24 = .ok (.ireturn, 1) := by decide +kernel
def wqL_code : List Cond := .codeWith yL_code cL_code 7 (some .int) [(0, 12, 15, 13), (0, 12, 19, 15)] :: cp_T
def hx_L_code (L : cp_Lay) (q : Nat) (k1 : Nat) (x2 : Int32) (x3 : Int32) (x4 : Int64) (k5 : Nat) (D : cp_Dt) : Option (Int32 × cp_Dt) := match tx_X0_code L q k1 x2 x3 x4 D with
  | some t => (cp_fl L k1 0).bind fun _ => if t.1 = 1 then some (1, t.2) else if t.1 = 2 then some (2, t.2) else none
  | none =>
    (cp_fl L k1 0).bind fun f1 =>
    (fn_X0_code L q k1 x2 x3 x4 D).bind fun y2 =>
    (cp_aS L y2.2 3 k5 (0 : Int32) y2.1).bind fun D3 =>
    some ((0 : Int32), D3)
set_option maxHeartbeats 4000000 in
set_option maxRecDepth 100000 in
theorem hc_L_code (l : Launch) (hst : l.stackTraces = false) (G : va_G) (L : cp_Lay) (hJ : cp_J L) (q : Nat) (k1 : Nat) (x2 : Int32) (x3 : Int32) (x4 : Int64) (k5 : Nat) (D : cp_Dt) (res : Int32 × cp_Dt) (hF : hx_L_code L q k1 x2 x3 x4 k5 D = some res) : hq_Met l G yL_code wqL_code ({ frames := 7, cells := 1, slots := 6, locals := 126 }) L ([.ref (L.2.1 k1), .int x2, .int x3, .long x4, .ref (L.2.1 k5)] : List Value) D res.2 (some (.int res.1)) := by
  refine va_MetW (cc := cL_code) (maxL := 7) (ret := some .int) (hh := [(0, 12, 15, 13), (0, 12, 19, 15)]) (by decide) rfl ?_
  intro p e s m args below meth c s₁ B hml hv
  obtain ⟨rfl, ⟨⟨hP, hK, hN, hZ⟩, hE⟩, hNC⟩ := hv
  have hx := B.exec
  have hb := B.bytes
  have hr := B.returns
  have hts := atoms_spec (ws := wqL_code) B.pre
  have htab := hq_tab B (hts _ List.mem_cons_self)
  have hown : s.vm.findClass "CreaturePondLaw" = some m.cls := findClass_of_methodNamed B.named
  have hlocks := B.notSynchronized
  have hS : va_S (cp_A L) s.heap s.heap [] := va_S.rf
  have htT : ∀ w ∈ cp_T, w.before ([.ref (L.2.1 k1), .int x2, .int x3, .long x4, .ref (L.2.1 k5)] : List Value).toArray s = true := fun w h => hts w (List.mem_cons_of_mem _ h)
  have hl := lv_entry (([.ref (L.2.1 k1), .int x2, .int x3, .long x4, .ref (L.2.1 k5)] : List Value)) (n := 7) (Nat.le_of_ble_eq_true rfl)
  rw [lg_entry_eq]
  generalize (lg_sl (([.ref (L.2.1 k1), .int x2, .int x3, .long x4, .ref (L.2.1 k5)] : List Value)) ++ List.replicate (7 - (lg_sl (([.ref (L.2.1 k1), .int x2, .int x3, .long x4, .ref (L.2.1 k5)] : List Value))).length) Slot.unset).toArray = ls at hl ⊢
  have hl : lv_has ls 7 [(0, .ref (L.2.1 k1)), (1, .int x2), (2, .int x3), (3, .long x4), (5, .ref (L.2.1 k5))] := hl
  unfold hx_L_code at hF
  cases htx : tx_X0_code L q k1 x2 x3 x4 D with
  | some t =>
    rw [htx] at hF
    dsimp only at hF
    obtain ⟨f, ef, hF⟩ := cp_bind hF
    refine lv_aload hx hb dL_code_0 (lv_at hl 4 rfl) ?_
    refine lv_iconst (v := (0 : Int32)) hx hb dL_code_2 (by decide) ?_
    refine lv_aload_n hx hb dL_code_3 rfl (lv_at hl 0 rfl) ?_
    refine lv_iload_n hx hb dL_code_4 rfl (lv_at hl 1 rfl) ?_
    refine lv_iload_n hx hb dL_code_5 rfl (lv_at hl 2 rfl) ?_
    refine lv_lload_n hx hb dL_code_6 rfl (lv_at hl 3 rfl) ?_
    have hM := cxt_X0_code l hst G L hJ q k1 x2 x3 x4 D t htx
    by_cases hk1 : t.1 = 1
    · rw [if_pos hk1] at hF
      rw [show cx_nm t.1 = "java/lang/IllegalArgumentException" by rw [hk1]; rfl] at hM
      refine cx_to1 (As := [.int x2, .int x3, .long x4]) (rest := [.int (0 : Int32), .ref (L.2.1 k5)]) ⟨hx, hb, hml, hown, htT⟩ hM ⟨callB_of 3 htT gdX0_code rfl rfl rfl (htT _ tw_1) (htT _ tw_247) hdX0_code ⟨Nat.le_of_ble_eq_true rfl, Nat.le_of_ble_eq_true rfl⟩, (htT _ tw_248), (htT _ tw_249)⟩ ⟨cx_blind, cp_recv hK hP rfl ef, cx_pre hP hK hN hZ hE hS⟩ rfl hl.1 rfl (lv_room (Nat.le_of_ble_eq_true rfl)) dL_code_7 ⟨Nat.le_of_ble_eq_true rfl, Nat.le_of_ble_eq_true rfl⟩ hS htab ⟨by decide, by decide⟩ (by decide) (htT _ tw_203) (fun qx H hP hS => ?_)
      refine lv_astore (lv' := [(6, .ref qx), (0, .ref (L.2.1 k1)), (1, .int x2), (2, .int x3), (3, .long x4), (5, .ref (L.2.1 k5))]) hx hb dL_code_15 hl (by decide) rfl (fun ls hl => ?_)
      refine lv_iconst (v := (1 : Int32)) hx hb dL_code_17 (by decide) ?_
      exact hq_iret hx hb hr hlocks hF hP hS dL_code_18
    · rw [if_neg hk1] at hF
      by_cases hk2 : t.1 = 2
      · rw [if_pos hk2] at hF
        rw [show cx_nm t.1 = "java/lang/IllegalStateException" by rw [hk2]; rfl] at hM
        refine cx_to2 (N1 := "java/lang/IllegalArgumentException") (As := [.int x2, .int x3, .long x4]) (rest := [.int (0 : Int32), .ref (L.2.1 k5)]) ⟨hx, hb, hml, hown, htT⟩ hM ⟨callB_of 3 htT gdX0_code rfl rfl rfl (htT _ tw_1) (htT _ tw_247) hdX0_code ⟨Nat.le_of_ble_eq_true rfl, Nat.le_of_ble_eq_true rfl⟩, (htT _ tw_248), (htT _ tw_249)⟩ ⟨cx_blind, cp_recv hK hP rfl ef, cx_pre hP hK hN hZ hE hS⟩ rfl hl.1 rfl (lv_room (Nat.le_of_ble_eq_true rfl)) dL_code_7 ⟨Nat.le_of_ble_eq_true rfl, Nat.le_of_ble_eq_true rfl⟩ hS htab ⟨by decide, by decide⟩ ⟨by decide, by decide⟩ (by decide) (by decide) (htT _ tw_203) (htT _ tw_204) (hq_fc (htT _ tw_12)) hNC (fun qx H hP hS => ?_)
        refine lv_astore (lv' := [(6, .ref qx), (0, .ref (L.2.1 k1)), (1, .int x2), (2, .int x3), (3, .long x4), (5, .ref (L.2.1 k5))]) hx hb dL_code_19 hl (by decide) rfl (fun ls hl => ?_)
        refine lv_iconst (v := (2 : Int32)) hx hb dL_code_21 (by decide) ?_
        exact hq_iret hx hb hr hlocks hF hP hS dL_code_22
      · rw [if_neg hk2] at hF
        cases hF
  | none =>
    rw [htx] at hF
    dsimp only at hF
    refine W.widen (k := 1) (n := 6) (Nat.zero_le _) (Nat.zero_le _) ?_
    refine lv_aload hx hb dL_code_0 (lv_at hl 4 rfl) ?_
    refine lv_iconst (v := (0 : Int32)) hx hb dL_code_2 (by decide) ?_
    refine lv_aload_n hx hb dL_code_3 rfl (lv_at hl 0 rfl) ?_
    refine lv_iload_n hx hb dL_code_4 rfl (lv_at hl 1 rfl) ?_
    refine lv_iload_n hx hb dL_code_5 rfl (lv_at hl 2 rfl) ?_
    refine lv_lload_n hx hb dL_code_6 rfl (lv_at hl 3 rfl) ?_
    obtain ⟨f1, ef1, hF⟩ := cp_bind hF
    obtain ⟨y2, ey2, hF⟩ := cp_bind hF
    refine cp_call (st1 := [.int y2.1, .int (0 : Int32), .ref (L.2.1 k5)]) (va_runV (As := [.int x2, .int x3, .long x4]) (rest := [.int (0 : Int32), .ref (L.2.1 k5)]) ⟨hx, hb, hml, hown, htT⟩ (ct_X0_code l G L hJ q k1 x2 x3 x4 D y2 ey2) ⟨callB_of 3 htT gdX0_code rfl rfl rfl (htT _ tw_1) (htT _ tw_247) hdX0_code ⟨Nat.le_of_ble_eq_true rfl, Nat.le_of_ble_eq_true rfl⟩, (htT _ tw_248), (htT _ tw_249)⟩ ⟨cp_blind, cp_recv hK hP rfl ef1, cp_pre hP hK hN hZ hS⟩ rfl rfl hl.1 rfl (lv_room (Nat.le_of_ble_eq_true rfl)) dL_code_7 ⟨Nat.le_of_ble_eq_true rfl, Nat.le_of_ble_eq_true rfl⟩) hS (fun H locs hP hS => ?_)
    refine lv_i2l hx hb dL_code_10 rfl ?_
    obtain ⟨D3, eD3, hF⟩ := cp_bind hF
    refine cp_last hx hb hK hJ hP hS eD3 dL_code_11 (fun H locs hP hS => ?_)
    refine lv_goto (tgt := 23) hx hb dL_code_12 (by decide) ?_
    refine lv_iconst (v := (0 : Int32)) hx hb dL_code_23 (by decide) ?_
    exact hq_iret hx hb hr hlocks hF hP hS dL_code_24
theorem dL_tick_0 : decode cL_tick 0 = .ok (.aload_n 2, 1) := by decide +kernel
theorem dL_tick_1 : decode cL_tick 1 = .ok (.iconst 0, 1) := by decide +kernel
theorem dL_tick_2 : decode cL_tick 2 = .ok (.aload_n 0, 1) := by decide +kernel
theorem dL_tick_3 : decode cL_tick 3 = .ok (.iload_n 1, 1) := by decide +kernel
theorem dL_tick_4 : decode cL_tick 4 = .ok (.invokevirtual 21, 3) := by decide +kernel
theorem dL_tick_7 : decode cL_tick 7 = .ok (.i2l, 1) := by decide +kernel
theorem dL_tick_8 : decode cL_tick 8 = .ok (.lastore, 1) := by decide +kernel
theorem dL_tick_9 : decode cL_tick 9 = .ok (.goto 6, 3) := by decide +kernel
theorem dL_tick_12 : decode cL_tick 12 = .ok (.astore_n 3, 1) := by decide +kernel
theorem dL_tick_13 : decode cL_tick 13 = .ok (.iconst 1, 1) := by decide +kernel
theorem dL_tick_14 : decode cL_tick 14 = .ok (.ireturn, 1) := by decide +kernel
theorem dL_tick_15 : decode cL_tick 15 = .ok (.iconst 0, 1) := by decide +kernel
theorem dL_tick_16 : decode cL_tick 16 = .ok (.ireturn, 1) := by decide +kernel
def wqL_tick : List Cond := .codeWith yL_tick cL_tick 4 (some .int) [(0, 9, 12, 13)] :: cp_T
def hx_L_tick (L : cp_Lay) (q : Nat) (k1 : Nat) (x2 : Int32) (k3 : Nat) (D : cp_Dt) : Option (Int32 × cp_Dt) := match tx_X0_tick L q k1 x2 D with
  | some t => (cp_fl L k1 0).bind fun _ => if t.1 = 1 then some (1, t.2) else none
  | none =>
    (cp_fl L k1 0).bind fun f1 =>
    (fn_X0_tick L q k1 x2 D).bind fun y2 =>
    (cp_aS L y2.2 3 k3 (0 : Int32) y2.1).bind fun D3 =>
    some ((0 : Int32), D3)
set_option maxHeartbeats 4000000 in
set_option maxRecDepth 100000 in
theorem hc_L_tick (l : Launch) (hst : l.stackTraces = false) (G : va_G) (L : cp_Lay) (hJ : cp_J L) (q : Nat) (k1 : Nat) (x2 : Int32) (k3 : Nat) (D : cp_Dt) (res : Int32 × cp_Dt) (hF : hx_L_tick L q k1 x2 k3 D = some res) : hq_Met l G yL_tick wqL_tick ({ frames := 7, cells := 1, slots := 6, locals := 161 }) L ([.ref (L.2.1 k1), .int x2, .ref (L.2.1 k3)] : List Value) D res.2 (some (.int res.1)) := by
  refine va_MetW (cc := cL_tick) (maxL := 4) (ret := some .int) (hh := [(0, 9, 12, 13)]) (by decide) rfl ?_
  intro p e s m args below meth c s₁ B hml hv
  obtain ⟨rfl, ⟨⟨hP, hK, hN, hZ⟩, hE⟩, hNC⟩ := hv
  have hx := B.exec
  have hb := B.bytes
  have hr := B.returns
  have hts := atoms_spec (ws := wqL_tick) B.pre
  have htab := hq_tab B (hts _ List.mem_cons_self)
  have hown : s.vm.findClass "CreaturePondLaw" = some m.cls := findClass_of_methodNamed B.named
  have hlocks := B.notSynchronized
  have hS : va_S (cp_A L) s.heap s.heap [] := va_S.rf
  have htT : ∀ w ∈ cp_T, w.before ([.ref (L.2.1 k1), .int x2, .ref (L.2.1 k3)] : List Value).toArray s = true := fun w h => hts w (List.mem_cons_of_mem _ h)
  have hl := lv_entry (([.ref (L.2.1 k1), .int x2, .ref (L.2.1 k3)] : List Value)) (n := 4) (Nat.le_of_ble_eq_true rfl)
  rw [lg_entry_eq]
  generalize (lg_sl (([.ref (L.2.1 k1), .int x2, .ref (L.2.1 k3)] : List Value)) ++ List.replicate (4 - (lg_sl (([.ref (L.2.1 k1), .int x2, .ref (L.2.1 k3)] : List Value))).length) Slot.unset).toArray = ls at hl ⊢
  have hl : lv_has ls 4 [(0, .ref (L.2.1 k1)), (1, .int x2), (2, .ref (L.2.1 k3))] := hl
  unfold hx_L_tick at hF
  cases htx : tx_X0_tick L q k1 x2 D with
  | some t =>
    rw [htx] at hF
    dsimp only at hF
    obtain ⟨f, ef, hF⟩ := cp_bind hF
    refine lv_aload_n hx hb dL_tick_0 rfl (lv_at hl 2 rfl) ?_
    refine lv_iconst (v := (0 : Int32)) hx hb dL_tick_1 (by decide) ?_
    refine lv_aload_n hx hb dL_tick_2 rfl (lv_at hl 0 rfl) ?_
    refine lv_iload_n hx hb dL_tick_3 rfl (lv_at hl 1 rfl) ?_
    have hM := cxt_X0_tick l hst G L hJ q k1 x2 D t htx
    by_cases hk1 : t.1 = 1
    · rw [if_pos hk1] at hF
      rw [show cx_nm t.1 = "java/lang/IllegalArgumentException" by rw [hk1]; rfl] at hM
      refine cx_to1 (As := [.int x2]) (rest := [.int (0 : Int32), .ref (L.2.1 k3)]) ⟨hx, hb, hml, hown, htT⟩ hM ⟨callB_of 1 htT gdX0_tick rfl rfl rfl (htT _ tw_1) (htT _ tw_255) hdX0_tick ⟨Nat.le_of_ble_eq_true rfl, Nat.le_of_ble_eq_true rfl⟩, (htT _ tw_256), (htT _ tw_257)⟩ ⟨cx_blind, cp_recv hK hP rfl ef, cx_pre hP hK hN hZ hE hS⟩ rfl hl.1 rfl (lv_room (Nat.le_of_ble_eq_true rfl)) dL_tick_4 ⟨Nat.le_of_ble_eq_true rfl, Nat.le_of_ble_eq_true rfl⟩ hS htab ⟨by decide, by decide⟩ (by decide) (htT _ tw_203) (fun qx H hP hS => ?_)
      refine lv_astore_n (lv' := [(3, .ref qx), (0, .ref (L.2.1 k1)), (1, .int x2), (2, .ref (L.2.1 k3))]) hx hb dL_tick_12 rfl hl (by decide) rfl (fun ls hl => ?_)
      refine lv_iconst (v := (1 : Int32)) hx hb dL_tick_13 (by decide) ?_
      exact hq_iret hx hb hr hlocks hF hP hS dL_tick_14
    · rw [if_neg hk1] at hF
      cases hF
  | none =>
    rw [htx] at hF
    dsimp only at hF
    refine W.widen (k := 1) (n := 6) (Nat.zero_le _) (Nat.zero_le _) ?_
    refine lv_aload_n hx hb dL_tick_0 rfl (lv_at hl 2 rfl) ?_
    refine lv_iconst (v := (0 : Int32)) hx hb dL_tick_1 (by decide) ?_
    refine lv_aload_n hx hb dL_tick_2 rfl (lv_at hl 0 rfl) ?_
    refine lv_iload_n hx hb dL_tick_3 rfl (lv_at hl 1 rfl) ?_
    obtain ⟨f1, ef1, hF⟩ := cp_bind hF
    obtain ⟨y2, ey2, hF⟩ := cp_bind hF
    refine cp_call (st1 := [.int y2.1, .int (0 : Int32), .ref (L.2.1 k3)]) (va_runV (As := [.int x2]) (rest := [.int (0 : Int32), .ref (L.2.1 k3)]) ⟨hx, hb, hml, hown, htT⟩ (ct_X0_tick l G L hJ q k1 x2 D y2 ey2) ⟨callB_of 1 htT gdX0_tick rfl rfl rfl (htT _ tw_1) (htT _ tw_255) hdX0_tick ⟨Nat.le_of_ble_eq_true rfl, Nat.le_of_ble_eq_true rfl⟩, (htT _ tw_256), (htT _ tw_257)⟩ ⟨cp_blind, cp_recv hK hP rfl ef1, cp_pre hP hK hN hZ hS⟩ rfl rfl hl.1 rfl (lv_room (Nat.le_of_ble_eq_true rfl)) dL_tick_4 ⟨Nat.le_of_ble_eq_true rfl, Nat.le_of_ble_eq_true rfl⟩) hS (fun H locs hP hS => ?_)
    refine lv_i2l hx hb dL_tick_7 rfl ?_
    obtain ⟨D3, eD3, hF⟩ := cp_bind hF
    refine cp_last hx hb hK hJ hP hS eD3 dL_tick_8 (fun H locs hP hS => ?_)
    refine lv_goto (tgt := 15) hx hb dL_tick_9 (by decide) ?_
    refine lv_iconst (v := (0 : Int32)) hx hb dL_tick_15 (by decide) ?_
    exact hq_iret hx hb hr hlocks hF hP hS dL_tick_16
theorem dL_inner_0 : decode cL_inner 0 = .ok (.aload 4, 2) := by decide +kernel
theorem dL_inner_2 : decode cL_inner 2 = .ok (.iconst 0, 1) := by decide +kernel
theorem dL_inner_3 : decode cL_inner 3 = .ok (.aload_n 0, 1) := by decide +kernel
theorem dL_inner_4 : decode cL_inner 4 = .ok (.iload_n 1, 1) := by decide +kernel
theorem dL_inner_5 : decode cL_inner 5 = .ok (.iload_n 2, 1) := by decide +kernel
theorem dL_inner_6 : decode cL_inner 6 = .ok (.iload_n 3, 1) := by decide +kernel
theorem dL_inner_7 : decode cL_inner 7 = .ok (.invokevirtual 25, 3) := by decide +kernel
theorem dL_inner_10 : decode cL_inner 10 = .ok (.i2l, 1) := by decide +kernel
theorem dL_inner_11 : decode cL_inner 11 = .ok (.lastore, 1) := by decide +kernel
theorem dL_inner_12 : decode cL_inner 12 = .ok (.goto 7, 3) := by decide +kernel
theorem dL_inner_15 : decode cL_inner 15 = .ok (.astore 5, 2) := by decide +kernel
theorem dL_inner_17 : decode cL_inner 17 = .ok (.iconst 1, 1) := by decide +kernel
theorem dL_inner_18 : decode cL_inner 18 = .ok (.ireturn, 1) := by decide +kernel
theorem dL_inner_19 : decode cL_inner 19 = .ok (.iconst 0, 1) := by decide +kernel
theorem dL_inner_20 : decode cL_inner 20 = .ok (.ireturn, 1) := by decide +kernel
def wqL_inner : List Cond := .codeWith yL_inner cL_inner 6 (some .int) [(0, 12, 15, 29)] :: cp_T
def hx_L_inner (L : cp_Lay) (q : Nat) (k1 : Nat) (x2 : Int32) (x3 : Int32) (x4 : Int32) (k5 : Nat) (D : cp_Dt) : Option (Int32 × cp_Dt) := match tx_X0_inner L q k1 x2 x3 x4 D with
  | some t => (cp_fl L k1 0).bind fun _ => if t.1 = 3 then some (1, t.2) else none
  | none =>
    (cp_fl L k1 0).bind fun f1 =>
    (fn_X0_inner L q k1 x2 x3 x4 D).bind fun y2 =>
    (cp_aS L y2.2 3 k5 (0 : Int32) y2.1).bind fun D3 =>
    some ((0 : Int32), D3)
set_option maxHeartbeats 4000000 in
set_option maxRecDepth 100000 in
theorem hc_L_inner (l : Launch) (hst : l.stackTraces = false) (G : va_G) (L : cp_Lay) (hJ : cp_J L) (q : Nat) (k1 : Nat) (x2 : Int32) (x3 : Int32) (x4 : Int32) (k5 : Nat) (D : cp_Dt) (res : Int32 × cp_Dt) (hF : hx_L_inner L q k1 x2 x3 x4 k5 D = some res) : hq_Met l G yL_inner wqL_inner ({ frames := 7, cells := 1, slots := 6, locals := 125 }) L ([.ref (L.2.1 k1), .int x2, .int x3, .int x4, .ref (L.2.1 k5)] : List Value) D res.2 (some (.int res.1)) := by
  refine va_MetW (cc := cL_inner) (maxL := 6) (ret := some .int) (hh := [(0, 12, 15, 29)]) (by decide) rfl ?_
  intro p e s m args below meth c s₁ B hml hv
  obtain ⟨rfl, ⟨⟨hP, hK, hN, hZ⟩, hE⟩, hNC⟩ := hv
  have hx := B.exec
  have hb := B.bytes
  have hr := B.returns
  have hts := atoms_spec (ws := wqL_inner) B.pre
  have htab := hq_tab B (hts _ List.mem_cons_self)
  have hown : s.vm.findClass "CreaturePondLaw" = some m.cls := findClass_of_methodNamed B.named
  have hlocks := B.notSynchronized
  have hS : va_S (cp_A L) s.heap s.heap [] := va_S.rf
  have htT : ∀ w ∈ cp_T, w.before ([.ref (L.2.1 k1), .int x2, .int x3, .int x4, .ref (L.2.1 k5)] : List Value).toArray s = true := fun w h => hts w (List.mem_cons_of_mem _ h)
  have hl := lv_entry (([.ref (L.2.1 k1), .int x2, .int x3, .int x4, .ref (L.2.1 k5)] : List Value)) (n := 6) (Nat.le_of_ble_eq_true rfl)
  rw [lg_entry_eq]
  generalize (lg_sl (([.ref (L.2.1 k1), .int x2, .int x3, .int x4, .ref (L.2.1 k5)] : List Value)) ++ List.replicate (6 - (lg_sl (([.ref (L.2.1 k1), .int x2, .int x3, .int x4, .ref (L.2.1 k5)] : List Value))).length) Slot.unset).toArray = ls at hl ⊢
  have hl : lv_has ls 6 [(0, .ref (L.2.1 k1)), (1, .int x2), (2, .int x3), (3, .int x4), (4, .ref (L.2.1 k5))] := hl
  unfold hx_L_inner at hF
  cases htx : tx_X0_inner L q k1 x2 x3 x4 D with
  | some t =>
    rw [htx] at hF
    dsimp only at hF
    obtain ⟨f, ef, hF⟩ := cp_bind hF
    refine lv_aload hx hb dL_inner_0 (lv_at hl 4 rfl) ?_
    refine lv_iconst (v := (0 : Int32)) hx hb dL_inner_2 (by decide) ?_
    refine lv_aload_n hx hb dL_inner_3 rfl (lv_at hl 0 rfl) ?_
    refine lv_iload_n hx hb dL_inner_4 rfl (lv_at hl 1 rfl) ?_
    refine lv_iload_n hx hb dL_inner_5 rfl (lv_at hl 2 rfl) ?_
    refine lv_iload_n hx hb dL_inner_6 rfl (lv_at hl 3 rfl) ?_
    have hM := cxt_X0_inner l hst G L hJ q k1 x2 x3 x4 D t htx
    by_cases hk3 : t.1 = 3
    · rw [if_pos hk3] at hF
      rw [show cx_nm t.1 = "java/lang/IndexOutOfBoundsException" by rw [hk3]; rfl] at hM
      refine cx_to1 (As := [.int x2, .int x3, .int x4]) (rest := [.int (0 : Int32), .ref (L.2.1 k5)]) ⟨hx, hb, hml, hown, htT⟩ hM ⟨callB_of 3 htT gdX0_inner rfl rfl rfl (htT _ tw_1) (htT _ tw_346) hdX0_inner ⟨Nat.le_of_ble_eq_true rfl, Nat.le_of_ble_eq_true rfl⟩, (htT _ tw_347), (htT _ tw_348)⟩ ⟨cx_blind, cp_recv hK hP rfl ef, cx_pre hP hK hN hZ hE hS⟩ rfl hl.1 rfl (lv_room (Nat.le_of_ble_eq_true rfl)) dL_inner_7 ⟨Nat.le_of_ble_eq_true rfl, Nat.le_of_ble_eq_true rfl⟩ hS htab ⟨by decide, by decide⟩ (by decide) (htT _ tw_345) (fun qx H hP hS => ?_)
      refine lv_astore (lv' := [(5, .ref qx), (0, .ref (L.2.1 k1)), (1, .int x2), (2, .int x3), (3, .int x4), (4, .ref (L.2.1 k5))]) hx hb dL_inner_15 hl (by decide) rfl (fun ls hl => ?_)
      refine lv_iconst (v := (1 : Int32)) hx hb dL_inner_17 (by decide) ?_
      exact hq_iret hx hb hr hlocks hF hP hS dL_inner_18
    · rw [if_neg hk3] at hF
      cases hF
  | none =>
    rw [htx] at hF
    dsimp only at hF
    refine W.widen (k := 1) (n := 6) (Nat.zero_le _) (Nat.zero_le _) ?_
    refine lv_aload hx hb dL_inner_0 (lv_at hl 4 rfl) ?_
    refine lv_iconst (v := (0 : Int32)) hx hb dL_inner_2 (by decide) ?_
    refine lv_aload_n hx hb dL_inner_3 rfl (lv_at hl 0 rfl) ?_
    refine lv_iload_n hx hb dL_inner_4 rfl (lv_at hl 1 rfl) ?_
    refine lv_iload_n hx hb dL_inner_5 rfl (lv_at hl 2 rfl) ?_
    refine lv_iload_n hx hb dL_inner_6 rfl (lv_at hl 3 rfl) ?_
    obtain ⟨f1, ef1, hF⟩ := cp_bind hF
    obtain ⟨y2, ey2, hF⟩ := cp_bind hF
    refine cp_call (st1 := [.int y2.1, .int (0 : Int32), .ref (L.2.1 k5)]) (va_runV (As := [.int x2, .int x3, .int x4]) (rest := [.int (0 : Int32), .ref (L.2.1 k5)]) ⟨hx, hb, hml, hown, htT⟩ (ct_X0_inner l G L hJ q k1 x2 x3 x4 D y2 ey2) ⟨callB_of 3 htT gdX0_inner rfl rfl rfl (htT _ tw_1) (htT _ tw_346) hdX0_inner ⟨Nat.le_of_ble_eq_true rfl, Nat.le_of_ble_eq_true rfl⟩, (htT _ tw_347), (htT _ tw_348)⟩ ⟨cp_blind, cp_recv hK hP rfl ef1, cp_pre hP hK hN hZ hS⟩ rfl rfl hl.1 rfl (lv_room (Nat.le_of_ble_eq_true rfl)) dL_inner_7 ⟨Nat.le_of_ble_eq_true rfl, Nat.le_of_ble_eq_true rfl⟩) hS (fun H locs hP hS => ?_)
    refine lv_i2l hx hb dL_inner_10 rfl ?_
    obtain ⟨D3, eD3, hF⟩ := cp_bind hF
    refine cp_last hx hb hK hJ hP hS eD3 dL_inner_11 (fun H locs hP hS => ?_)
    refine lv_goto (tgt := 19) hx hb dL_inner_12 (by decide) ?_
    refine lv_iconst (v := (0 : Int32)) hx hb dL_inner_19 (by decide) ?_
    exact hq_iret hx hb hr hlocks hF hP hS dL_inner_20
theorem dL_differ_0 : decode cL_differ 0 = .ok (.aload_n 1, 1) := by decide +kernel
theorem dL_differ_1 : decode cL_differ 1 = .ok (.iconst 0, 1) := by decide +kernel
theorem dL_differ_2 : decode cL_differ 2 = .ok (.aload_n 0, 1) := by decide +kernel
theorem dL_differ_3 : decode cL_differ 3 = .ok (.invokevirtual 31, 3) := by decide +kernel
theorem dL_differ_6 : decode cL_differ 6 = .ok (.i2l, 1) := by decide +kernel
theorem dL_differ_7 : decode cL_differ 7 = .ok (.lastore, 1) := by decide +kernel
theorem dL_differ_8 : decode cL_differ 8 = .ok (.goto 6, 3) := by decide +kernel
theorem dL_differ_11 : decode cL_differ 11 = .ok (.astore_n 2, 1) := by decide +kernel
theorem dL_differ_12 : decode cL_differ 12 = .ok (.iconst 1, 1) := by decide +kernel
theorem dL_differ_13 : decode cL_differ 13 = .ok (.ireturn, 1) := by decide +kernel
theorem dL_differ_14 : decode cL_differ 14 = .ok (.iconst 0, 1) := by decide +kernel
theorem dL_differ_15 : decode cL_differ 15 = .ok (.ireturn, 1) := by decide +kernel
def wqL_differ : List Cond := .codeWith yL_differ cL_differ 3 (some .int) [(0, 8, 11, 15)] :: cp_T
def hx_L_differ (L : cp_Lay) (q : Nat) (k1 : Nat) (k2 : Nat) (D : cp_Dt) : Option (Int32 × cp_Dt) := match tx_X0_differ L q k1 D with
  | some t => (cp_fl L k1 0).bind fun _ => if t.1 = 2 then some (1, t.2) else none
  | none =>
    (cp_fl L k1 0).bind fun f1 =>
    (fn_X0_differ L q k1 D).bind fun y2 =>
    (cp_aS L y2.2 3 k2 (0 : Int32) y2.1).bind fun D3 =>
    some ((0 : Int32), D3)
set_option maxHeartbeats 4000000 in
set_option maxRecDepth 100000 in
theorem hc_L_differ (l : Launch) (hst : l.stackTraces = false) (G : va_G) (L : cp_Lay) (hJ : cp_J L) (q : Nat) (k1 : Nat) (k2 : Nat) (D : cp_Dt) (res : Int32 × cp_Dt) (hF : hx_L_differ L q k1 k2 D = some res) : hq_Met l G yL_differ wqL_differ ({ frames := 7, cells := 1, slots := 6, locals := 120 }) L ([.ref (L.2.1 k1), .ref (L.2.1 k2)] : List Value) D res.2 (some (.int res.1)) := by
  refine va_MetW (cc := cL_differ) (maxL := 3) (ret := some .int) (hh := [(0, 8, 11, 15)]) (by decide) rfl ?_
  intro p e s m args below meth c s₁ B hml hv
  obtain ⟨rfl, ⟨⟨hP, hK, hN, hZ⟩, hE⟩, hNC⟩ := hv
  have hx := B.exec
  have hb := B.bytes
  have hr := B.returns
  have hts := atoms_spec (ws := wqL_differ) B.pre
  have htab := hq_tab B (hts _ List.mem_cons_self)
  have hown : s.vm.findClass "CreaturePondLaw" = some m.cls := findClass_of_methodNamed B.named
  have hlocks := B.notSynchronized
  have hS : va_S (cp_A L) s.heap s.heap [] := va_S.rf
  have htT : ∀ w ∈ cp_T, w.before ([.ref (L.2.1 k1), .ref (L.2.1 k2)] : List Value).toArray s = true := fun w h => hts w (List.mem_cons_of_mem _ h)
  have hl := lv_entry (([.ref (L.2.1 k1), .ref (L.2.1 k2)] : List Value)) (n := 3) (Nat.le_of_ble_eq_true rfl)
  rw [lg_entry_eq]
  generalize (lg_sl (([.ref (L.2.1 k1), .ref (L.2.1 k2)] : List Value)) ++ List.replicate (3 - (lg_sl (([.ref (L.2.1 k1), .ref (L.2.1 k2)] : List Value))).length) Slot.unset).toArray = ls at hl ⊢
  have hl : lv_has ls 3 [(0, .ref (L.2.1 k1)), (1, .ref (L.2.1 k2))] := hl
  unfold hx_L_differ at hF
  cases htx : tx_X0_differ L q k1 D with
  | some t =>
    rw [htx] at hF
    dsimp only at hF
    obtain ⟨f, ef, hF⟩ := cp_bind hF
    refine lv_aload_n hx hb dL_differ_0 rfl (lv_at hl 1 rfl) ?_
    refine lv_iconst (v := (0 : Int32)) hx hb dL_differ_1 (by decide) ?_
    refine lv_aload_n hx hb dL_differ_2 rfl (lv_at hl 0 rfl) ?_
    have hM := cxt_X0_differ l hst G L hJ q k1 D t htx
    by_cases hk2 : t.1 = 2
    · rw [if_pos hk2] at hF
      rw [show cx_nm t.1 = "java/lang/IllegalStateException" by rw [hk2]; rfl] at hM
      refine cx_to1 (As := []) (rest := [.int (0 : Int32), .ref (L.2.1 k2)]) ⟨hx, hb, hml, hown, htT⟩ hM ⟨callB_of 0 htT gdX0_differ rfl rfl rfl (htT _ tw_1) (htT _ tw_360) hdX0_differ ⟨Nat.le_of_ble_eq_true rfl, Nat.le_of_ble_eq_true rfl⟩, (htT _ tw_361), (htT _ tw_362)⟩ ⟨cx_blind, cp_recv hK hP rfl ef, cx_pre hP hK hN hZ hE hS⟩ rfl hl.1 rfl (lv_room (Nat.le_of_ble_eq_true rfl)) dL_differ_3 ⟨Nat.le_of_ble_eq_true rfl, Nat.le_of_ble_eq_true rfl⟩ hS htab ⟨by decide, by decide⟩ (by decide) (htT _ tw_204) (fun qx H hP hS => ?_)
      refine lv_astore_n (lv' := [(2, .ref qx), (0, .ref (L.2.1 k1)), (1, .ref (L.2.1 k2))]) hx hb dL_differ_11 rfl hl (by decide) rfl (fun ls hl => ?_)
      refine lv_iconst (v := (1 : Int32)) hx hb dL_differ_12 (by decide) ?_
      exact hq_iret hx hb hr hlocks hF hP hS dL_differ_13
    · rw [if_neg hk2] at hF
      cases hF
  | none =>
    rw [htx] at hF
    dsimp only at hF
    refine W.widen (k := 1) (n := 6) (Nat.zero_le _) (Nat.zero_le _) ?_
    refine lv_aload_n hx hb dL_differ_0 rfl (lv_at hl 1 rfl) ?_
    refine lv_iconst (v := (0 : Int32)) hx hb dL_differ_1 (by decide) ?_
    refine lv_aload_n hx hb dL_differ_2 rfl (lv_at hl 0 rfl) ?_
    obtain ⟨f1, ef1, hF⟩ := cp_bind hF
    obtain ⟨y2, ey2, hF⟩ := cp_bind hF
    refine cp_call (st1 := [.int y2.1, .int (0 : Int32), .ref (L.2.1 k2)]) (va_runV (As := []) (rest := [.int (0 : Int32), .ref (L.2.1 k2)]) ⟨hx, hb, hml, hown, htT⟩ (ct_X0_differ l G L hJ q k1 D y2 ey2) ⟨callB_of 0 htT gdX0_differ rfl rfl rfl (htT _ tw_1) (htT _ tw_360) hdX0_differ ⟨Nat.le_of_ble_eq_true rfl, Nat.le_of_ble_eq_true rfl⟩, (htT _ tw_361), (htT _ tw_362)⟩ ⟨cp_blind, cp_recv hK hP rfl ef1, cp_pre hP hK hN hZ hS⟩ rfl rfl hl.1 rfl (lv_room (Nat.le_of_ble_eq_true rfl)) dL_differ_3 ⟨Nat.le_of_ble_eq_true rfl, Nat.le_of_ble_eq_true rfl⟩) hS (fun H locs hP hS => ?_)
    refine lv_i2l hx hb dL_differ_6 rfl ?_
    obtain ⟨D3, eD3, hF⟩ := cp_bind hF
    refine cp_last hx hb hK hJ hP hS eD3 dL_differ_7 (fun H locs hP hS => ?_)
    refine lv_goto (tgt := 14) hx hb dL_differ_8 (by decide) ?_
    refine lv_iconst (v := (0 : Int32)) hx hb dL_differ_14 (by decide) ?_
    exact hq_iret hx hb hr hlocks hF hP hS dL_differ_15
