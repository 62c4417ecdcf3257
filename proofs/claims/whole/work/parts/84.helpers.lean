/-! The law's helpers: rows -/
def cx_NC (U : State) : Prop := ∀ c1 c2 : ClassId, U.vm.findClass "java/lang/IllegalStateException" = some c1 → U.vm.findClass "java/lang/IllegalArgumentException" = some c2 → U.vm.assignable c1 c2 = false
theorem cx_NC.moved {u U : State} (hvm : u.vm.Alike U.vm) (h : cx_NC u) : cx_NC U := by
  intro c1 c2 h1 h2
  rw [hvm.findClass] at h1 h2
  rw [hvm.assignable]
  exact h c1 c2 h1 h2
def hq_Pre (G : va_G) (L : cp_Lay) (D : cp_Dt) (U : State) : Prop := cx_Pre G L D U ∧ cx_NC U
def hq_Met (l : Launch) (G : va_G) (y : MethodName) (ws : List Cond) (rm : Room) (L : cp_Lay) (av : List Value) (D D' : cp_Dt) (rv : Option Value) : Prop := Met l y ws rm (va_Pc av (hq_Pre G L D)) (cp_Q G L D' rv) 1 6 (cp_A L)
theorem hq_blind {G : va_G} {L : cp_Lay} {D : cp_Dt} {av : List Value} : FrameBlind (va_Pc av (hq_Pre G L D)) := by
  intro a U g mk h
  obtain ⟨h0, h1, h2⟩ := h
  exact ⟨h0, (cx_blind (av := av) a U g mk ⟨h0, h1⟩).2, cx_NC.moved (u := U) (U := U.calling g mk a) (Vm.Alike.refl U.vm) h2⟩
theorem hq_pre {G : va_G} {L : cp_Lay} {D : cp_Dt} {av : List Value} {s : State} {H : Heap} {locs : List Loc} (hP : va_P G vwCl (cp_ws L D) H) (hK : va_K G vwCl (cp_tys L) s) (hN : cp_N cp_nw s) (hZ : cp_Z (cp_A L) s s.heap) (hE : cx_E (cp_A L) s s.heap) (hNC : cx_NC s) (hS : va_S (cp_A L) s.heap H locs) : ∀ U : State, U.heap = H → s.WarmedH U.vm → va_Pc av (hq_Pre G L D) av.toArray U := fun U hU hW => ⟨rfl, (cx_pre (av := av) hP hK hN hZ hE hS U hU hW).2, hNC.moved hW.alike⟩
section HQ
variable {p : Program} {l : Launch} {e : Env} {R : Room} {s : State} {m : MethodId} {args : Array Value} {below : List Frame} {meth : Method} {c : Code} {H : Heap} {locs : List Loc} {cells slots : Nat} {Q : State → Prop}
variable {y : MethodName} {bytes cc : ByteArray} {maxL nL n index pc : Nat} {ret : Option FieldType} {ws ws' : List Cond} {rm : Room} {Ts : List Cond} {own C X : String} {b : Addr} {As rest av st0 : List Value} {g : JFrame} {G : va_G} {L : cp_Lay} {D D' : cp_Dt} {ls : Array Slot} {H0 : Heap}
theorem cp_last (hx : p.tables.exec = Jvm.exec) (hb : c.code = cc) (hK : va_K G vwCl (cp_tys L) s) (hJ : cp_J L) (hP : va_P G vwCl (cp_ws L D) H) (hS : va_S (cp_A L) H0 H locs) {k : Nat} {i x : Int32} (hv : cp_aS L D 3 k i x = some D') (hdg : decode cc pc = .ok (.lastore, 1))
    (kk : ∀ (H1 : Heap) (locs1 : List Loc), va_P G vwCl (cp_ws L D') H1 → va_S (cp_A L) H0 H1 locs1 → W p l e R s m args below meth c H1 locs1 cells slots Q (F0 m (pc + 1) ls rest)) : W p l e R s m args below meth c H locs cells slots Q (F0 m pc ls (.long x.toInt64 :: .int i :: .ref (L.2.1 k) :: rest)) := by
  obtain ⟨a, h1, h2⟩ := cp_bind hv
  obtain ⟨h3, h5⟩ := cp_in h2
  cases h5
  have h4 : (cp_ws L D).set k (L.2.1 k, .inl (L.2.2.2 3, a.1, .inr (.inl (vp_updL (fun i => (D k i).toInt64) i.toNatClampNeg x.toInt64)))) = cp_ws L (cp_up D k i.toNatClampNeg x) := by
    refine cp_ws_set ?_ (fun j hj => cp_up_ne hj)
    unfold cp_ce
    rw [(cp_ar_spec h1).2, cp_up_eq]
    show Sum.inl (L.2.2.2 3, (a.1, Sum.inr (Sum.inl (fun j => (upd (D k) i.toNatClampNeg x j).toInt64)))) = _
    have : (fun j => (upd (D k) i.toNatClampNeg x j).toInt64) = vp_updL (fun i => (D k i).toInt64) i.toNatClampNeg x.toInt64 := by
      funext j
      by_cases hj : j = i.toNatClampNeg
      · simp [upd, vp_updL, hj]
      · simp [upd, vp_updL, hj]
    rw [this]
  exact va_last hx hb hK hP (cp_D hJ D) hS k 3 (cp_cell3 h1) rfl h3 hdg (fun H1 locs1 p1 _ s1 => kk H1 locs1 (h4 ▸ p1) s1)
theorem cp_lald (hx : p.tables.exec = Jvm.exec) (hb : c.code = cc) (hK : va_K G vwCl (cp_tys L) s) (hP : va_P G vwCl (cp_ws L D) H) {k : Nat} {i v : Int32} (hv : cp_aI L D 3 k i = some v) (hdg : decode cc pc = .ok (.laload, 1))
    (kk : W p l e R s m args below meth c H locs cells slots Q (F0 m (pc + 1) ls (.long v.toInt64 :: rest))) : W p l e R s m args below meth c H locs cells slots Q (F0 m pc ls (.int i :: .ref (L.2.1 k) :: rest)) := by
  obtain ⟨a, h1, h2⟩ := cp_bind hv
  obtain ⟨h3, h5⟩ := cp_in h2
  cases h5
  exact va_lald hx hb hK hP k 3 (cp_cell3 h1) rfl h3 hdg kk
theorem hq_iret (hx : p.tables.exec = Jvm.exec) (hb : c.code = cc) (hr : meth.sig.returnType = some .int) (hlocks : meth.locks = false) {v : Int32} {res : Int32 × cp_Dt} (hF : some (v, D) = some res) (hP : va_P G vwCl (cp_ws L D) H) (hS : va_S (cp_A L) s.heap H locs) (hdg : decode cc pc = .ok (.ireturn, 1)) : W p l e R s m args below meth c H locs 1 6 (MQ below (cp_Q G L res.2 (some (.int res.1))) args s 1 6 (cp_A L)) (F0 m pc ls [.int v]) := by
  cases hF
  exact W.iret hx hb hr (fun t ht _ => ⟨⟨rfl, by rw [ht]; exact hP⟩, hS.F ht⟩) hS.2.2 hdg hlocks
theorem cx_to1 (S : CallFix p m c cc nL s args Ts own) (hM : cx_Met l G y ws rm L av D D' X) (cw : CallW R s args own C index y bytes maxL ret ws rm 1 6 n) (hp : PreV s H C b (va_Pc av (cx_Pre G L D)) As)
    (hn : As.length = n) (hsize : ls.size = nL) (hst : st0 = As.reverse ++ .ref b :: rest) (hW : 2 * (F0 m pc ls st0).monitorRoom + (rest.map fun v => v.category).sum ≤ 8) (hdg : decode cc pc = .ok (.invokevirtual index, 3)) (hf : cells + 1 ≤ R.cells ∧ slots + 6 ≤ R.slots) (hS : va_S (cp_A L) s.heap H locs)
    {a1 a2 a3 a4 : Nat} {tl : List (Nat × Nat × Nat × Nat)} (htab : c.exceptionTable.toList.map (fun h => (h.startPc, h.endPc, h.handlerPc, h.catchType)) = (a1, a2, a3, a4) :: tl) (hcv : a1 ≤ pc ∧ pc < a2) (h0 : a4 ≠ 0) (hl : (Cond.classLink own a4 X).before args s = true)
    (kk : ∀ (q : Nat) (H1 : Heap), va_P G vwCl (cp_ws L D') H1 → va_S (cp_A L) s.heap H1 locs → W p l e R s m args below meth c H1 locs (cells + 1) (slots + 6) Q (F0 m a3 ls [.ref q])) : W p l e R s m args below meth c H locs cells slots Q (F0 m pc ls st0) := by
  intro T hT X0
  obtain ⟨q, ce, T', X', hce, hcv1, hcc, hca, hPt, ⟨hz, hk⟩, st⟩ := cx_run S hM cw hp (g := F0 m pc ls st0) rfl hn hsize hst hW hdg hf T hT X0
  obtain ⟨hx, hb, hml, ho, -⟩ := S
  cases htl : c.exceptionTable.toList with
  | nil => rw [htl] at htab; cases htab
  | cons x rt =>
    rw [htl, List.map_cons] at htab
    injection htab with hx1 hx2
    injection hx1 with e1 hx1
    injection hx1 with e2 hx1
    injection hx1 with e3 e4
    subst e1 e2 e3 e4
    obtain ⟨vm', X2, st2⟩ := cx_catch1 X' ho hl htl (g := { (F0 m pc ls st0) with stack := rest }) rfl (by simp [covers, hcv]) h0 hce (by rw [hcv1]; rfl) hcc hca
    obtain ⟨t, t1, t2⟩ := kk q T'.heap hPt ⟨Nat.le_trans hS.1 hz, fun r h1 h2 => by rw [hk r (Nat.lt_of_lt_of_le h1 hS.1) h2]; exact hS.2.1 r h1 h2, hS.2.2⟩ (T'.setVm vm') rfl X2
    exact ⟨t, st t (st2 t t1), t2⟩
theorem cx_to2 {N1 : String} (S : CallFix p m c cc nL s args Ts own) (hM : cx_Met l G y ws rm L av D D' X) (cw : CallW R s args own C index y bytes maxL ret ws rm 1 6 n) (hp : PreV s H C b (va_Pc av (cx_Pre G L D)) As)
    (hn : As.length = n) (hsize : ls.size = nL) (hst : st0 = As.reverse ++ .ref b :: rest) (hW : 2 * (F0 m pc ls st0).monitorRoom + (rest.map fun v => v.category).sum ≤ 8) (hdg : decode cc pc = .ok (.invokevirtual index, 3)) (hf : cells + 1 ≤ R.cells ∧ slots + 6 ≤ R.slots) (hS : va_S (cp_A L) s.heap H locs)
    {a1 a2 a3 a4 b1 b2 b3 b4 : Nat} {tl : List (Nat × Nat × Nat × Nat)} (htab : c.exceptionTable.toList.map (fun h => (h.startPc, h.endPc, h.handlerPc, h.catchType)) = (a1, a2, a3, a4) :: (b1, b2, b3, b4) :: tl) (hcv : a1 ≤ pc ∧ pc < a2) (hcv' : b1 ≤ pc ∧ pc < b2) (h0 : a4 ≠ 0) (h0' : b4 ≠ 0) (hl1 : (Cond.classLink own a4 N1).before args s = true) (hl : (Cond.classLink own b4 X).before args s = true)
    (hfN : ∃ c1, s.vm.findClass N1 = some c1) (hno : ∀ c1 c2 : ClassId, s.vm.findClass X = some c1 → s.vm.findClass N1 = some c2 → s.vm.assignable c1 c2 = false)
    (kk : ∀ (q : Nat) (H1 : Heap), va_P G vwCl (cp_ws L D') H1 → va_S (cp_A L) s.heap H1 locs → W p l e R s m args below meth c H1 locs (cells + 1) (slots + 6) Q (F0 m b3 ls [.ref q])) : W p l e R s m args below meth c H locs cells slots Q (F0 m pc ls st0) := by
  intro T hT X0
  obtain ⟨q, ce, T', X', hce, hcv1, hcc, hca, hPt, ⟨hz, hk⟩, st⟩ := cx_run S hM cw hp (g := F0 m pc ls st0) rfl hn hsize hst hW hdg hf T hT X0
  obtain ⟨hx, hb, hml, ho, -⟩ := S
  obtain ⟨c1, hc1⟩ := hfN
  cases htl : c.exceptionTable.toList with
  | nil => rw [htl] at htab; cases htab
  | cons x rt =>
    cases hrt : rt with
    | nil => rw [htl, hrt] at htab; cases htab
    | cons x2 rt2 =>
      rw [htl, hrt, List.map_cons, List.map_cons] at htab
      injection htab with hx1 hx2
      injection hx2 with hy1 hy2
      injection hx1 with e1 hx1
      injection hx1 with e2 hx1
      injection hx1 with e3 e4
      injection hy1 with f1 hy1
      injection hy1 with f2 hy1
      injection hy1 with f3 f4
      subst e1 e2 e3 e4 f1 f2 f3 f4
      obtain ⟨vm', X2, st2⟩ := cx_catch2 X' ho hl1 hl (htl.trans (by rw [hrt])) (g := { (F0 m pc ls st0) with stack := rest }) rfl (by simp [covers, hcv]) h0 (by simp [covers, hcv']) h0' hce (by rw [hcv1]; rfl) hc1 hcc (hno _ _ hcc hc1) hca
      obtain ⟨t, t1, t2⟩ := kk q T'.heap hPt ⟨Nat.le_trans hS.1 hz, fun r h1 h2 => by rw [hk r (Nat.lt_of_lt_of_le h1 hS.1) h2]; exact hS.2.1 r h1 h2, hS.2.2⟩ (T'.setVm vm') rfl X2
      exact ⟨t, st t (st2 t t1), t2⟩
/-- a method with handlers: its table -/
theorem hq_tab {hh : List (Nat × Nat × Nat × Nat)} {s₁ : State} {S : Spec} (B : BodyLoose p l y S bytes maxL ret e s m args below meth c s₁) (h : (Cond.codeWith y bytes maxL ret hh).before args s = true) : c.exceptionTable.toList.map (fun h => (h.startPc, h.endPc, h.handlerPc, h.catchType)) = hh := by
  obtain ⟨m9, meth9, c9, hn9, hm9, hc9, -, -, ht9, -⟩ := Cond.codeWith_spec h
  cases B.named.symm.trans hn9
  cases B.method.symm.trans hm9
  cases (Stand.of_body B).code.symm.trans hc9
  exact ht9
end HQ
