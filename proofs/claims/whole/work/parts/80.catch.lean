/-! An exception caught by a clause whose class may not be resolved yet -/
theorem cx_go {e : Env} {s : State} {f : JFrame} {a : Addr} {x : ExceptionTableEntry} {t : List ExceptionTableEntry} {cl : ClassId} {cell : Cell} {vm' : Vm} {Q : Handler → Pre} {E : CtlPost} {d : Bool} {acts : List Action} (hx : covers x f.pc = true) (h0 : x.catchType ≠ 0)
    (hg : (Jvm.resolveClass f.method.cls x.catchType).Gives e.toSetting s.vm (.ok cl) vm') (hsz : vm'.classes.size ≤ s.vm.classes.size) (hcell : s.heap[a]? = some cell) (hobj : ∀ k, cell.vm ≠ .statics k)
    (hk : ∃ k, vm'.classes[cell.cls]? = some k) (hc : ∃ k, vm'.classes[cl]? = some k) :
    wp (findHandler.go f a (x :: t)) Q E e d acts s ↔ if vm'.assignable cell.cls cl = true then Q (.found x.handlerPc) d acts (s.setVm vm') else wp (findHandler.go f a t) Q E e d acts (s.setVm vm') := by
  simp only [covers] at hx
  obtain ⟨ha, ht⟩ := hg.op (op := VmOp.resolveClass f.method.cls x.catchType) rfl
  cases hfit : vm'.assignable cell.cls cl <;>
    simp [findHandler.go, hx, h0, ha, ht, hsz, hcell, hobj, hk, hc, hfit, VmOp.dirties, VmOp.acts]
/-- what the search gives, and the tables behind it -/
def cx_Finds (e : Env) (s : State) (f : JFrame) (a : Addr) (pc : Nat) (vm' : Vm) : Prop := ∀ (Q : Handler → Pre) (E : CtlPost) (d : Bool) (acts : List Action), wp (findHandler f a) Q E e d acts s ↔ Q (.found pc) d acts (s.setVm vm')
theorem cx_step {e : Env} {s : State} {a : Addr} {f : JFrame} {r : List Frame} {pc : Nat} {vm' : Vm} (hfind : cx_Finds e s f a pc vm') :
    (stepThrowing e s a (.java f :: r)).Is ((s.setVm vm').setFrames (.java { f with pc := pc, stack := [.ref a] } :: r)) [] := by
  simp only [stepThrowing, searchFrame, vmDo]
  generalize hr : Sem.go _ e false [] s = res
  obtain ⟨as, rfl, ha⟩ := Sem.eq_ok_of hr (a := Handler.found pc) (s' := s.setVm vm') (acts' := []) (by simp [hfind _ _ _ _])
  exact ⟨rfl, ha⟩
theorem cx_caught {tb : Tables} {e : Env} {s target : State} {g : JFrame} {c : Code} {below : List Frame} {a : Addr} (h : At s g.method c below) {pc : Nat} {vm' : Vm} (hfind : cx_Finds e ((s.setTop g).pushFrame (.throwing a)) g a pc vm')
    (hrest : Steps tb e below ((s.setVm vm').setTop { g with pc := pc, stack := [.ref a] }) target) : Steps tb e below ((s.setTop g).pushFrame (.throwing a)) target := by
  obtain ⟨hgo, hw⟩ := h.throwing a
  refine Steps.head hgo hw ?_
  rw [stepThread_throwing (frames_entered h.top _), (cx_step (s := (s.setTop g).pushFrame (.throwing a)) hfind).1]
  obtain ⟨g₀, hg⟩ := Option.isSome_iff_exists.mp h.top
  obtain ⟨r, hr⟩ := State.topJava?_eq_some.mp hg
  have hr' : (s.setVm vm').frames = .java g₀ :: r := hr
  rw [State.setTop_of_frames _ hr'] at hrest
  have e1 : (((s.setTop g).pushFrame (.throwing a)).setVm vm').setFrames (.java { g with pc := pc, stack := [.ref a] } :: s.frames.tail) = (s.setVm vm').setFrames (.java { g with pc := pc, stack := [.ref a] } :: r) := by
    rw [State.pushFrame, State.setTop_of_frames _ hr, State.setFrames_setFrames, hr]
    show (((s.setVm vm').setFrames _).setFrames _) = _
    rw [State.setFrames_setFrames]
    rfl
  rw [e1]
  exact hrest
section CXC
variable {p : Program} {l : Launch} {e : Env} {R : Room} {s : State} {m : MethodId} {args : Array Value} {below : List Frame} {meth : Method} {c : Code} {T : State} {locs : List Loc} {cells slots : Nat}
/-- a class entry that links: what its resolution gives from tables that are warmer than s's -/
theorem cx_links {own N1 : String} {ix : Nat} {cT : ClassId} (hpl : e.platform.magicAccessors = ({} : Platform).magicAccessors) (hown : s.vm.findClass own = some m.cls) (hl : (Cond.classLink own ix N1).before args s = true) (hcT : s.vm.findClass N1 = some cT) {vm : Vm} (hW : s.WarmedH vm) :
    (Jvm.resolveClass m.cls ix).Gives e.toSetting vm (.ok cT) (vm.noted m.cls ix (.cls cT)) ∧ s.WarmedH (vm.noted m.cls ix (.cls cT)) ∧ (vm.noted m.cls ix (.cls cT)).classes.size ≤ vm.classes.size ∧ ∃ k, (vm.noted m.cls ix (.cls cT)).classes[cT]? = some k := by
  obtain ⟨c', hc', hcl⟩ := Cond.classLink_spec hown hl e.platform hpl
  cases hcT.symm.trans hc'
  obtain ⟨dk, _, _, kt, hd, _, _, _, _, hkt, _, hopen⟩ := hcl.here
  have hW' : s.WarmedH (vm.noted m.cls ix (.cls cT)) := hW.noted hd hopen (State.rightAt_cls hcl)
  obtain ⟨kt', hkt', -⟩ := hW'.alike.2.2 _ _ hkt
  refine ⟨resolveClass_links e.toSetting (hW.classLinks hcl), hW', ?_, kt', hkt'⟩
  rw [Vm.size_noted]
  exact Nat.le_refl _
theorem cx_catch1 (X : Stand p l e R s m args below meth c T locs cells slots) {own N1 : String} {x : ExceptionTableEntry} {rest : List ExceptionTableEntry} (hown : s.vm.findClass own = some m.cls) (hl : (Cond.classLink own x.catchType N1).before args s = true)
    (htab : c.exceptionTable.toList = x :: rest) {g : JFrame} (hg : g.method = m) (hx : covers x g.pc = true) (h0 : x.catchType ≠ 0) {a : Addr} {cell : Cell} {cT : ClassId} (hcell : T.heap[a]? = some cell) (hobj : cell.vm.isStatics = false) (hcT : s.vm.findClass N1 = some cT) (hasg : s.vm.assignable cell.cls cT = true) :
    ∃ vm', Stand p l e R s m args below meth c (T.setVm vm') locs cells slots ∧ ∀ target, Steps p.tables e below ((T.setVm vm').setTop { g with pc := x.handlerPc, stack := [.ref a] }) target → Steps p.tables e below ((T.setTop g).pushFrame (.throwing a)) target := by
  have hpl : e.platform.magicAccessors = ({} : Platform).magicAccessors := by rw [X.admits.platform]
  obtain ⟨g1, g2, g3, g4⟩ := cx_links hpl hown hl hcT X.warmed
  have hk : ∃ k, s.vm.classes[cell.cls]? = some k := by
    obtain ⟨c', hc', hcl⟩ := Cond.classLink_spec hown hl e.platform hpl
    cases hcT.symm.trans hc'
    obtain ⟨_, _, _, kt, _, _, _, _, _, hkt, _, _⟩ := hcl.here
    exact Vm.classAt_of_assignable hasg ⟨kt, hkt⟩
  obtain ⟨ks, hks⟩ := hk
  obtain ⟨ks', hks', -⟩ := g2.alike.2.2 _ _ hks
  refine ⟨_, X.noted g2, fun target hrest => ?_⟩
  subst hg
  refine cx_caught X.here (fun Q E d acts => ?_) hrest
  have hm' : ((T.setTop g).pushFrame (.throwing a)).vm.method? g.method = some meth := X.method'
  rw [_root_.Jvm.W.findHandler_eq hm' X.code, htab]
  have hvm : ((T.setTop g).pushFrame (.throwing a)).vm = T.vm := throwing_vm T g a
  have hhp : ((T.setTop g).pushFrame (.throwing a)).heap = T.heap := throwing_heap T g a
  rw [cx_go hx h0 (by rw [hvm]; exact g1) (by rw [hvm]; exact g3) (by rw [hhp]; exact hcell) (VmData.noStatics_of hobj) ⟨ks', hks'⟩ g4, if_pos]
  rw [g2.alike.assignable]
  exact hasg
theorem cx_catch2 (X : Stand p l e R s m args below meth c T locs cells slots) {own N1 N2 : String} {x x2 : ExceptionTableEntry} {rest : List ExceptionTableEntry} (hown : s.vm.findClass own = some m.cls) (hl : (Cond.classLink own x.catchType N1).before args s = true) (hl2 : (Cond.classLink own x2.catchType N2).before args s = true)
    (htab : c.exceptionTable.toList = x :: x2 :: rest) {g : JFrame} (hg : g.method = m) (hx : covers x g.pc = true) (h0 : x.catchType ≠ 0) (hx2 : covers x2 g.pc = true) (h02 : x2.catchType ≠ 0) {a : Addr} {cell : Cell} {cT cT2 : ClassId} (hcell : T.heap[a]? = some cell) (hobj : cell.vm.isStatics = false) (hcT : s.vm.findClass N1 = some cT) (hcT2 : s.vm.findClass N2 = some cT2) (hno : s.vm.assignable cell.cls cT = false) (hasg : s.vm.assignable cell.cls cT2 = true) :
    ∃ vm', Stand p l e R s m args below meth c (T.setVm vm') locs cells slots ∧ ∀ target, Steps p.tables e below ((T.setVm vm').setTop { g with pc := x2.handlerPc, stack := [.ref a] }) target → Steps p.tables e below ((T.setTop g).pushFrame (.throwing a)) target := by
  have hpl : e.platform.magicAccessors = ({} : Platform).magicAccessors := by rw [X.admits.platform]
  obtain ⟨g1, g2, g3, g4⟩ := cx_links hpl hown hl hcT X.warmed
  obtain ⟨k1, k2, k3, k4⟩ := cx_links hpl hown hl2 hcT2 g2
  have hk : ∃ k, s.vm.classes[cell.cls]? = some k := by
    obtain ⟨c', hc', hcl⟩ := Cond.classLink_spec hown hl2 e.platform hpl
    cases hcT2.symm.trans hc'
    obtain ⟨_, _, _, kt, _, _, _, _, _, hkt, _, _⟩ := hcl.here
    exact Vm.classAt_of_assignable hasg ⟨kt, hkt⟩
  obtain ⟨ks, hks⟩ := hk
  obtain ⟨ks', hks', -⟩ := g2.alike.2.2 _ _ hks
  obtain ⟨ks2, hks2, -⟩ := k2.alike.2.2 _ _ hks
  refine ⟨_, X.noted k2, fun target hrest => ?_⟩
  subst hg
  refine cx_caught X.here (fun Q E d acts => ?_) hrest
  have hm' : ((T.setTop g).pushFrame (.throwing a)).vm.method? g.method = some meth := X.method'
  rw [_root_.Jvm.W.findHandler_eq hm' X.code, htab]
  have hvm : ((T.setTop g).pushFrame (.throwing a)).vm = T.vm := throwing_vm T g a
  have hhp : ((T.setTop g).pushFrame (.throwing a)).heap = T.heap := throwing_heap T g a
  rw [cx_go hx h0 (by rw [hvm]; exact g1) (by rw [hvm]; exact g3) (by rw [hhp]; exact hcell) (VmData.noStatics_of hobj) ⟨ks', hks'⟩ g4, if_neg (by rw [g2.alike.assignable, hno]; decide)]
  rw [cx_go hx2 h02 (vm' := (T.vm.noted g.method.cls x.catchType (.cls cT)).noted g.method.cls x2.catchType (.cls cT2)) k1 k3 (by show ((T.setTop g).pushFrame (.throwing a)).heap[a]? = _; rw [hhp]; exact hcell) (VmData.noStatics_of hobj) ⟨ks2, hks2⟩ k4, if_pos]
  · exact Iff.rfl
  · rw [k2.alike.assignable]
    exact hasg
end CXC
