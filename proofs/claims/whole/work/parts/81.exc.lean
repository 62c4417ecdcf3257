/-! Exceptions: what a throw wants of the start, the contract of a call that throws, the throw, the call that is caught -/
def cx_up : List String := ["java/lang/RuntimeException", "java/lang/Exception"]
def cx_isR : Cond → Bool
  | .isRef _ => true
  | .laysStatic _ _ _ => true
  | _ => false
/-- a static of Throwable's that holds a reference or null, outside of A -/
def cx_Zs (n d : String) (A : Nat → Prop) (U : State) (H : Heap) : Prop := ∃ (c : ClassId) (k : Class) (i : Nat) (f : Field) (a : Nat) (cell : Cell) (v : Value), U.vm.findClass "java/lang/Throwable" = some c ∧ U.fieldFound? "java/lang/Throwable" n d = some (c, k, i, f) ∧ f.isStatic = true ∧ k.statics = some a ∧ H[a]? = some cell ∧ cell.vm.isStatics = true ∧ cell.cls = c ∧ f.slot < cell.slots.size ∧ k.staticTypes[f.slot]? = some f.type ∧ cell.slots[f.slot]? = some v ∧ v.isRef = true ∧ ¬ A a
theorem cx_Zs.moved {n d : String} {A : Nat → Prop} {u U : State} {H : Heap} (hvm : u.vm.Alike U.vm) (h : cx_Zs n d A u H) : cx_Zs n d A U H := by
  obtain ⟨c, k, i, f, a, cell, v, h1, h2, h3, h4, h5, h6, h7, h8, h9, h10⟩ := h
  obtain ⟨k', hi', he⟩ := State.fieldFound?_setVm hvm h2
  exact ⟨c, k', i, f, a, cell, v, by rw [hvm.findClass]; exact h1, hi', h3, by rw [he]; exact h4, h5, h6, h7, h8, by rw [he]; exact h9, h10⟩
theorem cx_Zs.kept {n d : String} {A : Nat → Prop} {U : State} {H H1 : Heap} (h : cx_Zs n d A U H) (hq : ∀ a : Nat, a < H.size → ¬ A a → H1[a]? = H[a]?) : cx_Zs n d A U H1 := by
  obtain ⟨c, k, i, f, a, cell, v, h1, h2, h3, h4, h5, h6, h7, h8, h9, h10, h11, h12⟩ := h
  exact ⟨c, k, i, f, a, cell, v, h1, h2, h3, h4, by rw [hq a (Array.getElem?_eq_some_iff.mp h5).1 h12]; exact h5, h6, h7, h8, h9, h10, h11, h12⟩
theorem cx_Zs.narrow {n d : String} {A B : Nat → Prop} {U : State} {H : Heap} (h : cx_Zs n d A U H) (hAB : ∀ q, B q → A q) : cx_Zs n d B U H := by
  obtain ⟨c, k, i, f, a, cell, v, h1, h2, h3, h4, h5, h6, h7, h8, h9, h10, h11, h12⟩ := h
  exact ⟨c, k, i, f, a, cell, v, h1, h2, h3, h4, h5, h6, h7, h8, h9, h10, h11, fun z => h12 (hAB a z)⟩
theorem cx_Zs.of {n d : String} {args : Array Value} {s : State} {A : Nat → Prop} (hl : (Cond.laysStatic "java/lang/Throwable" n d).before args s = true) (h : (Cond.isRef (.static "java/lang/Throwable" n d)).before args s = true) (hA : ∀ a : Nat, a < s.heap.size → ¬ A a) : cx_Zs n d A s s.heap := by
  obtain ⟨c, k, i, f, a, cell, h1, h2, h3, h4, h5, h6, h7, h8, h9⟩ := Cond.laysStatic_spec hl
  cases hv : (Term.static "java/lang/Throwable" n d).eval args s none [] s with
  | none => simp [Cond.before, Cond.holds, Cond.value, hv] at h
  | some w =>
    obtain ⟨-, a', cell', ha', hcell', -, hslot⟩ := Term.static_spec h2 hv
    cases h4.symm.trans ha'
    cases h5.symm.trans hcell'
    refine ⟨c, k, i, f, a, cell, w, h1, h2, h3, h4, h5, h6, h7, h8, h9, hslot, ?_, hA a (Array.getElem?_eq_some_iff.mp h5).1⟩
    simp only [Cond.before, Cond.holds, Cond.value, hv] at h
    cases w <;> simp_all [Value.isRef]
theorem cx_Zs.lays {n d : String} {A : Nat → Prop} {args : Array Value} {s : State} (h : cx_Zs n d A s s.heap) : (Cond.laysStatic "java/lang/Throwable" n d).before args s = true := by
  obtain ⟨c, k, i, f, a, cell, v, h1, h2, h3, h4, h5, h6, h7, h8, h9, h10⟩ := h
  exact Cond.laysStatic_of h1 h2 h3 h4 h5 h6 h7 h8 h9
theorem cx_Zs.isRef {n d : String} {A : Nat → Prop} {args : Array Value} {s : State} (h : cx_Zs n d A s s.heap) : (Cond.isRef (.static "java/lang/Throwable" n d)).before args s = true := by
  obtain ⟨c, k, i, f, a, cell, v, h1, h2, h3, h4, h5, h6, h7, h8, h9, h10, h11, -⟩ := h
  cases v <;> simp_all [Cond.before, Cond.holds, Cond.value, Term.eval, State.fieldNamed?, Value.isRef]
def cx_xs : List (Nat × String) := [(77, "java/lang/IllegalArgumentException"), (91, "java/lang/IllegalStateException"), (161, "java/lang/IndexOutOfBoundsException")]
def cx_all : List Cond := cx_xs.flatMap (fun q => Bundle.ownAtoms "CreaturePond" q.1 q.2 cx_up)
def cx_ws : List Cond := cx_all.filter (fun w => !cx_isR w)
def cx_tab (w : Cond) : Bool := w.onTables && (w.keeps || (match w with | .declares _ => true | .castable _ _ => true | _ => false))
theorem cx_ws_ok : cx_ws.all cx_tab = true := by decide +kernel
theorem cx_tab_on {w : Cond} (h : cx_tab w = true) : w.onTables = true := by
  unfold cx_tab at h
  simp only [Bool.and_eq_true] at h
  exact h.1
theorem cx_warm {w : Cond} (hw : cx_tab w = true) {s U : State} (hW : s.WarmedH U.vm) (h : va_Nw w s) : va_Nw w U := by
  unfold cx_tab at hw
  simp only [Bool.and_eq_true, Bool.or_eq_true] at hw
  obtain ⟨h1, h2 | h2⟩ := hw
  · exact word_at hW (Or.inl (by simp [h1, h2])) h
  · cases w <;> first | exact va_Nw.warmD hW h | exact va_Nw.warmC hW h | exact Bool.noConfusion h2
def cx_strs : List (Nat × String) := [(75, "heading is 0 to 3, energy 1 to 1000"), (89, "there is an animal in the cell, or there are 16"), (100, "n is 1 to 8, and the animal must live"), (111, "a code has at most 20 bytes"), (117, "n is 0 to 50"), (159, "there is no such animal"), (162, "there is no such byte"), (192, "nothing is kept")]
def cx_E (A : Nat → Prop) (U : State) (H : Heap) : Prop := (∀ w ∈ cx_ws, va_Nw w U) ∧ cx_Zs "UNASSIGNED_STACK" "[Ljava/lang/StackTraceElement;" A U H ∧ cx_Zs "SUPPRESSED_SENTINEL" "Ljava/util/List;" A U H ∧ ∀ q ∈ cx_strs, ∃ a, vk_R "CreaturePond" q.1 q.2 a U
theorem cx_E.warm {A : Nat → Prop} {s U : State} {H : Heap} (hW : s.WarmedH U.vm) (h : cx_E A s H) : cx_E A U H :=
  ⟨fun w hw => cx_warm (List.all_eq_true.mp cx_ws_ok w hw) hW (h.1 w hw), h.2.1.moved hW.alike, h.2.2.1.moved hW.alike, fun q hq => by
    obtain ⟨a, ha⟩ := h.2.2.2 q hq
    exact ⟨a, ha.warm hW⟩⟩
theorem cx_E.same {A : Nat → Prop} {u U : State} {H : Heap} (hvm : u.vm = U.vm) (h : cx_E A u H) : cx_E A U H :=
  ⟨fun w hw => (h.1 w hw).same (cx_tab_on (List.all_eq_true.mp cx_ws_ok w hw)) hvm, h.2.1.moved (hvm ▸ Vm.Alike.refl u.vm), h.2.2.1.moved (hvm ▸ Vm.Alike.refl u.vm), fun q hq => by
    obtain ⟨a, ha⟩ := h.2.2.2 q hq
    exact ⟨a, ha.same hvm.symm⟩⟩
theorem cx_E.kept {A : Nat → Prop} {U : State} {H H1 : Heap} (h : cx_E A U H) (hq : ∀ a : Nat, a < H.size → ¬ A a → H1[a]? = H[a]?) : cx_E A U H1 := ⟨h.1, h.2.1.kept hq, h.2.2.1.kept hq, h.2.2.2⟩
theorem cx_E.narrow {A B : Nat → Prop} {U : State} {H : Heap} (h : cx_E A U H) (hAB : ∀ q, B q → A q) : cx_E B U H := ⟨h.1, h.2.1.narrow hAB, h.2.2.1.narrow hAB, h.2.2.2⟩
theorem cx_own {A : Nat → Prop} {args : Array Value} {s : State} {q : Nat × String} (h : cx_E A s s.heap) (hm : q ∈ cx_xs) : ∀ w ∈ Bundle.ownAtoms "CreaturePond" q.1 q.2 cx_up, w.before args s = true := by
  intro w hw
  have hall : w ∈ cx_all := List.mem_flatMap.mpr ⟨q, hm, hw⟩
  cases hr : cx_isR w with
  | false =>
    have hin : w ∈ cx_ws := List.mem_filter.mpr ⟨hall, by rw [hr]; rfl⟩
    exact (h.1 w hin).use (cx_tab_on (List.all_eq_true.mp cx_ws_ok w hin))
  | true =>
    have hL : ∀ w ∈ cx_all.filter cx_isR, w ∈ ([.isRef (.static "java/lang/Throwable" "UNASSIGNED_STACK" "[Ljava/lang/StackTraceElement;"), .isRef (.static "java/lang/Throwable" "SUPPRESSED_SENTINEL" "Ljava/util/List;"), .laysStatic "java/lang/Throwable" "UNASSIGNED_STACK" "[Ljava/lang/StackTraceElement;", .laysStatic "java/lang/Throwable" "SUPPRESSED_SENTINEL" "Ljava/util/List;"] : List Cond) := by decide +kernel
    have hk := hL w (List.mem_filter.mpr ⟨hall, hr⟩)
    simp only [List.mem_cons, List.not_mem_nil, or_false] at hk
    rcases hk with rfl | rfl | rfl | rfl
    · exact h.2.1.isRef
    · exact h.2.2.1.isRef
    · exact h.2.1.lays
    · exact h.2.2.1.lays
def cx_Pre (G : va_G) (L : cp_Lay) (D : cp_Dt) (U : State) : Prop := cp_Pre G L D U ∧ cx_E (cp_A L) U U.heap
theorem cx_blind {G : va_G} {L : cp_Lay} {D : cp_Dt} {av : List Value} : FrameBlind (va_Pc av (cx_Pre G L D)) := by
  intro a U g mk h
  obtain ⟨h0, h1, h2⟩ := h
  exact ⟨h0, (cp_blind (av := av) a U g mk ⟨h0, h1⟩).2, cx_E.same (u := U) (U := U.calling g mk a) rfl h2⟩
theorem cx_pre {G : va_G} {L : cp_Lay} {D : cp_Dt} {av : List Value} {s : State} {H : Heap} {locs : List Loc} (hP : va_P G vwCl (cp_ws L D) H) (hK : va_K G vwCl (cp_tys L) s) (hN : cp_N cp_nw s) (hZ : cp_Z (cp_A L) s s.heap) (hE : cx_E (cp_A L) s s.heap) (hS : va_S (cp_A L) s.heap H locs) : ∀ U : State, U.heap = H → s.WarmedH U.vm → va_Pc av (cx_Pre G L D) av.toArray U := by
  intro U hU hW
  refine ⟨rfl, (cp_pre (av := av) hP hK hN hZ hS U hU hW).2, ?_⟩
  rw [hU]
  exact (cx_E.warm hW hE).kept hS.2.1
/-- what a call that throws leaves: the exception, of the class X, and the world as it was -/
def cx_Q (G : va_G) (L : cp_Lay) (D' : cp_Dt) (X : String) : Array Value → State → Outcome → State → Prop := fun _ st oc t => ∃ (q : Nat) (ce : Cell), oc = .threw q ∧ st.WarmedH t.vm ∧ st.sameButNew ({ t with vm := st.vm } : State) [] 1 6 ∧ t.heap[q]? = some ce ∧ ce.vm = .none ∧ st.vm.findClass X = some ce.cls ∧ st.vm.assignable ce.cls ce.cls = true ∧ va_P G vwCl (cp_ws L D') t.heap ∧ va_F (cp_A L) st t
def cx_Met (l : Launch) (G : va_G) (y : MethodName) (ws : List Cond) (rm : Room) (L : cp_Lay) (av : List Value) (D D' : cp_Dt) (X : String) : Prop := MetFree l y (headSpec ws rm) (va_Pc av (cx_Pre G L D)) (fun _ _ _ _ _ => True) (cx_Q G L D' X)
def cx_XQ (below : List Frame) (Qc : Array Value → State → Outcome → State → Prop) (a : Array Value) (s : State) : State → Prop := fun t => ∃ o, t.status = .running ∧ Ended t below o ∧ Qc a s o t
/-- a frame that names no slot: old cells are as they were -/
theorem cx_sbn {s t : State} {k n : Nat} (h : s.sameButNew ({ t with vm := s.vm } : State) [] k n) (r : Nat) (hr : r < s.heap.size) : t.heap[r]? = s.heap[r]? := by
  obtain ⟨-, -, -, -, -, h6⟩ := h
  have hc : s.heap[r]? = some s.heap[r] := Array.getElem?_eq_getElem hr
  obtain ⟨c', g1, g2, g3, g4⟩ := h6 r _ hc
  have hs : c'.slots = s.heap[r].slots := by
    apply Array.ext_getElem?
    intro i
    exact g4 i (fun h => by cases h)
  rw [hc]
  refine g1.trans ?_
  rw [g2, hs]
section CXT
variable {p : Program} {l : Launch} {e : Env} {R : Room} {s : State} {m : MethodId} {args : Array Value} {below : List Frame} {meth : Method} {c : Code} {H : Heap} {locs : List Loc} {cells slots : Nat} {Q : State → Prop}
theorem cx_ofW {y : MethodName} {ws ws' : List Cond} {rm : Room} {Pc : Array Value → State → Prop} {Qc : Array Value → State → Outcome → State → Prop} {cc : ByteArray} {maxL : Nat} {ret : Option FieldType} (hy : plainName y.cls = true) (hw : ws = Cond.code y cc maxL ret :: ws')
    (body : ∀ p e s m args below meth c s₁, BodyLoose p l y (headSpec ws rm) cc maxL ret e s m args below meth c s₁ → c.maxLocals = maxL → l.admits e → Pc args s →
      W p l e (headSpec ws rm).room s m args below meth c s.heap [] 0 0 (cx_XQ below Qc args s) (entryFrame m args maxL)) : MetFree l y (headSpec ws rm) Pc (fun _ _ _ _ _ => True) Qc := by
  refine MetFree.of_bodyS (code := cc) (maxLocals := maxL) (ret := ret) hy ?_ ?_
  · intro args s m h hn
    obtain ⟨meth, c, h1, h2, h3, h4, h5, h6, -, -⟩ := Cond.code_spec hn (atoms_spec (ws := ws) h _ (by rw [hw]; exact List.mem_cons_self))
    exact ⟨meth, c, h1, h2, h3, h4, h5, h6⟩
  · intro p e s m args below meth c s₁ B hml hP _
    have hh0 : s₁.heap = s.heap := by rw [B.state]; rfl
    obtain ⟨t, a1, o, b1, b2, b3⟩ := body p e s m args below meth c s₁ B hml (Stand.of_body B).admits hP s₁ hh0 (Stand.of_body B)
    exact ⟨t, o, a1, b1, b2, b3⟩
theorem cx_thr {cc : ByteArray} {pc : Nat} {ls : Array Slot} {G : va_G} {L : cp_Lay} {D : cp_Dt} (hx : p.tables.exec = Jvm.exec) (hb : c.code = cc) (hst : l.stackTraces = false) (hml : c.maxLocals = ls.size) (hown : s.vm.findClass "CreaturePond" = some m.cls) (hE : cx_E (cp_A L) s s.heap) (hP : va_P G vwCl (cp_ws L D) H) (hPs : ∀ (k : Nat) (q : Nat × va_E), (cp_ws L D)[k]? = some q → q.1 < s.heap.size) (hS : va_S (fun _ => False) s.heap H locs)
    {q : Nat × String} {ix istr : Nat} {tx : String} (hq : q ∈ cx_xs) (hcl : (Cond.classLink "CreaturePond" ix q.2).before args s = true) (hini : (Cond.initialized q.2).before args s = true) (htx : (istr, tx) ∈ cx_strs) (hem : c.exceptionTable.isEmpty = true) (hlocks : meth.locks = false)
    (d1 : decode cc pc = .ok (.new ix, 3)) (d2 : decode cc (pc + 3) = .ok (.dup, 1)) (d3 : decode cc (pc + 4) = .ok (.ldc istr, 2)) (d4 : decode cc (pc + 6) = .ok (.invokespecial q.1, 3)) (d5 : decode cc (pc + 9) = .ok (.athrow, 1))
    (hfr : 5 < R.frames) (hlo : 100 ≤ R.locals) (hc : 1 ≤ R.cells) (hs : 6 ≤ R.slots) : W p l e R s m args below meth c H locs 0 0 (cx_XQ below (cx_Q G L D q.2) args s) (F0 m pc ls []) := by
  have hloc : locs = [] := by
    cases locs with
    | nil => rfl
    | cons x t => exact (hS.2.2 x List.mem_cons_self).elim
  subst hloc
  have hown' := cx_own (args := args) hE hq
  have hins : (Cond.instantiable q.2 6).before args s = true := hown' _ (by simp [Bundle.ownAtoms])
  refine W.newc hx hb hown hcl hins hini rfl d1 (by omega) (by omega) (fun cX kX h1 h2 h3 h4 => ?_)
  refine lv_dup hx hb d2 rfl ?_
  obtain ⟨sa, hsa⟩ := hE.2.2.2 _ htx
  intro T hT X
  have hconst : (Cond.stringRef "CreaturePond" istr tx).before args s = true := hsa.1
  have hev : (Term.string "CreaturePond" istr).eval args s none [] s = some (.ref sa) := hsa.2
  have htr : e.platform.stackTraces = false := by
    rw [X.admits.platform]
    exact hst
  have hcellA : T.heap[H.size]? = some (freshCell cX kX) := by rw [hT]; simp [freshCell]
  obtain ⟨U, hsteps, hrun, hend, hW, hsame, ce, hce, K⟩ := X.ctorThrowS hx htr (own := "CreaturePond") (cls := q.2) (names := cx_up) (ic := q.1) hown (by
      simp only [cx_xs, List.mem_cons, List.not_mem_nil, or_false] at hq
      rcases hq with rfl | rfl | rfl <;> decide +kernel) (by decide +kernel) hown' (fun y hy => by cases hy) h1 h2 hcellA hS.1 (msg := .ref sa) rfl
      (g := F0 m (pc + 6) ls [.ref sa, .ref H.size, .ref H.size]) rfl hml.symm rfl rfl (rest := []) rfl (by rw [hb]; exact d4) (by rw [hb]; exact d5) (covers_of_empty hem _) (by simp [cx_up]; omega) (by simp [cx_up, Value.category, JFrame.monitorRoom]; omega) (hlocks := hlocks)
  refine ⟨U, X.ldcString hx (own := "CreaturePond") (text := tx) (index := istr) (a := sa) hown hconst hev (g := F0 m (pc + 4) ls [.ref H.size, .ref H.size]) rfl (by rw [hb]; exact d3) _ hsteps, .threw H.size, hrun, hend, H.size, ce, rfl, hW, hsame, hce, K.vm, K.cls, K.self, ?_, ?_⟩
  · intro k r hr
    have hlt := hPs k r hr
    refine (hP k r hr).kept ?_
    rw [cx_sbn hsame r.1 hlt, hS.2.1 r.1 hlt (fun h => h)]
  · exact ⟨hsame.2.1, fun r hr _ => cx_sbn hsame r hr⟩
end CXT
