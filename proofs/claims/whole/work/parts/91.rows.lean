/-! The law's walk: rows -/
def lw_A (s : State) : Nat → Prop := fun q => s.heap.size ≤ q
def lw_cw : List Cond := [.codeWith yL_animal cL_animal 7 (some .int) [(0, 14, 17, 13), (0, 14, 21, 15)], .codeWith yL_code cL_code 7 (some .int) [(0, 12, 15, 13), (0, 12, 19, 15)], .codeWith yL_tick cL_tick 4 (some .int) [(0, 9, 12, 13)], .codeWith yL_inner cL_inner 6 (some .int) [(0, 12, 15, 29)], .codeWith yL_differ cL_differ 3 (some .int) [(0, 8, 11, 15)]]
theorem lw_cw_ok : lw_cw.all (fun w => w.onTables && w.keeps) = true := by decide +kernel
/-- what stands fast over the law's body -/
def lw_C (p : Program) (l : Launch) (G : va_G) (L : cp_Lay) (s : State) (m : MethodId) (args : Array Value) (c : Code) (b N : Nat) (xs : Nat → Int32) : Prop := p.tables.exec = Jvm.exec ∧ c.code = code ∧ c.maxLocals = 7 ∧ s.vm.findClass "CreaturePondLaw" = some m.cls ∧ (∀ w ∈ cp_T, w.before args s = true) ∧ (∀ w ∈ lw_cw, w.before args s = true) ∧ l.stackTraces = false ∧ cp_J L ∧ (∀ q, cp_A L q → lw_A s q) ∧ va_K G vwCl (cp_tys L) s ∧ cp_N cp_nw s ∧ cp_Z (lw_A s) s s.heap ∧ cx_E (lw_A s) s s.heap ∧ cx_NC s ∧ va_X b N xs s s.heap ∧ b < s.heap.size
section LWR
variable {p : Program} {l : Launch} {e : Env} {R : Room} {s : State} {m : MethodId} {args : Array Value} {below : List Frame} {meth : Method} {c : Code} {H : Heap} {locs : List Loc} {cells slots : Nat} {Q : State → Prop}
variable {cc : ByteArray} {pc : Nat} {ls : Array Slot} {rest : List Value} {G : va_G} {L : cp_Lay} {D D' : cp_Dt} {b N : Nat} {xs : Nat → Int32}
theorem lw_lcmp (hexec : p.tables.exec = Jvm.exec) (hb : c.code = cc) {x y : Int32} (hxy : x = y) (hdg : decode cc pc = .ok (.lcmp, 1))
    (k : W p l e R s m args below meth c H locs cells slots Q (F0 m (pc + 1) ls (.int 0 :: rest))) : W p l e R s m args below meth c H locs cells slots Q (F0 m pc ls (.long y.toInt64 :: .long x.toInt64 :: rest)) := by
  subst hxy
  intro T hT X
  obtain ⟨t, a, b⟩ := k T hT X
  refine ⟨t, ?_, b⟩
  have h1 : ¬ (x.toInt64 > x.toInt64) := Int64.lt_irrefl
  jvm_step X.here [X.here.top, hexec, hb, hdg, h1]
  exact a
theorem lw_sld (hx : p.tables.exec = Jvm.exec) (hb : c.code = cc) (hX : va_X b N xs s s.heap) (hbl : b < s.heap.size) (hS : va_S (lw_A s) s.heap H locs) {i v : Int32} (hv : cp_tb N xs i = some v) (hdg : decode cc pc = .ok (.iaload, 1))
    (kk : W p l e R s m args below meth c H locs cells slots Q (F0 m (pc + 1) ls (.int v :: rest))) : W p l e R s m args below meth c H locs cells slots Q (F0 m pc ls (.int i :: .ref b :: rest)) := by
  obtain ⟨h1, h2⟩ := cp_in hv
  cases h2
  exact va_sld hx hb hX hbl (fun h => by have : s.heap.size ≤ b := h; omega) hS h1 hdg kk
theorem lw_pre {av : List Value} (hP : va_P G vwCl (cp_ws L D) H) (hK : va_K G vwCl (cp_tys L) s) (hN : cp_N cp_nw s) (hZ : cp_Z (lw_A s) s s.heap) (hA : ∀ q, cp_A L q → lw_A s q) (hS : va_S (lw_A s) s.heap H locs) : ∀ U : State, U.heap = H → s.WarmedH U.vm → va_Pc av (cp_Pre G L D) av.toArray U := by
  intro U hU hW
  refine ⟨rfl, by rw [hU]; exact hP, va_K.moved hW.alike hK, cp_N.warm cp_nw_ok hW hN, ?_⟩
  rw [hU]
  exact ((cp_Z.moved hW.alike hZ).kept hS.2.1).narrow hA
theorem lw_preH {av : List Value} (hP : va_P G vwCl (cp_ws L D) H) (hK : va_K G vwCl (cp_tys L) s) (hN : cp_N cp_nw s) (hZ : cp_Z (lw_A s) s s.heap) (hE : cx_E (lw_A s) s s.heap) (hNC : cx_NC s) (hA : ∀ q, cp_A L q → lw_A s q) (hS : va_S (lw_A s) s.heap H locs) : ∀ U : State, U.heap = H → s.WarmedH U.vm → va_Pc av (hq_Pre G L D) av.toArray U := by
  intro U hU hW
  refine ⟨rfl, ⟨(lw_pre (av := av) hP hK hN hZ hA hS U hU hW).2, ?_⟩, hNC.moved hW.alike⟩
  rw [hU]
  exact ((cx_E.warm hW hE).kept hS.2.1).narrow hA
theorem lw_callM {mc ms : Nat} {st1 : List Value} {rv : Option Value} {a : Array Value} {st0 : List Value} (hA : ∀ q, cp_A L q → lw_A s q) (hr : va_Run p l e R s m args below meth c H locs cells slots mc ms (F0 m pc ls st0) rest (cp_Q G L D' rv a) (cp_A L)) (hS : va_S (lw_A s) s.heap H locs)
    (kk : ∀ (H1 : Heap) (locs1 : List Loc), va_P G vwCl (cp_ws L D') H1 → va_S (lw_A s) s.heap H1 locs1 → W p l e R s m args below meth c H1 locs1 (cells + mc) (slots + ms) Q (F0 m (pc + 3) ls st1)) (hst : rv.toList ++ rest = st1 := by rfl) : W p l e R s m args below meth c H locs cells slots Q (F0 m pc ls st0) := by
  subst hst
  intro T hT X
  obtain ⟨v, st₀, t, T', L1, h0, X', hL, e1, e2, ⟨⟨hv, hp⟩, hz, hk⟩, st⟩ := hr T hT X
  cases hv
  rw [h0] at hz hk
  obtain ⟨t2, a1, b1⟩ := kk T'.heap (locs ++ L1) (by rw [e1]; exact hp)
    ⟨Nat.le_trans hS.1 (by rw [e1]; exact hz), fun q h1 h2 => by rw [e1, hk q (Nat.lt_of_lt_of_le h1 hS.1) (fun z => h2 (hA q z))]; exact hS.2.1 q h1 h2, fun q hq => by
      rcases List.mem_append.mp hq with h | h
      · exact hS.2.2 q h
      · exact hA _ (hL q h)⟩ T' rfl X'
  exact ⟨t2, st t2 a1, b1⟩
theorem lw_call {st1 : List Value} {rv : Option Value} {a : Array Value} {st0 : List Value} (hA : ∀ q, cp_A L q → lw_A s q) (hr : va_Run p l e R s m args below meth c H locs cells slots 0 0 (F0 m pc ls st0) rest (cp_Q G L D' rv a) (cp_A L)) (hS : va_S (lw_A s) s.heap H locs)
    (kk : ∀ (H1 : Heap) (locs1 : List Loc), va_P G vwCl (cp_ws L D') H1 → va_S (lw_A s) s.heap H1 locs1 → W p l e R s m args below meth c H1 locs1 cells slots Q (F0 m (pc + 3) ls st1)) (hst : rv.toList ++ rest = st1 := by rfl) : W p l e R s m args below meth c H locs cells slots Q (F0 m pc ls st0) := lw_callM hA hr hS kk hst
variable {y : MethodName} {bytes : ByteArray} {maxL nL mc ms n index : Nat} {ret : Option FieldType} {ws : List Cond} {rm : Room} {Pc : Array Value → State → Prop} {Qc : Array Value → State → Outcome → State → Prop} {free : Addr → Prop} {Ts : List Cond} {own : String} {As : List Value} {g : JFrame}
/-- a static call of a method with handlers -/
theorem lw_runH {hh : List (Nat × Nat × Nat × Nat)} (S : CallFix p m c cc nL s args Ts own) (hM : Met l y ws rm Pc Qc mc ms free) (hblind : FrameBlind Pc) (hrc : rm.cells = mc) (hrs : rm.slots = ms) (hfr : rm.frames + 1 ≤ R.frames) (hlo : 8 + (maxL + 11) + rm.locals ≤ R.locals)
    (hws : ∀ w ∈ ws, ∀ (a' : Array Value) (U : State), s.WarmedH U.vm → w.before a' U = true) (hcw : Cond.codeWith y bytes maxL ret hh ∈ ws) (hini : (Cond.initialized y.cls).before args s = true) (hlink : (Cond.methodLink own index y).before args s = true) (hstat : (Cond.static y).before args s = true) (hy : y.cls ≠ "java/lang/invoke/MethodHandle" ∧ y.cls ≠ "java/lang/invoke/VarHandle" ∧ (parseMethodDescriptor y.desc).map (fun d => d.parameters.length) = some n)
    (hPc : ∀ U : State, U.heap = H → s.WarmedH U.vm → Pc As.toArray U)
    (hg : g.method = m) (hn : As.length = n) (hsize : g.locals.size = nL) (hstack : g.stack = As.reverse ++ rest) (hW : 2 * g.monitorRoom + (rest.map fun v => v.category).sum ≤ 8) (hdg : decode cc g.pc = .ok (.invokestatic index, 3)) (hf : cells + mc ≤ R.cells ∧ slots + ms ≤ R.slots) :
    va_Run p l e R s m args below meth c H locs cells slots mc ms g rest (Qc As.toArray) free := by
  have hK : Back l R p e below s args y 3 8 (PreOf R mc ms Pc) (PostOf Qc mc ms free) := va_backW hM hblind hrc hrs hfr hlo hws hcw (fun a' U hW => word_at hW (Or.inl rfl) hini)
  obtain ⟨hx, hb, hml, ho, -⟩ := S
  intro T hT X
  have hcode := hws _ hcw args s (State.WarmedH.refl s)
  obtain ⟨mk, methM, cM, hnamed, hmethM, -, -, -, -, -, -, hsigM⟩ := Cond.codeWith_spec hcode
  have hstatic : methM.isStatic = true := Cond.static_spec hnamed hmethM hstat
  obtain ⟨kP, hkP, -⟩ := className_of_methodNamed hnamed
  have hinitP : kP.init = .initialized := Cond.initialized_spec (findClass_of_methodNamed hnamed) hkP hini
  have hlen : As.length = methM.sig.parameters.length := by
    have h3 := hy.2.2
    rw [hsigM] at h3
    exact hn.trans (Option.some.inj h3).symm
  have hdg' : decode c.code g.pc = .ok (.invokestatic index, 3) := by rw [hb]; exact hdg
  obtain ⟨vm₁, X₁, hstep₁⟩ := X.invokestatic hx ho hlink hnamed hmethM hstatic hkP hinitP ⟨hy.1, hy.2.1⟩ (g := g) hg (argsL := As) (rest := rest) hlen hstack hdg'
  obtain ⟨v, ⟨U', l2, c2, s2⟩, X', hpost, hsteps⟩ := hK m meth c ⟨T.setVm vm₁, locs, cells, slots⟩ { g with stack := rest } (.invokestatic index) mk As.toArray X₁ hg (hsize.trans hml.symm) hdg' hW (X₁.named hnamed) ⟨hf.1, hf.2, hPc (T.setVm vm₁) hT X₁.warmed⟩
  obtain ⟨g', mk', t, L1, e1, e2, hq, h1, hL, h2, h3⟩ := hpost
  dsimp only [Pt.U, Pt.locs, Pt.cells, Pt.slots] at X' e1 e2 h1 h2 h3 hsteps
  subst h1; subst h2; subst h3
  exact ⟨v, (T.setVm vm₁).calling g' mk' As.toArray, t, U', L1, hT, X', hL, e1, e2, hq, fun target h => hstep₁ _ fun acts => by rw [doInvoke_state]; exact hsteps.trans h⟩
theorem lw_hws {w : Cond} (htT : ∀ w ∈ cp_T, w.before args s = true) (hcw : ∀ w ∈ lw_cw, w.before args s = true) (hw : w ∈ lw_cw) : ∀ x ∈ w :: cp_T, ∀ (a' : Array Value) (U : State), s.WarmedH U.vm → x.before a' U = true := by
  intro x hx a' U hW
  rcases List.mem_cons.mp hx with rfl | h
  · exact word_at hW (Or.inl (List.all_eq_true.mp lw_cw_ok _ hw)) (hcw _ hw)
  · exact word_at hW (cp_gT x h).2 (htT x h)
end LWR
