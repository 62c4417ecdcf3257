/-! What every method takes as given, what it leaves, and a call -/
def cp_isN : Cond → Bool
  | .fieldLinkNest .. => true
  | .methodLinkNest .. => true
  | _ => false
theorem cp_nw_ok : cp_nw.all cp_isN = true := by decide +kernel
def cp_N (nw : List Cond) (U : State) : Prop := ∀ w ∈ nw, va_Nw w U
theorem cp_N.warm {nw : List Cond} {s U : State} (hn : nw.all cp_isN = true) (hW : s.WarmedH U.vm) (h : cp_N nw s) : cp_N nw U := by
  intro w hw
  have h1 := List.all_eq_true.mp hn w hw
  have h2 := h w hw
  cases w <;> first | exact va_Nw.warmF hW h2 | exact va_Nw.warmM hW h2 | exact Bool.noConfusion h1
theorem cp_N.same {nw : List Cond} {u U : State} (hn : nw.all cp_isN = true) (hvm : u.vm = U.vm) (h : cp_N nw u) : cp_N nw U := by
  intro w hw
  have h1 := List.all_eq_true.mp hn w hw
  have h2 := h w hw
  cases w <;> first | exact Bool.noConfusion h1 | exact va_Nw.same rfl hvm h2
def cp_ops (j : Nat) : Int32 := ([0, 2, 2, 2, 2, 2, 2, 1, 1, 2, 2, 1, 2, 2, 2, 2, 1, 0, 0, 1, 1, 0] : List Int32).getD j 0
def cp_sx (j : Nat) : Int32 := ([0, 1, 0, -1] : List Int32).getD j 0
def cp_sy (j : Nat) : Int32 := ([-1, 0, 1, 0] : List Int32).getD j 0
def cp_Zt (C n : String) (N : Nat) (f : Nat → Int32) (A : Nat → Prop) (U : State) (H : Heap) : Prop := ∃ t : Nat, va_Z C n "[I" (.ref t) A U H ∧ va_T .int t N (fun j => .int (f j)) A U H
theorem cp_Zt.moved {C n : String} {N : Nat} {f : Nat → Int32} {A : Nat → Prop} {u U : State} {H : Heap} (hvm : u.vm.Alike U.vm) (h : cp_Zt C n N f A u H) : cp_Zt C n N f A U H := by
  obtain ⟨t, h1, h2⟩ := h
  exact ⟨t, h1.moved hvm, h2.moved hvm⟩
theorem cp_Zt.kept {C n : String} {N : Nat} {f : Nat → Int32} {A : Nat → Prop} {U : State} {H H1 : Heap} (h : cp_Zt C n N f A U H) (hq : ∀ a : Nat, a < H.size → ¬ A a → H1[a]? = H[a]?) : cp_Zt C n N f A U H1 := by
  obtain ⟨t, h1, h2⟩ := h
  exact ⟨t, h1.kept hq, h2.kept hq⟩
theorem cp_Zt.narrow {C n : String} {N : Nat} {f : Nat → Int32} {A B : Nat → Prop} {U : State} {H : Heap} (h : cp_Zt C n N f A U H) (hAB : ∀ q, B q → A q) : cp_Zt C n N f B U H := by
  obtain ⟨t, h1, h2⟩ := h
  exact ⟨t, h1.narrow hAB, h2.narrow hAB⟩
def cp_Z (A : Nat → Prop) (U : State) (H : Heap) : Prop := cp_Zt "CreaturePond$Mind" "OPERANDS" 22 cp_ops A U H ∧ cp_Zt "CreaturePond$Shape" "STEP_X" 4 cp_sx A U H ∧ cp_Zt "CreaturePond$Shape" "STEP_Y" 4 cp_sy A U H
theorem cp_Z.moved {A : Nat → Prop} {u U : State} {H : Heap} (hvm : u.vm.Alike U.vm) (h : cp_Z A u H) : cp_Z A U H := ⟨h.1.moved hvm, h.2.1.moved hvm, h.2.2.moved hvm⟩
theorem cp_Z.kept {A : Nat → Prop} {U : State} {H H1 : Heap} (h : cp_Z A U H) (hq : ∀ a : Nat, a < H.size → ¬ A a → H1[a]? = H[a]?) : cp_Z A U H1 := ⟨h.1.kept hq, h.2.1.kept hq, h.2.2.kept hq⟩
theorem cp_Z.narrow {A B : Nat → Prop} {U : State} {H : Heap} (h : cp_Z A U H) (hAB : ∀ q, B q → A q) : cp_Z B U H := ⟨h.1.narrow hAB, h.2.1.narrow hAB, h.2.2.narrow hAB⟩
def cp_Pre (G : va_G) (L : cp_Lay) (D : cp_Dt) (U : State) : Prop := va_P G vwCl (cp_ws L D) U.heap ∧ va_K G vwCl (cp_tys L) U ∧ cp_N cp_nw U ∧ cp_Z (cp_A L) U U.heap
def cp_Q (G : va_G) (L : cp_Lay) (D' : cp_Dt) (rv : Option Value) : Array Value → State → Outcome → State → Prop := fun _ st oc t => (oc = .returned rv ∧ va_P G vwCl (cp_ws L D') t.heap) ∧ va_F (cp_A L) st t
/-- the contract: from any heap that holds D in the layout L, y returns rv, the heap then holds D', nothing outside the layout has changed, nothing is made -/
def cp_Met (l : Launch) (G : va_G) (y : MethodName) (ws : List Cond) (rm : Room) (L : cp_Lay) (av : List Value) (D D' : cp_Dt) (rv : Option Value) : Prop := Met l y ws rm (va_Pc av (cp_Pre G L D)) (cp_Q G L D' rv) 0 0 (cp_A L)
theorem cp_blind {G : va_G} {L : cp_Lay} {D : cp_Dt} {av : List Value} : FrameBlind (va_Pc av (cp_Pre G L D)) := by
  intro a U g mk h
  obtain ⟨h0, h1, h2, h3, h4⟩ := h
  exact ⟨h0, h1, va_K.moved (u := U) (U := U.calling g mk a) (Vm.Alike.refl U.vm) h2, cp_N.same (u := U) (U := U.calling g mk a) cp_nw_ok rfl h3, cp_Z.moved (u := U) (U := U.calling g mk a) (Vm.Alike.refl U.vm) h4⟩
theorem cp_pre {G : va_G} {L : cp_Lay} {D : cp_Dt} {av : List Value} {s : State} {H : Heap} {locs : List Loc} (hP : va_P G vwCl (cp_ws L D) H) (hK : va_K G vwCl (cp_tys L) s) (hN : cp_N cp_nw s) (hZ : cp_Z (cp_A L) s s.heap) (hS : va_S (cp_A L) s.heap H locs) : ∀ U : State, U.heap = H → s.WarmedH U.vm → va_Pc av (cp_Pre G L D) av.toArray U := by
  intro U hU hW
  refine ⟨rfl, by rw [hU]; exact hP, va_K.moved hW.alike hK, cp_N.warm cp_nw_ok hW hN, ?_⟩
  rw [hU]
  exact (cp_Z.moved hW.alike hZ).kept hS.2.1
theorem cp_recv {G : va_G} {cl : List vw_C} {L : cp_Lay} {D : cp_Dt} {s : State} {H : Heap} {tys : List (ClassId × FieldType)} {k ci : Nat} {q : vw_C} {fl : List (Option (Option Nat))} (hK : va_K G cl tys s) (hP : va_P G cl (cp_ws L D) H) (hc : cl[ci]? = some q) (h : cp_fl L k ci = some fl) : ∃ cell : Cell, H[L.2.1 k]? = some cell ∧ cell.vm.isStatics = false ∧ s.vm.findClass q.1 = some cell.cls := va_recv hK hP hc (cp_fl_cell h)
section CPC
variable {p : Program} {l : Launch} {e : Env} {R : Room} {s : State} {m : MethodId} {args : Array Value} {below : List Frame} {meth : Method} {c : Code} {H : Heap} {locs : List Loc} {cells slots : Nat} {Q : State → Prop}
variable {cc : ByteArray} {pc : Nat} {ls : Array Slot} {rest : List Value} {G : va_G} {H0 : Heap} {L : cp_Lay} {D : cp_Dt}
theorem cp_call {st1 : List Value} {D' : cp_Dt} {rv : Option Value} {a : Array Value} {st0 : List Value} (hr : va_Run p l e R s m args below meth c H locs cells slots 0 0 (F0 m pc ls st0) rest (cp_Q G L D' rv a) (cp_A L)) (hS : va_S (cp_A L) H0 H locs)
    (kk : ∀ (H1 : Heap) (locs1 : List Loc), va_P G vwCl (cp_ws L D') H1 → va_S (cp_A L) H0 H1 locs1 → W p l e R s m args below meth c H1 locs1 cells slots Q (F0 m (pc + 3) ls st1)) (hst : rv.toList ++ rest = st1 := by rfl) : W p l e R s m args below meth c H locs cells slots Q (F0 m pc ls st0) := by
  subst hst
  intro T hT X
  obtain ⟨v, st₀, t, T', L1, h0, X', hL, e1, e2, ⟨⟨hv, hp⟩, hz, hk⟩, st⟩ := hr T hT X
  cases hv
  rw [h0] at hz hk
  obtain ⟨t2, a1, b1⟩ := kk T'.heap (locs ++ L1) (by rw [e1]; exact hp)
    ⟨Nat.le_trans hS.1 (by rw [e1]; exact hz), fun q h1 h2 => by rw [e1, hk q (Nat.lt_of_lt_of_le h1 hS.1) h2]; exact hS.2.1 q h1 h2, fun q hq => by
      rcases List.mem_append.mp hq with h | h
      · exact hS.2.2 q h
      · exact hL q h⟩ T' rfl X'
  exact ⟨t2, st t2 a1, b1⟩
theorem cp_iret (hx : p.tables.exec = Jvm.exec) (hb : c.code = cc) (hr : meth.sig.returnType = some .int) (hlocks : meth.locks = false) {v : Int32} {res : Int32 × cp_Dt} (hF : some (v, D) = some res) (hP : va_P G vwCl (cp_ws L D) H) (hS : va_S (cp_A L) s.heap H locs) (hdg : decode cc pc = .ok (.ireturn, 1)) : W p l e R s m args below meth c H locs 0 0 (MQ below (cp_Q G L res.2 (some (.int res.1))) args s 0 0 (cp_A L)) (F0 m pc ls [.int v]) := by
  cases hF
  exact W.iret hx hb hr (fun t ht _ => ⟨⟨rfl, by rw [ht]; exact hP⟩, hS.F ht⟩) hS.2.2 hdg hlocks
theorem cp_zret (hx : p.tables.exec = Jvm.exec) (hb : c.code = cc) {ty : FieldType} (hr : meth.sig.returnType = some ty) (hlocks : meth.locks = false) {v : Int32} (hn : narrow ty (.int v) = .int v) {res : Int32 × cp_Dt} (hF : some (v, D) = some res) (hP : va_P G vwCl (cp_ws L D) H) (hS : va_S (cp_A L) s.heap H locs) (hdg : decode cc pc = .ok (.ireturn, 1)) : W p l e R s m args below meth c H locs 0 0 (MQ below (cp_Q G L res.2 (some (.int res.1))) args s 0 0 (cp_A L)) (F0 m pc ls [.int v]) := by
  cases hF
  exact W.zret hx hb hr hn (fun t ht _ => ⟨⟨rfl, by rw [ht]; exact hP⟩, hS.F ht⟩) hS.2.2 hdg hlocks
theorem cp_vret (hx : p.tables.exec = Jvm.exec) (hb : c.code = cc) (hr : meth.sig.returnType = none) (hlocks : meth.locks = false) {res : cp_Dt} (hF : some D = some res) (hP : va_P G vwCl (cp_ws L D) H) (hS : va_S (cp_A L) s.heap H locs) (hdg : decode cc pc = .ok (.return_, 1)) : W p l e R s m args below meth c H locs 0 0 (MQ below (cp_Q G L res none) args s 0 0 (cp_A L)) (F0 m pc ls []) := by
  cases hF
  exact W.vret hx hb hr (fun t ht _ => ⟨⟨rfl, by rw [ht]; exact hP⟩, hS.F ht⟩) hS.2.2 hdg hlocks
theorem cp_aret (hx : p.tables.exec = Jvm.exec) (hb : c.code = cc) {n : String} (hr : meth.sig.returnType = some (.object n)) (hlocks : meth.locks = false) {v : Nat} {res : Nat × cp_Dt} (hF : some (v, D) = some res) (hP : va_P G vwCl (cp_ws L D) H) (hS : va_S (cp_A L) s.heap H locs) (hdg : decode cc pc = .ok (.areturn, 1)) : W p l e R s m args below meth c H locs 0 0 (MQ below (cp_Q G L res.2 (some (.ref (L.2.1 res.1)))) args s 0 0 (cp_A L)) (F0 m pc ls [.ref (L.2.1 v)]) := by
  cases hF
  exact W.aret hx hb hr (Or.inl ⟨n, rfl⟩) (Or.inr ⟨_, rfl⟩) (fun t ht _ => ⟨⟨rfl, by rw [ht]; exact hP⟩, hS.F ht⟩) hS.2.2 hdg hlocks
theorem cp_g01_n {v : Int32} {u : Unit} (h : cp_g01 v = some u) : narrow .boolean (.int v) = .int v := by
  unfold cp_g01 at h
  by_cases hv : v = 0 ∨ v = 1
  · rcases hv with rfl | rfl <;> decide
  · rw [if_neg hv] at h
    cases h
theorem cp_gby_n {v : Int32} {u : Unit} (h : cp_gby v = some u) : narrow .byte (.int v) = .int v := by
  unfold cp_gby at h
  by_cases hv : v.toInt8.toInt32 = v
  · rw [← hv]
    exact pk_nb v
  · rw [if_neg hv] at h
    cases h
theorem cp_ti (hx : p.tables.exec = Jvm.exec) (hb : c.code = cc) {A : Nat → Prop} {t N : Nat} {f : Nat → Int32} (hT : va_T .int t N (fun j => .int (f j)) A s s.heap) (hS : va_S A s.heap H locs) {i v : Int32} (hv : cp_tb N f i = some v) (hdg : decode cc pc = .ok (.iaload, 1))
    (kk : W p l e R s m args below meth c H locs cells slots Q (F0 m (pc + 1) ls (.int v :: rest))) : W p l e R s m args below meth c H locs cells slots Q (F0 m pc ls (.int i :: .ref t :: rest)) := by
  obtain ⟨h1, h2⟩ := cp_in hv
  cases h2
  exact va_ti hx hb hT hS h1 rfl hdg kk
theorem cp_copy (hx : p.tables.exec = Jvm.exec) (hb : c.code = cc) (hml : c.maxLocals = ls.size) {own : String} {index : Nat} (hown : s.vm.findClass own = some m.cls) (hlink : (Cond.methodLink own index arraycopyName).before args s = true) (hnat : (Cond.native arraycopyName).before args s = true) (hstat : (Cond.static arraycopyName).before args s = true) (hini : (Cond.initialized "java/lang/System").before args s = true)
    (hK : va_K G vwCl (cp_tys L) s) (hJ : cp_J L) (hP : va_P G vwCl (cp_ws L D) H) (hS : va_S (cp_A L) H0 H locs) {t k0 k1 : Nat} (ht : t = 0 ∨ t = 1) {sp dp n : Int32} {D' : cp_Dt} (hv : cp_cp L D t k0 sp k1 dp n = some D')
    (hframes : 1 ≤ R.frames) (hlocals : (rest.map fun v => v.category).sum + (nativeFrameWords "java/lang/System" "arraycopy" 5 + 11) ≤ R.locals) (hdg : decode cc pc = .ok (.invokestatic index, 3))
    (kk : ∀ (H1 : Heap) (locs1 : List Loc), va_P G vwCl (cp_ws L D') H1 → va_S (cp_A L) H0 H1 locs1 → W p l e R s m args below meth c H1 locs1 cells slots Q (F0 m (pc + 3) ls rest)) : W p l e R s m args below meth c H locs cells slots Q (F0 m pc ls (.int n :: .int dp :: .ref (L.2.1 k1) :: .int sp :: .ref (L.2.1 k0) :: rest)) := by
  obtain ⟨a, ha, hv⟩ := cp_bind hv
  obtain ⟨b, hb1, hv⟩ := cp_bind hv
  by_cases hc : sp < 0 ∨ dp < 0 ∨ n < 0 ∨ a.1 < sp.toNatClampNeg + n.toNatClampNeg ∨ b.1 < dp.toNatClampNeg + n.toNatClampNeg
  · rw [if_pos hc] at hv
    cases hv
  · rw [if_neg hc] at hv
    have c1 : ¬ sp < 0 := fun h => hc (Or.inl h)
    have c2 : ¬ dp < 0 := fun h => hc (Or.inr (Or.inl h))
    have c3 : ¬ n < 0 := fun h => hc (Or.inr (Or.inr (Or.inl h)))
    have c4 : sp.toNatClampNeg + n.toNatClampNeg ≤ a.1 := Nat.not_lt.mp fun h => hc (Or.inr (Or.inr (Or.inr (Or.inl h))))
    have c5 : dp.toNatClampNeg + n.toNatClampNeg ≤ b.1 := Nat.not_lt.mp fun h => hc (Or.inr (Or.inr (Or.inr (Or.inr h))))
    have h4 : ∀ (t : Nat) (hu : t = 0 ∨ t = 1), cp_ar L k1 t = some b → (cp_ws L D).set k1 (L.2.1 k1, .inl (L.2.2.2 t, b.1, .inl (va_cpy (D k0) (D k1) sp.toNatClampNeg dp.toNatClampNeg n.toNatClampNeg))) = cp_ws L (cp_upA D k1 (va_cpy (D k0) (D k1) sp.toNatClampNeg dp.toNatClampNeg n.toNatClampNeg)) := by
      intro t hu h1
      refine cp_ws_set ?_ (fun j hj => cp_upA_ne hj)
      unfold cp_ce
      rw [(cp_ar_spec h1).2, cp_upA_eq]
      rcases hu with rfl | rfl <;> rfl
    rcases ht with rfl | rfl
    · rw [if_neg (fun h => by have := h.1; omega)] at hv
      cases hv
      exact va_copyi hx hb hml hown hlink hnat hstat hini hK hP (cp_D hJ D) hS k0 k1 0 0 (ty := .int) (cp_cell0 ha) (cp_cell0 hb1) rfl rfl rfl c1 c2 c3 c4 c5 (fun _ _ => rfl) hframes hlocals hdg (fun H1 locs1 p1 _ s1 => kk H1 locs1 (h4 0 (Or.inl rfl) hb1 ▸ p1) s1)
    · by_cases hy : (List.range n.toNatClampNeg).all (fun i => fits .byte (.int (D k0 (sp.toNatClampNeg + i)))) = false
      · rw [if_pos ⟨rfl, hy⟩] at hv
        cases hv
      · rw [if_neg (fun h => hy h.2)] at hv
        cases hv
        have hy1 : (List.range n.toNatClampNeg).all (fun i => fits .byte (.int (D k0 (sp.toNatClampNeg + i)))) = true := by
          cases h : (List.range n.toNatClampNeg).all (fun i => fits .byte (.int (D k0 (sp.toNatClampNeg + i)))) with
          | true => rfl
          | false => exact absurd h hy
        exact va_copyi hx hb hml hown hlink hnat hstat hini hK hP (cp_D hJ D) hS k0 k1 1 1 (ty := .byte) (cp_cell1 ha) (cp_cell1 hb1) rfl rfl rfl c1 c2 c3 c4 c5 (fun i hi => List.all_eq_true.mp hy1 i (List.mem_range.mpr hi)) hframes hlocals hdg (fun H1 locs1 p1 _ s1 => kk H1 locs1 (h4 1 (Or.inr rfl) hb1 ▸ p1) s1)
end CPC
