/-! Making objects: the world grows by the next cell, B + S.1 -/
abbrev cn_S : Type := Nat × (Nat → cp_Sh)
def cn_L (B : Nat) (ca : Nat → ClassId) (S : cn_S) : cp_Lay := (S.1, (fun k => B + k), S.2, ca)
def cn_A (B : Nat) : Nat → Prop := fun q => B ≤ q
def cn_nw (S : cn_S) (z : cp_Sh) : cn_S := (S.1 + 1, va_up S.2 S.1 z)
def cn_z (D : cp_Dt) (k : Nat) : cp_Dt := cp_upA D k (fun _ => 0)
def cn_ln (n : Int32) (K : Nat) : Option Nat := if n < 0 ∨ K < n.toNatClampNeg then none else some n.toNatClampNeg
def cn_pR (S : cn_S) (k ci j t : Nat) : Option cn_S := if k < S.1 then (match S.2 k with
  | .inr o => if o.1 = ci ∧ j < o.2.length then some (S.1, va_up S.2 k (.inr (ci, o.2.set j (some (some t))))) else none
  | .inl _ => none) else none
def cn_aR (S : cn_S) (k : Nat) (i : Int32) (t : Nat) : Option cn_S := if k < S.1 ∧ t < S.1 then (match S.2 k, S.2 t with
  | .inl a, .inr o => if a.1 = 2 ∧ o.1 = 1 ∧ ¬ (i < 0 ∨ a.2.1 ≤ i.toNatClampNeg) then some (S.1, va_up S.2 k (.inl (2, a.2.1, va_up a.2.2 i.toNatClampNeg (some t)))) else none
  | _, _ => none) else none
theorem cn_D (B : Nat) (ca : Nat → ClassId) (S : cn_S) (D : cp_Dt) : va_D (cn_A B) (cp_ws (cn_L B ca S) D) := by
  refine ⟨fun i j x y hi hj hxy => ?_, fun k q hk => ?_⟩
  · obtain ⟨-, rfl⟩ := cp_ws_inv hi
    obtain ⟨-, rfl⟩ := cp_ws_inv hj
    have : B + i = B + j := hxy
    omega
  · obtain ⟨-, rfl⟩ := cp_ws_inv hk
    show B ≤ B + k
    omega
theorem cn_J (B : Nat) (ca : Nat → ClassId) (S : cn_S) : cp_J (cn_L B ca S) := by
  intro i j _ _ h
  have : B + i = B + j := h
  omega
theorem cn_sub {B : Nat} {ca : Nat → ClassId} {S : cn_S} : ∀ q, cp_A (cn_L B ca S) q → cn_A B q := by
  rintro q ⟨k, -, rfl⟩
  show B ≤ B + k
  omega
theorem cn_push {B : Nat} {ca : Nat → ClassId} {S : cn_S} {D D' : cp_Dt} {z : cp_Sh} {e : va_E} (hD : ∀ k, k < S.1 → D' k = D k) (he : cp_ce (cn_L B ca (cn_nw S z)) D' S.1 = e) : cp_ws (cn_L B ca S) D ++ [(B + S.1, e)] = cp_ws (cn_L B ca (cn_nw S z)) D' := by
  have hl : (cp_ws (cn_L B ca S) D).length = S.1 := by simp [cp_ws, cn_L]
  apply List.ext_getElem?
  intro i
  by_cases hi : i < S.1
  · rw [List.getElem?_append_left (by omega), cp_ws_get (L := cn_L B ca S) hi, cp_ws_get (L := cn_L B ca (cn_nw S z)) (show i < S.1 + 1 by omega)]
    have h2 : cp_ce (cn_L B ca (cn_nw S z)) D' i = cp_ce (cn_L B ca S) D i := by
      unfold cp_ce
      rw [hD i hi]
      show (match va_up S.2 S.1 z i with | .inl a => _ | .inr o => _) = _
      rw [show va_up S.2 S.1 z i = S.2 i from if_neg (by omega)]
      rfl
    rw [h2]
    rfl
  · by_cases hn : i = S.1
    · subst hn
      rw [List.getElem?_append_right (by omega), cp_ws_get (L := cn_L B ca (cn_nw S z)) (show S.1 < S.1 + 1 by omega), he, hl]
      simp [cn_L]
    · rw [List.getElem?_eq_none (by simp [hl]; omega), List.getElem?_eq_none (by simp [cp_ws, cn_L, cn_nw]; omega)]
theorem cn_wset {B : Nat} {ca : Nat → ClassId} {S S' : cn_S} {D : cp_Dt} {k : Nat} {z : cp_Sh} {e : va_E} (hk : S' = (S.1, va_up S.2 k z)) (he : cp_ce (cn_L B ca S') D k = e) : (cp_ws (cn_L B ca S) D).set k (B + k, e) = cp_ws (cn_L B ca S') D := by
  subst hk
  apply List.ext_getElem?
  intro i
  by_cases hi : i < S.1
  · rw [cp_ws_get (L := cn_L B ca (S.1, va_up S.2 k z)) hi]
    by_cases hik : i = k
    · subst hik
      rw [List.getElem?_set_self (by simp [cp_ws, cn_L]; exact hi), he]
      rfl
    · rw [List.getElem?_set_ne (fun h => hik h.symm), cp_ws_get (L := cn_L B ca S) hi]
      unfold cp_ce
      show _ = some (B + i, match va_up S.2 k z i with | .inl a => _ | .inr o => _)
      rw [show va_up S.2 k z i = S.2 i from if_neg hik]
      rfl
  · rw [List.getElem?_eq_none (by simp [cp_ws, cn_L]; omega), List.getElem?_eq_none (by simp [cp_ws, cn_L]; omega)]
/-- where a constructor stands: the world, its next cell, how many it has made -/
def cn_I (G : va_G) (B : Nat) (ca : Nat → ClassId) (S : cn_S) (D : cp_Dt) (s : State) (H : Heap) (locs : List Loc) (cells : Nat) : Prop := va_P G vwCl (cp_ws (cn_L B ca S) D) H ∧ H.size = B + S.1 ∧ s.heap.size + cells = B + S.1 ∧ va_S (cn_A B) s.heap H locs
def cn_Pre (G : va_G) (B : Nat) (ca : Nat → ClassId) (S : cn_S) (D : cp_Dt) (U : State) : Prop := va_P G vwCl (cp_ws (cn_L B ca S) D) U.heap ∧ U.heap.size = B + S.1 ∧ va_K G vwCl (cp_tys (cn_L B ca S)) U ∧ cp_N cp_nw U ∧ cp_Z (cn_A B) U U.heap ∧ va_AO "CreaturePond$Animal" U
def cn_Q (G : va_G) (B : Nat) (ca : Nat → ClassId) (S : cn_S) (mc : Nat) (S' : cn_S) (D' : cp_Dt) : Array Value → State → Outcome → State → Prop := fun _ st oc t => (oc = .returned none ∧ va_P G vwCl (cp_ws (cn_L B ca S') D') t.heap ∧ t.heap.size = B + S'.1 ∧ S'.1 = S.1 + mc) ∧ va_F (cn_A B) st t
def cn_Met (l : Launch) (G : va_G) (y : MethodName) (ws : List Cond) (rm : Room) (mc ms B : Nat) (ca : Nat → ClassId) (av : List Value) (S : cn_S) (D : cp_Dt) (S' : cn_S) (D' : cp_Dt) : Prop := Met l y ws rm (va_Pc av (cn_Pre G B ca S D)) (cn_Q G B ca S mc S' D') mc ms (cn_A B)
theorem cn_blind {G : va_G} {B : Nat} {ca : Nat → ClassId} {S : cn_S} {D : cp_Dt} {av : List Value} : FrameBlind (va_Pc av (cn_Pre G B ca S D)) := by
  intro a U g mk h
  obtain ⟨h0, h1, h2, h3, h4, h5, h6⟩ := h
  exact ⟨h0, h1, h2, va_K.moved (u := U) (U := U.calling g mk a) (Vm.Alike.refl U.vm) h3, cp_N.same (u := U) (U := U.calling g mk a) cp_nw_ok rfl h4, cp_Z.moved (u := U) (U := U.calling g mk a) (Vm.Alike.refl U.vm) h5, va_AO.moved (u := U) (U := U.calling g mk a) (Vm.Alike.refl U.vm) h6⟩
section CN
variable {p : Program} {l : Launch} {e : Env} {R : Room} {s : State} {m : MethodId} {args : Array Value} {below : List Frame} {meth : Method} {c : Code} {H : Heap} {locs : List Loc} {cells slots : Nat} {Q : State → Prop}
variable {cc : ByteArray} {pc : Nat} {ls : Array Slot} {rest : List Value} {G : va_G} {B : Nat} {ca : Nat → ClassId} {S S' : cn_S} {D D' : cp_Dt}
theorem cn_pre {av : List Value} (hI : cn_I G B ca S D s H locs cells) (hK : va_K G vwCl (cp_tys (cn_L B ca S)) s) (hN : cp_N cp_nw s) (hZ : cp_Z (cn_A B) s s.heap) (hO : va_AO "CreaturePond$Animal" s) : ∀ U : State, U.heap = H → s.WarmedH U.vm → va_Pc av (cn_Pre G B ca S D) av.toArray U := by
  intro U hU hW
  refine ⟨rfl, by rw [hU]; exact hI.1, by rw [hU]; exact hI.2.1, va_K.moved hW.alike hK, cp_N.warm cp_nw_ok hW hN, ?_, hO.moved hW.alike⟩
  rw [hU]
  exact (cp_Z.moved hW.alike hZ).kept hI.2.2.2.2.1
theorem cn_new (hx : p.tables.exec = Jvm.exec) (hb : c.code = cc) {own C : String} {T : u_T} {N ci index : Nat} {Ts : List Cond} (hts : ∀ w ∈ Ts, w.before args s = true) (hin : ∀ w ∈ u_ws C T N, w ∈ Ts) (ty : Nat → FieldType) (hty : ∀ k, k < N → parseFieldDescriptor (T k).2.2.1 = some (ty k)) (hown : s.vm.findClass own = some m.cls) (hcl : (Cond.classLink own index C).before args s = true) (hinst : (Cond.instantiable C N).before args s = true) (hini : (Cond.initialized C).before args s = true)
    (hK : va_K G vwCl (cp_tys (cn_L B ca S)) s) (hI : cn_I G B ca S D s H locs cells) (hc : vwCl[ci]? = some (C, T, N)) {fl : List (Option (Option Nat))} (hfl : ∀ j, j < N → ∀ g : Nat → Nat, defaultValue (ty j) = vp_V (fl.mapIdx (cp_fv g (fun _ => 0))) j) (hcells : cells + 1 ≤ R.cells) (hslots : slots + N ≤ R.slots) (hdg : decode cc pc = .ok (.new index, 3))
    (kk : ∀ H1 : Heap, cn_I G B ca (cn_nw S (.inr (ci, fl))) (cn_z D S.1) s H1 locs (cells + 1) → W p l e R s m args below meth c H1 locs (cells + 1) (slots + N) Q (F0 m (pc + 3) ls (.ref (B + S.1) :: rest))) : W p l e R s m args below meth c H locs cells slots Q (F0 m pc ls rest) := by
  obtain ⟨hP, hz, hn, hS⟩ := hI
  have hKn := hK.1 ci _ hc
  refine W.newcK hx hb hown hcl hinst hini rfl hdg hcells hslots hKn.2.1 hz fun H1 kC hkC e1 z1 o1 => ?_
  refine kk H1 ⟨?_, by show H1.size = B + (S.1 + 1); omega, by show s.heap.size + (cells + 1) = B + (S.1 + 1); omega, ⟨Nat.le_trans hS.1 (by omega), fun x h1 h2 => (o1 x (by have := hS.1; omega)).trans (hS.2.1 x h1 h2), hS.2.2⟩⟩
  have hw : cp_ws (cn_L B ca S) D ++ [(B + S.1, .inr (ci, fl.mapIdx (cp_fv (fun k => B + k) (fun _ => 0))))] = cp_ws (cn_L B ca (cn_nw S (.inr (ci, fl)))) (cn_z D S.1) := by
    refine cn_push (fun k hk => cp_upA_ne (by omega)) ?_
    unfold cp_ce
    rw [show cn_z D S.1 S.1 = fun _ => 0 from cp_upA_eq]
    show (match va_up S.2 S.1 (.inr (ci, fl)) S.1 with | .inl a => _ | .inr o => _) = _
    rw [show va_up S.2 S.1 (.inr (ci, fl)) S.1 = .inr (ci, fl) from if_pos rfl]
    rfl
  rw [← hw]
  refine (hP.kept (fun k x hk => o1 x.1 (by have := (hP k x hk).lt; omega))).app (fun k x hx => ?_)
  have hk0 : k < 1 := (List.getElem?_eq_some_iff.mp hx).1
  rw [show k = 0 by omega] at hx
  cases hx
  exact ⟨_, hc, (u_born ty hts hin hKn hkC e1 hty).to (fun j hj => hfl j hj _)⟩
theorem cn_newa (hx : p.tables.exec = Jvm.exec) (hb : c.code = cc) {atype : ArrayType} {t K : Nat} (ht : (t = 0 ∧ newarray.typeOf atype = .int) ∨ (t = 1 ∧ newarray.typeOf atype = .byte) ∨ (t = 3 ∧ newarray.typeOf atype = .long)) (harr : (Cond.arrayClass (newarray.typeOf atype)).before args s = true) (hK : va_K G vwCl (cp_tys (cn_L B ca S)) s) (hI : cn_I G B ca S D s H locs cells)
    {n : Int32} {N' : Nat} (hln : cn_ln n K = some N') (hK8 : K * 8 ≤ 536870912) (hcells : cells + 1 ≤ R.cells) (hslots : slots + K ≤ R.slots) (hdg : decode cc pc = .ok (.newarray atype, 2))
    (kk : ∀ H1 : Heap, cn_I G B ca (cn_nw S (.inl (t, N', fun _ => none))) (cn_z D S.1) s H1 locs (cells + 1) → W p l e R s m args below meth c H1 locs (cells + 1) (slots + K) Q (F0 m (pc + 2) ls (.ref (B + S.1) :: rest))) : W p l e R s m args below meth c H locs cells slots Q (F0 m pc ls (.int n :: rest)) := by
  obtain ⟨hP, hz, hn, hS⟩ := hI
  have hl : ¬ n < 0 ∧ n.toNatClampNeg ≤ K ∧ n.toNatClampNeg = N' := by
    unfold cn_ln at hln
    by_cases hc : n < 0 ∨ K < n.toNatClampNeg
    · rw [if_pos hc] at hln
      cases hln
    · rw [if_neg hc] at hln
      exact ⟨fun h => hc (Or.inl h), Nat.not_lt.mp fun h => hc (Or.inr h), Option.some.inj hln⟩
  obtain ⟨hl1, hl2, rfl⟩ := hl
  have hcb : componentBytes (newarray.typeOf atype) ≤ 8 := by cases atype <;> decide
  refine va_newaK hx hb harr rfl hdg rfl hl1 rfl (Nat.le_trans (Nat.mul_le_mul hl2 hcb) hK8) hcells (Nat.le_trans (Nat.add_le_add_left hl2 _) hslots) hz fun H1 cA e1 z1 o1 hAr hNm => ?_
  refine W.widen (Nat.le_refl _) (Nat.add_le_add_left hl2 slots) (kk H1 ⟨?_, by show H1.size = B + (S.1 + 1); omega, by show s.heap.size + (cells + 1) = B + (S.1 + 1); omega, ⟨Nat.le_trans hS.1 (by omega), fun x h1 h2 => (o1 x (by have := hS.1; omega)).trans (hS.2.1 x h1 h2), hS.2.2⟩⟩)
  have hw : cp_ws (cn_L B ca S) D ++ [(B + S.1, .inl (ca t, cp_ac (fun k => B + k) (fun _ => 0) t n.toNatClampNeg (fun _ => none)))] = cp_ws (cn_L B ca (cn_nw S (.inl (t, n.toNatClampNeg, fun _ => none)))) (cn_z D S.1) := by
    refine cn_push (fun k hk => cp_upA_ne (by omega)) ?_
    unfold cp_ce
    rw [show cn_z D S.1 S.1 = fun _ => 0 from cp_upA_eq]
    show (match va_up S.2 S.1 (.inl (t, n.toNatClampNeg, fun _ => none)) S.1 with | .inl a => _ | .inr o => _) = _
    rw [show va_up S.2 S.1 (.inl (t, n.toNatClampNeg, fun _ => none)) S.1 = .inl (t, n.toNatClampNeg, fun _ => none) from if_pos rfl]
    rfl
  rw [← hw]
  refine (hP.kept (fun k x hk => o1 x.1 (by have := (hP k x hk).lt; omega))).app (fun k x hx => ?_)
  have hk0 : k < 1 := (List.getElem?_eq_some_iff.mp hx).1
  rw [show k = 0 by omega] at hx
  cases hx
  show H1[B + S.1]? = some (vp_cell _ _)
  rw [e1]
  rcases ht with ⟨rfl, h2⟩ | ⟨rfl, h2⟩ | ⟨rfl, h2⟩
  · rw [h2] at hNm ⊢
    have : cA = ca 0 := Option.some.inj (hNm.symm.trans (hK.2 0 _ rfl).2)
    rw [this]
    rfl
  · rw [h2] at hNm ⊢
    have : cA = ca 1 := Option.some.inj (hNm.symm.trans (hK.2 1 _ rfl).2)
    rw [this]
    rfl
  · rw [h2] at hNm ⊢
    have : cA = ca 3 := Option.some.inj (hNm.symm.trans (hK.2 3 _ rfl).2)
    rw [this]
    rfl
theorem cn_newq (hx : p.tables.exec = Jvm.exec) (hb : c.code = cc) {own : String} {index : Nat} (hown : s.vm.findClass own = some m.cls) (hclink : (Cond.classLink own index "CreaturePond$Animal").before args s = true) (hover : va_AO "CreaturePond$Animal" s) (hK : va_K G vwCl (cp_tys (cn_L B ca S)) s) (hI : cn_I G B ca S D s H locs cells)
    {n : Int32} {N' K : Nat} (hln : cn_ln n K = some N') (hK8 : K * 8 ≤ 536870912) (hcells : cells + 1 ≤ R.cells) (hslots : slots + K ≤ R.slots) (hdg : decode cc pc = .ok (.anewarray index, 3))
    (kk : ∀ H1 : Heap, cn_I G B ca (cn_nw S (.inl (2, N', fun _ => none))) (cn_z D S.1) s H1 locs (cells + 1) → W p l e R s m args below meth c H1 locs (cells + 1) (slots + K) Q (F0 m (pc + 3) ls (.ref (B + S.1) :: rest))) : W p l e R s m args below meth c H locs cells slots Q (F0 m pc ls (.int n :: rest)) := by
  obtain ⟨hP, hz, hn, hS⟩ := hI
  have hl : ¬ n < 0 ∧ n.toNatClampNeg ≤ K ∧ n.toNatClampNeg = N' := by
    unfold cn_ln at hln
    by_cases hc : n < 0 ∨ K < n.toNatClampNeg
    · rw [if_pos hc] at hln
      cases hln
    · rw [if_neg hc] at hln
      exact ⟨fun h => hc (Or.inl h), Nat.not_lt.mp fun h => hc (Or.inr h), Option.some.inj hln⟩
  obtain ⟨hl1, hl2, rfl⟩ := hl
  refine W.anew hx hb hown hclink (va_AO.use hover) rfl hdg rfl hl1 (by omega) hcells (Nat.le_trans (Nat.add_le_add_left hl2 _) hslots) fun cA kA comp f1 f2 f3 f4 => ?_
  generalize hH1 : H.push ({ cls := cA, slots := Array.replicate n.toNatClampNeg .null, vm := .none } : Cell) = H1
  have z1 : H1.size = H.size + 1 := by rw [← hH1, Array.size_push]
  have e1 : H1[H.size]? = some (arrV cA n.toNatClampNeg (fun _ => .null)) := by rw [← hH1, Array.getElem?_push_size, ← arrV_new]
  have o1 : ∀ q : Nat, q < H.size → H1[q]? = H[q]? := fun q hq => by rw [← hH1, Array.getElem?_push, if_neg (Nat.ne_of_lt hq)]
  rw [hz] at e1 z1 ⊢
  refine W.widen (Nat.le_refl _) (Nat.add_le_add_left hl2 slots) (kk H1 ⟨?_, by show H1.size = B + (S.1 + 1); omega, by show s.heap.size + (cells + 1) = B + (S.1 + 1); omega, ⟨Nat.le_trans hS.1 (by omega), fun x h1 h2 => (o1 x (by have := hS.1; omega)).trans (hS.2.1 x h1 h2), hS.2.2⟩⟩)
  have hw : cp_ws (cn_L B ca S) D ++ [(B + S.1, .inl (ca 2, cp_ac (fun k => B + k) (fun _ => 0) 2 n.toNatClampNeg (fun _ => none)))] = cp_ws (cn_L B ca (cn_nw S (.inl (2, n.toNatClampNeg, fun _ => none)))) (cn_z D S.1) := by
    refine cn_push (fun k hk => cp_upA_ne (by omega)) ?_
    unfold cp_ce
    rw [show cn_z D S.1 S.1 = fun _ => 0 from cp_upA_eq]
    show (match va_up S.2 S.1 (.inl (2, n.toNatClampNeg, fun _ => none)) S.1 with | .inl a => _ | .inr o => _) = _
    rw [show va_up S.2 S.1 (.inl (2, n.toNatClampNeg, fun _ => none)) S.1 = .inl (2, n.toNatClampNeg, fun _ => none) from if_pos rfl]
    rfl
  rw [← hw]
  refine (hP.kept (fun k x hk => o1 x.1 (by have := (hP k x hk).lt; omega))).app (fun k x hx => ?_)
  have hk0 : k < 1 := (List.getElem?_eq_some_iff.mp hx).1
  rw [show k = 0 by omega] at hx
  cases hx
  show H1[B + S.1]? = some (vp_cell _ _)
  rw [e1]
  obtain ⟨-, kA', comp', -, -, -, hf⟩ := hK.2 2 _ rfl
  have : cA = ca 2 := Option.some.inj (f1.symm.trans hf)
  rw [this]
  rfl
end CN
