/-! The world of the claim in one layout: places 0 .. N - 1, each an object or an array; 'ad' their addresses, 'sh' their shapes (an array: kind, length, places its references name; an object: number of its class, its fields: none an int, some none a null, some (some t) a reference to place t), 'ca' the array classes by kind (0 int, 1 byte, 2 Animal, 3 long). The ints of the world are ONE function of place and index, D. -/
abbrev cp_Sh : Type := (Nat × Nat × (Nat → Option Nat)) ⊕ (Nat × List (Option (Option Nat)))
abbrev cp_Lay : Type := Nat × (Nat → Nat) × (Nat → cp_Sh) × (Nat → ClassId)
abbrev cp_Dt : Type := Nat → Nat → Int32
def cp_fv (ad : Nat → Nat) (g : Nat → Int32) (j : Nat) (o : Option (Option Nat)) : Value := match o with
  | none => .int (g j)
  | some r => va_rf (r.map ad)
def cp_ac (ad : Nat → Nat) (g : Nat → Int32) (t n : Nat) (tg : Nat → Option Nat) : vp_A := (n, if t = 2 then .inr (.inr (.inr (.inr (fun i => (tg i).map ad)))) else if t = 3 then .inr (.inl (fun i => (g i).toInt64)) else .inl g)
def cp_ce (L : cp_Lay) (D : cp_Dt) (k : Nat) : va_E := match L.2.2.1 k with
  | .inl a => .inl (L.2.2.2 a.1, cp_ac L.2.1 (D k) a.1 a.2.1 a.2.2)
  | .inr o => .inr (o.1, o.2.mapIdx (cp_fv L.2.1 (D k)))
def cp_ws (L : cp_Lay) (D : cp_Dt) : va_W := (List.range L.1).map (fun k => (L.2.1 k, cp_ce L D k))
def cp_up (D : cp_Dt) (k j : Nat) (v : Int32) : cp_Dt := fun k' => if k' = k then upd (D k) j v else D k'
def cp_upA (D : cp_Dt) (k : Nat) (f : Nat → Int32) : cp_Dt := fun k' => if k' = k then f else D k'
theorem cp_bind {α β : Type} {x : Option α} {f : α → Option β} {r : β} (h : x.bind f = some r) : ∃ v, x = some v ∧ f v = some r := by
  cases x with
  | none => cases h
  | some v => exact ⟨v, rfl, h⟩
theorem cp_ws_get {L : cp_Lay} {D : cp_Dt} {k : Nat} (h : k < L.1) : (cp_ws L D)[k]? = some (L.2.1 k, cp_ce L D k) := by
  simp [cp_ws, h]
theorem cp_ws_inv {L : cp_Lay} {D : cp_Dt} {k : Nat} {q : Nat × va_E} (h : (cp_ws L D)[k]? = some q) : k < L.1 ∧ q = (L.2.1 k, cp_ce L D k) := by
  by_cases hk : k < L.1
  · rw [cp_ws_get hk] at h
    exact ⟨hk, (Option.some.inj h).symm⟩
  · rw [List.getElem?_eq_none (by simp [cp_ws]; omega)] at h
    cases h
theorem cp_ws_set {L : cp_Lay} {D D' : cp_Dt} {k : Nat} {e : va_E} (he : cp_ce L D' k = e) (ho : ∀ j, j ≠ k → D' j = D j) : (cp_ws L D).set k (L.2.1 k, e) = cp_ws L D' := by
  apply List.ext_getElem?
  intro i
  by_cases hi : i < L.1
  · rw [cp_ws_get hi]
    by_cases hk : i = k
    · subst hk
      rw [List.getElem?_set_self (by simp [cp_ws]; exact hi), he]
    · rw [List.getElem?_set_ne (fun h => hk h.symm), cp_ws_get hi]
      unfold cp_ce
      rw [ho i hk]
  · rw [List.getElem?_eq_none (by simp [cp_ws]; omega), List.getElem?_eq_none (by simp [cp_ws]; omega)]
theorem cp_up_ne {D : cp_Dt} {k j i : Nat} {v : Int32} (h : j ≠ k) : cp_up D k i v j = D j := if_neg h
theorem cp_up_eq {D : cp_Dt} {k i : Nat} {v : Int32} : cp_up D k i v k = upd (D k) i v := if_pos rfl
theorem cp_upA_ne {D : cp_Dt} {k j : Nat} {f : Nat → Int32} (h : j ≠ k) : cp_upA D k f j = D j := if_neg h
theorem cp_upA_eq {D : cp_Dt} {k : Nat} {f : Nat → Int32} : cp_upA D k f k = f := if_pos rfl
/-- what a read or a write asks of the layout, as functions that answer none where it isn't so -/
def cp_fl (L : cp_Lay) (k ci : Nat) : Option (List (Option (Option Nat))) := if k < L.1 then (match L.2.2.1 k with
  | .inr o => if o.1 = ci then some o.2 else none
  | .inl _ => none) else none
def cp_ar (L : cp_Lay) (k t : Nat) : Option (Nat × (Nat → Option Nat)) := if k < L.1 then (match L.2.2.1 k with
  | .inl a => if a.1 = t then some a.2 else none
  | .inr _ => none) else none
def cp_gI (L : cp_Lay) (D : cp_Dt) (k ci j : Nat) : Option Int32 := (cp_fl L k ci).bind fun fl => if fl[j]? = some none then some (D k j) else none
def cp_gR (L : cp_Lay) (k ci j : Nat) : Option Nat := (cp_fl L k ci).bind fun fl => ((fl[j]?).bind id).bind id
def cp_pI (L : cp_Lay) (D : cp_Dt) (k ci j : Nat) (v : Int32) : Option cp_Dt := (cp_fl L k ci).bind fun fl => if fl[j]? = some none then some (cp_up D k j v) else none
def cp_pZ (L : cp_Lay) (D : cp_Dt) (k ci j : Nat) (v : Int32) : Option cp_Dt := if v = 0 ∨ v = 1 then cp_pI L D k ci j v else none
def cp_aI (L : cp_Lay) (D : cp_Dt) (t k : Nat) (i : Int32) : Option Int32 := (cp_ar L k t).bind fun a => if i < 0 ∨ a.1 ≤ i.toNatClampNeg then none else some (D k i.toNatClampNeg)
def cp_aS (L : cp_Lay) (D : cp_Dt) (t k : Nat) (i x : Int32) : Option cp_Dt := (cp_ar L k t).bind fun a => if i < 0 ∨ a.1 ≤ i.toNatClampNeg then none else some (cp_up D k i.toNatClampNeg x)
def cp_aR (L : cp_Lay) (k : Nat) (i : Int32) : Option Nat := (cp_ar L k 2).bind fun a => if i < 0 ∨ a.1 ≤ i.toNatClampNeg then none else a.2 i.toNatClampNeg
def cp_aL (L : cp_Lay) (t k : Nat) : Option Int32 := (cp_ar L k t).bind fun a => some (Int32.ofNat a.1)
def cp_tb (N : Nat) (f : Nat → Int32) (i : Int32) : Option Int32 := if i < 0 ∨ N ≤ i.toNatClampNeg then none else some (f i.toNatClampNeg)
def cp_nz (y : Int32) : Option Unit := if y = 0 then none else some ()
def cp_g01 (v : Int32) : Option Unit := if v = 0 ∨ v = 1 then some () else none
def cp_gby (v : Int32) : Option Unit := if v.toInt8.toInt32 = v then some () else none
def cp_mn (x y : Int32) : Int32 := if y < x then y else x
def cp_mx (x y : Int32) : Int32 := if x < y then y else x
/-- arraycopy of ints or bytes between two arrays of kind t -/
def cp_cp (L : cp_Lay) (D : cp_Dt) (t k0 : Nat) (sp : Int32) (k1 : Nat) (dp n : Int32) : Option cp_Dt := (cp_ar L k0 t).bind fun a => (cp_ar L k1 t).bind fun b =>
  if sp < 0 ∨ dp < 0 ∨ n < 0 ∨ a.1 < sp.toNatClampNeg + n.toNatClampNeg ∨ b.1 < dp.toNatClampNeg + n.toNatClampNeg then none
  else if t = 1 ∧ (List.range n.toNatClampNeg).all (fun i => fits .byte (.int (D k0 (sp.toNatClampNeg + i)))) = false then none
  else some (cp_upA D k1 (va_cpy (D k0) (D k1) sp.toNatClampNeg dp.toNatClampNeg n.toNatClampNeg))
theorem cp_nz_ne {y : Int32} {u : Unit} (h : cp_nz y = some u) : ¬ y = 0 := by
  intro hy
  rw [cp_nz, if_pos hy] at h
  cases h
theorem cp_fl_spec {L : cp_Lay} {k ci : Nat} {fl : List (Option (Option Nat))} (h : cp_fl L k ci = some fl) : k < L.1 ∧ L.2.2.1 k = .inr (ci, fl) := by
  unfold cp_fl at h
  by_cases hk : k < L.1
  · rw [if_pos hk] at h
    refine ⟨hk, ?_⟩
    cases hs : L.2.2.1 k with
    | inl a => rw [hs] at h; cases h
    | inr o =>
      rw [hs] at h
      obtain ⟨c, f⟩ := o
      dsimp only at h
      by_cases hc : c = ci
      · rw [if_pos hc] at h
        cases h
        rw [hc]
      · rw [if_neg hc] at h
        cases h
  · rw [if_neg hk] at h
    cases h
theorem cp_ar_spec {L : cp_Lay} {k t : Nat} {a : Nat × (Nat → Option Nat)} (h : cp_ar L k t = some a) : k < L.1 ∧ L.2.2.1 k = .inl (t, a) := by
  unfold cp_ar at h
  by_cases hk : k < L.1
  · rw [if_pos hk] at h
    refine ⟨hk, ?_⟩
    cases hs : L.2.2.1 k with
    | inr o => rw [hs] at h; cases h
    | inl o =>
      rw [hs] at h
      obtain ⟨c, f⟩ := o
      dsimp only at h
      by_cases hc : c = t
      · rw [if_pos hc] at h
        cases h
        rw [hc]
      · rw [if_neg hc] at h
        cases h
  · rw [if_neg hk] at h
    cases h
theorem cp_fl_cell {L : cp_Lay} {D : cp_Dt} {k ci : Nat} {fl : List (Option (Option Nat))} (h : cp_fl L k ci = some fl) : (cp_ws L D)[k]? = some (L.2.1 k, .inr (ci, fl.mapIdx (cp_fv L.2.1 (D k)))) := by
  obtain ⟨hk, hs⟩ := cp_fl_spec h
  rw [cp_ws_get hk]
  unfold cp_ce
  rw [hs]
theorem cp_ar_cell {L : cp_Lay} {D : cp_Dt} {k t : Nat} {a : Nat × (Nat → Option Nat)} (h : cp_ar L k t = some a) : (cp_ws L D)[k]? = some (L.2.1 k, .inl (L.2.2.2 t, cp_ac L.2.1 (D k) t a.1 a.2)) := by
  obtain ⟨hk, hs⟩ := cp_ar_spec h
  rw [cp_ws_get hk]
  unfold cp_ce
  rw [hs]
theorem cp_gI_spec {L : cp_Lay} {D : cp_Dt} {k ci j : Nat} {v : Int32} (h : cp_gI L D k ci j = some v) : ∃ fl, cp_fl L k ci = some fl ∧ (fl.mapIdx (cp_fv L.2.1 (D k)))[j]? = some (.int v) := by
  obtain ⟨fl, h1, h2⟩ := cp_bind h
  refine ⟨fl, h1, ?_⟩
  by_cases hj : fl[j]? = some none
  · rw [if_pos hj] at h2
    cases h2
    rw [List.getElem?_mapIdx, hj]
    rfl
  · rw [if_neg hj] at h2
    cases h2
theorem cp_gR_spec {L : cp_Lay} {D : cp_Dt} {k ci j t : Nat} (h : cp_gR L k ci j = some t) : ∃ fl, cp_fl L k ci = some fl ∧ (fl.mapIdx (cp_fv L.2.1 (D k)))[j]? = some (.ref (L.2.1 t)) := by
  obtain ⟨fl, h1, h2⟩ := cp_bind h
  refine ⟨fl, h1, ?_⟩
  obtain ⟨o, h3, h4⟩ := cp_bind h2
  obtain ⟨o1, h5, h6⟩ := cp_bind h3
  rw [List.getElem?_mapIdx, h5]
  cases h6
  cases h4
  rfl
theorem cp_pI_spec {L : cp_Lay} {D D' : cp_Dt} {k ci j : Nat} {v : Int32} (h : cp_pI L D k ci j v = some D') : ∃ fl, cp_fl L k ci = some fl ∧ j < (fl.mapIdx (cp_fv L.2.1 (D k))).length ∧ (cp_ws L D).set k (L.2.1 k, .inr (ci, (fl.mapIdx (cp_fv L.2.1 (D k))).set j (.int v))) = cp_ws L D' := by
  obtain ⟨fl, h1, h2⟩ := cp_bind h
  by_cases hj : fl[j]? = some none
  · rw [if_pos hj] at h2
    cases h2
    have hl : j < fl.length := (List.getElem?_eq_some_iff.mp hj).1
    refine ⟨fl, h1, by simpa using hl, cp_ws_set ?_ (fun i hi => cp_up_ne hi)⟩
    obtain ⟨hk, hs⟩ := cp_fl_spec h1
    unfold cp_ce
    rw [hs]
    dsimp only
    congr 2
    apply List.ext_getElem?
    intro i
    rw [List.getElem?_mapIdx, cp_up_eq]
    by_cases hi : i = j
    · subst hi
      rw [hj, List.getElem?_set_self (by simpa using hl)]
      simp [cp_fv, upd]
    · rw [List.getElem?_set_ne (fun q => hi q.symm), List.getElem?_mapIdx]
      congr 1
      funext o
      cases o with
      | none => simp [cp_fv, upd, hi]
      | some t => rfl
  · rw [if_neg hj] at h2
    cases h2
