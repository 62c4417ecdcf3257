/-! The kit's rows, said of the one layout -/
def cp_A (L : cp_Lay) : Nat → Prop := fun q => ∃ k, k < L.1 ∧ L.2.1 k = q
def cp_J (L : cp_Lay) : Prop := ∀ i j, i < L.1 → j < L.1 → L.2.1 i = L.2.1 j → i = j
def cp_tys (L : cp_Lay) : List (ClassId × FieldType) := [(L.2.2.2 0, .int), (L.2.2.2 1, .byte), (L.2.2.2 2, .object "CreaturePond$Animal"), (L.2.2.2 3, .long)]
theorem cp_D {L : cp_Lay} (hJ : cp_J L) (D : cp_Dt) : va_D (cp_A L) (cp_ws L D) := by
  refine ⟨fun i j x y hi hj hxy => ?_, fun k q hk => ?_⟩
  · obtain ⟨i1, rfl⟩ := cp_ws_inv hi
    obtain ⟨j1, rfl⟩ := cp_ws_inv hj
    exact hJ i j i1 j1 hxy
  · obtain ⟨k1, rfl⟩ := cp_ws_inv hk
    exact ⟨k, k1, rfl⟩
section CPR
variable {p : Program} {l : Launch} {e : Env} {R : Room} {s : State} {m : MethodId} {args : Array Value} {below : List Frame} {meth : Method} {c : Code} {H : Heap} {locs : List Loc} {cells slots : Nat} {Q : State → Prop}
variable {cc : ByteArray} {pc : Nat} {ls : Array Slot} {rest : List Value} {G : va_G} {cl : List vw_C} {tys : List (ClassId × FieldType)} {H0 : Heap} {L : cp_Lay} {D : cp_Dt}
theorem cp_getI (hx : p.tables.exec = Jvm.exec) (hb : c.code = cc) {own ref C : String} {T : u_T} {N ci index k j : Nat} {Ts : List Cond} (hts : ∀ w ∈ Ts, w.before args s = true) (hin : ∀ w ∈ u_ws C T N, w ∈ Ts) (hown : s.vm.findClass own = some m.cls) (hK : va_K G cl tys s) (hP : va_P G cl (cp_ws L D) H) (hc : cl[ci]? = some (C, T, N)) (hj : j < N) (href : (T j).1 = ref) (hlink : (Cond.fieldLink own index ref (T j).2.1 (T j).2.2.1).before args s = true) {v : Int32} (hv : cp_gI L D k ci j = some v) (hdg : decode cc pc = .ok (.getfield index, 3))
    (kk : W p l e R s m args below meth c H locs cells slots Q (F0 m (pc + 3) ls (.int v :: rest))) : W p l e R s m args below meth c H locs cells slots Q (F0 m pc ls (.ref (L.2.1 k) :: rest)) := by
  obtain ⟨fl, h1, h2⟩ := cp_gI_spec hv
  exact va_get hx hb hts hin hown hK hP k (cp_fl_cell h1) hc j hj hlink (fun x h => by rw [← href]; exact h) h2 hdg kk
theorem cp_getIN (hx : p.tables.exec = Jvm.exec) (hb : c.code = cc) {own ref C host : String} {T : u_T} {N ci index k j : Nat} {Ts : List Cond} (hts : ∀ w ∈ Ts, w.before args s = true) (hin : ∀ w ∈ u_ws C T N, w ∈ Ts) (hown : s.vm.findClass own = some m.cls) (hK : va_K G cl tys s) (hP : va_P G cl (cp_ws L D) H) (hc : cl[ci]? = some (C, T, N)) (hj : j < N) (href : (T j).1 = ref) (hlink : va_Nw (.fieldLinkNest own index ref (T j).2.1 (T j).2.2.1 host) s) {v : Int32} (hv : cp_gI L D k ci j = some v) (hdg : decode cc pc = .ok (.getfield index, 3))
    (kk : W p l e R s m args below meth c H locs cells slots Q (F0 m (pc + 3) ls (.int v :: rest))) : W p l e R s m args below meth c H locs cells slots Q (F0 m pc ls (.ref (L.2.1 k) :: rest)) := by
  obtain ⟨fl, h1, h2⟩ := cp_gI_spec hv
  exact va_getN hx hb hts hin hown hK hP k (cp_fl_cell h1) hc j hj (va_Nw.use rfl hlink) (fun x h => by rw [← href]; exact h) h2 hdg kk
theorem cp_getR (hx : p.tables.exec = Jvm.exec) (hb : c.code = cc) {own ref C : String} {T : u_T} {N ci index k j : Nat} {Ts : List Cond} (hts : ∀ w ∈ Ts, w.before args s = true) (hin : ∀ w ∈ u_ws C T N, w ∈ Ts) (hown : s.vm.findClass own = some m.cls) (hK : va_K G cl tys s) (hP : va_P G cl (cp_ws L D) H) (hc : cl[ci]? = some (C, T, N)) (hj : j < N) (href : (T j).1 = ref) (hlink : (Cond.fieldLink own index ref (T j).2.1 (T j).2.2.1).before args s = true) {v : Nat} (hv : cp_gR L k ci j = some v) (hdg : decode cc pc = .ok (.getfield index, 3))
    (kk : W p l e R s m args below meth c H locs cells slots Q (F0 m (pc + 3) ls (.ref (L.2.1 v) :: rest))) : W p l e R s m args below meth c H locs cells slots Q (F0 m pc ls (.ref (L.2.1 k) :: rest)) := by
  obtain ⟨fl, h1, h2⟩ := cp_gR_spec (D := D) hv
  exact va_get hx hb hts hin hown hK hP k (cp_fl_cell h1) hc j hj hlink (fun x h => by rw [← href]; exact h) h2 hdg kk
theorem cp_getRN (hx : p.tables.exec = Jvm.exec) (hb : c.code = cc) {own ref C host : String} {T : u_T} {N ci index k j : Nat} {Ts : List Cond} (hts : ∀ w ∈ Ts, w.before args s = true) (hin : ∀ w ∈ u_ws C T N, w ∈ Ts) (hown : s.vm.findClass own = some m.cls) (hK : va_K G cl tys s) (hP : va_P G cl (cp_ws L D) H) (hc : cl[ci]? = some (C, T, N)) (hj : j < N) (href : (T j).1 = ref) (hlink : va_Nw (.fieldLinkNest own index ref (T j).2.1 (T j).2.2.1 host) s) {v : Nat} (hv : cp_gR L k ci j = some v) (hdg : decode cc pc = .ok (.getfield index, 3))
    (kk : W p l e R s m args below meth c H locs cells slots Q (F0 m (pc + 3) ls (.ref (L.2.1 v) :: rest))) : W p l e R s m args below meth c H locs cells slots Q (F0 m pc ls (.ref (L.2.1 k) :: rest)) := by
  obtain ⟨fl, h1, h2⟩ := cp_gR_spec (D := D) hv
  exact va_getN hx hb hts hin hown hK hP k (cp_fl_cell h1) hc j hj (va_Nw.use rfl hlink) (fun x h => by rw [← href]; exact h) h2 hdg kk
theorem cp_put (hx : p.tables.exec = Jvm.exec) (hb : c.code = cc) {own ref C : String} {T : u_T} {N ci index k j : Nat} {Ts : List Cond} (hts : ∀ w ∈ Ts, w.before args s = true) (hin : ∀ w ∈ u_ws C T N, w ∈ Ts) (ty0 : Nat → FieldType) (hty : ∀ k, k < N → parseFieldDescriptor (T k).2.2.1 = some (ty0 k)) (hnm : ∀ a, a < N → ∀ b, b < N → a ≠ b → (T a).2.1 ≠ (T b).2.1) (hown : s.vm.findClass own = some m.cls) (hK : va_K G cl tys s) (hJ : cp_J L) (hP : va_P G cl (cp_ws L D) H) (hS : va_S (cp_A L) H0 H locs) (hc : cl[ci]? = some (C, T, N)) (hj : j < N) (href : (T j).1 = ref) (hlink : (Cond.fieldLink own index ref (T j).2.1 (T j).2.2.1).before args s = true) (hfin : (T j).2.2.2 = false) {v : Int32} (hn : narrow (ty0 j) (.int v) = .int v) (hfit : fits (ty0 j) (.int v) = true) {D' : cp_Dt} (hv : cp_pI L D k ci j v = some D') (hdg : decode cc pc = .ok (.putfield index, 3))
    (kk : ∀ (H1 : Heap) (locs1 : List Loc), va_P G cl (cp_ws L D') H1 → va_S (cp_A L) H0 H1 locs1 → W p l e R s m args below meth c H1 locs1 cells slots Q (F0 m (pc + 3) ls rest)) : W p l e R s m args below meth c H locs cells slots Q (F0 m pc ls (.int v :: .ref (L.2.1 k) :: rest)) := by
  obtain ⟨fl, h1, h2, h3⟩ := cp_pI_spec hv
  exact va_put hx hb hts hin ty0 hty hnm hown hK hP (cp_D hJ D) hS k (cp_fl_cell h1) hc j hj hlink (fun x h => by rw [← href]; exact h) hfin (hty j hj) hn hfit h2 hdg (fun H1 locs1 p1 _ s1 => kk H1 locs1 (h3 ▸ p1) s1)
theorem cp_putN (hx : p.tables.exec = Jvm.exec) (hb : c.code = cc) {own ref C host : String} {T : u_T} {N ci index k j : Nat} {Ts : List Cond} (hts : ∀ w ∈ Ts, w.before args s = true) (hin : ∀ w ∈ u_ws C T N, w ∈ Ts) (ty0 : Nat → FieldType) (hty : ∀ k, k < N → parseFieldDescriptor (T k).2.2.1 = some (ty0 k)) (hnm : ∀ a, a < N → ∀ b, b < N → a ≠ b → (T a).2.1 ≠ (T b).2.1) (hown : s.vm.findClass own = some m.cls) (hK : va_K G cl tys s) (hJ : cp_J L) (hP : va_P G cl (cp_ws L D) H) (hS : va_S (cp_A L) H0 H locs) (hc : cl[ci]? = some (C, T, N)) (hj : j < N) (href : (T j).1 = ref) (hlink : va_Nw (.fieldLinkNest own index ref (T j).2.1 (T j).2.2.1 host) s) (hfin : (T j).2.2.2 = false) {v : Int32} (hn : narrow (ty0 j) (.int v) = .int v) (hfit : fits (ty0 j) (.int v) = true) {D' : cp_Dt} (hv : cp_pI L D k ci j v = some D') (hdg : decode cc pc = .ok (.putfield index, 3))
    (kk : ∀ (H1 : Heap) (locs1 : List Loc), va_P G cl (cp_ws L D') H1 → va_S (cp_A L) H0 H1 locs1 → W p l e R s m args below meth c H1 locs1 cells slots Q (F0 m (pc + 3) ls rest)) : W p l e R s m args below meth c H locs cells slots Q (F0 m pc ls (.int v :: .ref (L.2.1 k) :: rest)) := by
  obtain ⟨fl, h1, h2, h3⟩ := cp_pI_spec hv
  exact va_putN hx hb hts hin ty0 hty hnm hown hK hP (cp_D hJ D) hS k (cp_fl_cell h1) hc j hj (va_Nw.use rfl hlink) (fun x h => by rw [← href]; exact h) hfin (hty j hj) hn hfit h2 hdg (fun H1 locs1 p1 _ s1 => kk H1 locs1 (h3 ▸ p1) s1)
theorem cp_pZ_spec {k ci j : Nat} {v : Int32} {D' : cp_Dt} (h : cp_pZ L D k ci j v = some D') : cp_pI L D k ci j v = some D' ∧ narrow .boolean (.int v) = .int v ∧ fits .boolean (.int v) = true := by
  unfold cp_pZ at h
  by_cases hv : v = 0 ∨ v = 1
  · rw [if_pos hv] at h
    rcases hv with rfl | rfl
    · exact ⟨h, by decide, by decide⟩
    · exact ⟨h, by decide, by decide⟩
  · rw [if_neg hv] at h
    cases h
theorem cp_in {i : Int32} {n : Nat} {α : Type} {x : Option α} {r : α} (h : (if i < 0 ∨ n ≤ i.toNatClampNeg then none else x) = some r) : vp_in i n ∧ x = some r := by
  by_cases hi : i < 0 ∨ n ≤ i.toNatClampNeg
  · rw [if_pos hi] at h
    cases h
  · rw [if_neg hi] at h
    exact ⟨hi, h⟩
theorem cp_cell0 {k : Nat} {a : Nat × (Nat → Option Nat)} (h : cp_ar L k 0 = some a) : (cp_ws L D)[k]? = some (L.2.1 k, .inl (L.2.2.2 0, a.1, .inl (D k))) := cp_ar_cell h
theorem cp_cell1 {k : Nat} {a : Nat × (Nat → Option Nat)} (h : cp_ar L k 1 = some a) : (cp_ws L D)[k]? = some (L.2.1 k, .inl (L.2.2.2 1, a.1, .inl (D k))) := cp_ar_cell h
theorem cp_cell2 {k : Nat} {a : Nat × (Nat → Option Nat)} (h : cp_ar L k 2 = some a) : (cp_ws L D)[k]? = some (L.2.1 k, .inl (L.2.2.2 2, a.1, .inr (.inr (.inr (.inr (fun i => (a.2 i).map L.2.1)))))) := cp_ar_cell h
theorem cp_cell3 {k : Nat} {a : Nat × (Nat → Option Nat)} (h : cp_ar L k 3 = some a) : (cp_ws L D)[k]? = some (L.2.1 k, .inl (L.2.2.2 3, a.1, .inr (.inl (fun i => (D k i).toInt64)))) := cp_ar_cell h
theorem cp_iald (hx : p.tables.exec = Jvm.exec) (hb : c.code = cc) (hK : va_K G cl (cp_tys L) s) (hP : va_P G cl (cp_ws L D) H) {k : Nat} {i v : Int32} (hv : cp_aI L D 0 k i = some v) (hdg : decode cc pc = .ok (.iaload, 1))
    (kk : W p l e R s m args below meth c H locs cells slots Q (F0 m (pc + 1) ls (.int v :: rest))) : W p l e R s m args below meth c H locs cells slots Q (F0 m pc ls (.int i :: .ref (L.2.1 k) :: rest)) := by
  obtain ⟨a, h1, h2⟩ := cp_bind hv
  obtain ⟨h3, h5⟩ := cp_in h2
  cases h5
  exact va_iald hx hb hK hP k 0 (cp_cell0 h1) rfl h3 hdg kk
theorem cp_bald (hx : p.tables.exec = Jvm.exec) (hb : c.code = cc) (hK : va_K G cl (cp_tys L) s) (hP : va_P G cl (cp_ws L D) H) {k : Nat} {i v : Int32} (hv : cp_aI L D 1 k i = some v) (hdg : decode cc pc = .ok (.baload, 1))
    (kk : W p l e R s m args below meth c H locs cells slots Q (F0 m (pc + 1) ls (.int v :: rest))) : W p l e R s m args below meth c H locs cells slots Q (F0 m pc ls (.int i :: .ref (L.2.1 k) :: rest)) := by
  obtain ⟨a, h1, h2⟩ := cp_bind hv
  obtain ⟨h3, h5⟩ := cp_in h2
  cases h5
  exact va_bald hx hb hK hP k 1 (cp_cell1 h1) rfl h3 hdg kk
theorem cp_aald (hx : p.tables.exec = Jvm.exec) (hb : c.code = cc) (hK : va_K G cl (cp_tys L) s) (hP : va_P G cl (cp_ws L D) H) {k : Nat} {i : Int32} {v : Nat} (hv : cp_aR L k i = some v) (hdg : decode cc pc = .ok (.aaload, 1))
    (kk : W p l e R s m args below meth c H locs cells slots Q (F0 m (pc + 1) ls (.ref (L.2.1 v) :: rest))) : W p l e R s m args below meth c H locs cells slots Q (F0 m pc ls (.int i :: .ref (L.2.1 k) :: rest)) := by
  obtain ⟨a, h1, h2⟩ := cp_bind hv
  obtain ⟨h3, h4⟩ := cp_in h2
  refine va_aldq hx hb hK hP k 2 (cp_cell2 h1) rfl h3 hdg ?_
  rw [h4]
  exact kk
theorem cp_iast (hx : p.tables.exec = Jvm.exec) (hb : c.code = cc) (hK : va_K G cl (cp_tys L) s) (hJ : cp_J L) (hP : va_P G cl (cp_ws L D) H) (hS : va_S (cp_A L) H0 H locs) {k : Nat} {i x : Int32} {D' : cp_Dt} (hv : cp_aS L D 0 k i x = some D') (hdg : decode cc pc = .ok (.iastore, 1))
    (kk : ∀ (H1 : Heap) (locs1 : List Loc), va_P G cl (cp_ws L D') H1 → va_S (cp_A L) H0 H1 locs1 → W p l e R s m args below meth c H1 locs1 cells slots Q (F0 m (pc + 1) ls rest)) : W p l e R s m args below meth c H locs cells slots Q (F0 m pc ls (.int x :: .int i :: .ref (L.2.1 k) :: rest)) := by
  obtain ⟨a, h1, h2⟩ := cp_bind hv
  obtain ⟨h3, h5⟩ := cp_in h2
  cases h5
  have h4 : (cp_ws L D).set k (L.2.1 k, .inl (L.2.2.2 0, a.1, .inl (upd (D k) i.toNatClampNeg x))) = cp_ws L (cp_up D k i.toNatClampNeg x) := by
    refine cp_ws_set ?_ (fun j hj => cp_up_ne hj)
    unfold cp_ce
    rw [(cp_ar_spec h1).2, cp_up_eq]
    rfl
  exact va_iast hx hb hK hP (cp_D hJ D) hS k 0 (cp_cell0 h1) rfl h3 hdg (fun H1 locs1 p1 _ s1 => kk H1 locs1 (h4 ▸ p1) s1)
theorem cp_bast (hx : p.tables.exec = Jvm.exec) (hb : c.code = cc) (hK : va_K G cl (cp_tys L) s) (hJ : cp_J L) (hP : va_P G cl (cp_ws L D) H) (hS : va_S (cp_A L) H0 H locs) {k : Nat} {i x : Int32} {D' : cp_Dt} (hv : cp_aS L D 1 k i x.toInt8.toInt32 = some D') (hdg : decode cc pc = .ok (.bastore, 1))
    (kk : ∀ (H1 : Heap) (locs1 : List Loc), va_P G cl (cp_ws L D') H1 → va_S (cp_A L) H0 H1 locs1 → W p l e R s m args below meth c H1 locs1 cells slots Q (F0 m (pc + 1) ls rest)) : W p l e R s m args below meth c H locs cells slots Q (F0 m pc ls (.int x :: .int i :: .ref (L.2.1 k) :: rest)) := by
  obtain ⟨a, h1, h2⟩ := cp_bind hv
  obtain ⟨h3, h5⟩ := cp_in h2
  cases h5
  have h4 : (cp_ws L D).set k (L.2.1 k, .inl (L.2.2.2 1, a.1, .inl (upd (D k) i.toNatClampNeg (vp_nar .byte x)))) = cp_ws L (cp_up D k i.toNatClampNeg x.toInt8.toInt32) := by
    refine cp_ws_set ?_ (fun j hj => cp_up_ne hj)
    unfold cp_ce
    rw [(cp_ar_spec h1).2, cp_up_eq, vp_nar_byte]
    rfl
  exact va_bast hx hb hK hP (cp_D hJ D) hS k 1 (cp_cell1 h1) rfl h3 hdg (fun H1 locs1 p1 _ s1 => kk H1 locs1 (h4 ▸ p1) s1)
theorem cp_alen0 (hx : p.tables.exec = Jvm.exec) (hb : c.code = cc) (hK : va_K G cl (cp_tys L) s) (hP : va_P G cl (cp_ws L D) H) {k : Nat} {v : Int32} (hv : cp_aL L 0 k = some v) (hdg : decode cc pc = .ok (.arraylength, 1))
    (kk : W p l e R s m args below meth c H locs cells slots Q (F0 m (pc + 1) ls (.int v :: rest))) : W p l e R s m args below meth c H locs cells slots Q (F0 m pc ls (.ref (L.2.1 k) :: rest)) := by
  obtain ⟨a, h1, h2⟩ := cp_bind hv
  exact va_alen hx hb hK hP k 0 (cp_cell0 h1) (ty := .int) rfl (Option.some.inj h2) hdg kk
end CPR
