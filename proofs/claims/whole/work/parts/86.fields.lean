/-! Making objects: their fields, calls, the end -/
section CM
variable {p : Program} {l : Launch} {e : Env} {R : Room} {s : State} {m : MethodId} {args : Array Value} {below : List Frame} {meth : Method} {c : Code} {H : Heap} {locs : List Loc} {cells slots : Nat} {Q : State → Prop}
variable {cc : ByteArray} {pc : Nat} {ls : Array Slot} {rest : List Value} {G : va_G} {B : Nat} {ca : Nat → ClassId} {S S' : cn_S} {D D' : cp_Dt} {g : JFrame}
/-- how large the heap is stands in the book of the cells made -/
theorem cn_size (hP : va_P G vwCl (cp_ws (cn_L B ca S) D) H) (h0 : 0 < S.1) (hn : s.heap.size + cells = B + S.1) (hS : va_S (cn_A B) s.heap H locs) (kk : cn_I G B ca S D s H locs cells → W p l e R s m args below meth c H locs cells slots Q g) : W p l e R s m args below meth c H locs cells slots Q g := by
  intro T hT X
  have h1 : T.heap.size ≤ s.heap.size + cells := X.same.2.2.1
  have h2 := (hP (S.1 - 1) _ (cp_ws_get (L := cn_L B ca S) (show S.1 - 1 < S.1 by omega))).lt
  have h3 : B + (S.1 - 1) < H.size := h2
  rw [hT] at h1
  exact kk ⟨hP, by omega, hn, hS⟩ T hT X
theorem cn_pR_spec {k ci j t : Nat} (h : cn_pR S k ci j t = some S') : ∃ fl, k < S.1 ∧ S.2 k = .inr (ci, fl) ∧ j < fl.length ∧ S' = (S.1, va_up S.2 k (.inr (ci, fl.set j (some (some t))))) := by
  unfold cn_pR at h
  by_cases hk : k < S.1
  · rw [if_pos hk] at h
    cases hs : S.2 k with
    | inl a => rw [hs] at h; cases h
    | inr o =>
      rw [hs] at h
      obtain ⟨c, f⟩ := o
      dsimp only at h
      by_cases hc : c = ci ∧ j < f.length
      · rw [if_pos hc] at h
        obtain ⟨rfl, h2⟩ := hc
        exact ⟨f, hk, rfl, h2, (Option.some.inj h).symm⟩
      · rw [if_neg hc] at h
        cases h
  · rw [if_neg hk] at h
    cases h
theorem cn_fls {k ci : Nat} {fl : List (Option (Option Nat))} (h1 : k < S.1) (h2 : S.2 k = .inr (ci, fl)) : cp_fl (cn_L B ca S) k ci = some fl := by
  unfold cp_fl
  rw [if_pos (show k < (cn_L B ca S).1 from h1)]
  show (match S.2 k with | .inr o => if o.1 = ci then some o.2 else none | .inl _ => none) = _
  rw [h2]
  exact if_pos rfl
theorem cn_putI (hx : p.tables.exec = Jvm.exec) (hb : c.code = cc) {own ref C : String} {T : u_T} {N ci index k j : Nat} {Ts : List Cond} (hts : ∀ w ∈ Ts, w.before args s = true) (hin : ∀ w ∈ u_ws C T N, w ∈ Ts) (ty0 : Nat → FieldType) (hty : ∀ k, k < N → parseFieldDescriptor (T k).2.2.1 = some (ty0 k)) (hnm : ∀ a, a < N → ∀ b, b < N → a ≠ b → (T a).2.1 ≠ (T b).2.1) (hown : s.vm.findClass own = some m.cls) (hK : va_K G vwCl (cp_tys (cn_L B ca S)) s) (hI : cn_I G B ca S D s H locs cells) (hc : vwCl[ci]? = some (C, T, N)) (hj : j < N) (href : (T j).1 = ref) (hlink : (Cond.fieldLink own index ref (T j).2.1 (T j).2.2.1).before args s = true) (hfin : (T j).2.2.2 = true) (hin2 : meth.name = "<init>") (hdecl : (T j).1 = own) {v : Int32} (hn : narrow (ty0 j) (.int v) = .int v) (hfit : fits (ty0 j) (.int v) = true) (hv : cp_pI (cn_L B ca S) D k ci j v = some D') (hdg : decode cc pc = .ok (.putfield index, 3))
    (kk : ∀ (H1 : Heap) (locs1 : List Loc), cn_I G B ca S D' s H1 locs1 cells → W p l e R s m args below meth c H1 locs1 cells slots Q (F0 m (pc + 3) ls rest)) : W p l e R s m args below meth c H locs cells slots Q (F0 m pc ls (.int v :: .ref (B + k) :: rest)) := by
  obtain ⟨fl, h1, h2, h3⟩ := cp_pI_spec hv
  have hk := (cp_fl_spec h1).1
  have h0 : 0 < S.1 := Nat.lt_of_le_of_lt (Nat.zero_le k) hk
  exact va_putF hx hb hts hin ty0 hty hnm hown hK hI.1 (cn_D B ca S D) hI.2.2.2 k (cp_fl_cell h1) hc j hj hlink (fun x h => by rw [← href]; exact h) hfin hin2 hdecl (hty j hj) hn hfit h2 hdg (fun H1 locs1 p1 _ s1 => cn_size (h3 ▸ p1) h0 hI.2.2.1 s1 (fun hI => kk H1 locs1 hI))
theorem cn_putR (hx : p.tables.exec = Jvm.exec) (hb : c.code = cc) {own ref C : String} {T : u_T} {N ci index k j t : Nat} {Ts : List Cond} (hts : ∀ w ∈ Ts, w.before args s = true) (hin : ∀ w ∈ u_ws C T N, w ∈ Ts) (ty0 : Nat → FieldType) (hty : ∀ k, k < N → parseFieldDescriptor (T k).2.2.1 = some (ty0 k)) (hnm : ∀ a, a < N → ∀ b, b < N → a ≠ b → (T a).2.1 ≠ (T b).2.1) (hown : s.vm.findClass own = some m.cls) (hK : va_K G vwCl (cp_tys (cn_L B ca S)) s) (hI : cn_I G B ca S D s H locs cells) (hc : vwCl[ci]? = some (C, T, N)) (hj : j < N) (href : (T j).1 = ref) (hlink : (Cond.fieldLink own index ref (T j).2.1 (T j).2.2.1).before args s = true) (hfin : (T j).2.2.2 = true) (hin2 : meth.name = "<init>") (hdecl : (T j).1 = own) (hn : ∀ a, narrow (ty0 j) (.ref a) = .ref a) (hfit : ∀ a, fits (ty0 j) (.ref a) = true) (hv : cn_pR S k ci j t = some S') (hdg : decode cc pc = .ok (.putfield index, 3))
    (kk : ∀ (H1 : Heap) (locs1 : List Loc), cn_I G B ca S' D s H1 locs1 cells → W p l e R s m args below meth c H1 locs1 cells slots Q (F0 m (pc + 3) ls rest)) : W p l e R s m args below meth c H locs cells slots Q (F0 m pc ls (.ref (B + t) :: .ref (B + k) :: rest)) := by
  obtain ⟨fl, h1, h2, h3, h4⟩ := cn_pR_spec hv
  have hw : (cp_ws (cn_L B ca S) D).set k (B + k, .inr (ci, (fl.mapIdx (cp_fv (fun k => B + k) (D k))).set j (.ref (B + t)))) = cp_ws (cn_L B ca S') D := by
    refine cn_wset h4 ?_
    unfold cp_ce
    rw [h4]
    show (match va_up S.2 k (.inr (ci, fl.set j (some (some t)))) k with | .inl a => _ | .inr o => _) = _
    rw [show va_up S.2 k (.inr (ci, fl.set j (some (some t)))) k = .inr (ci, fl.set j (some (some t))) from if_pos rfl]
    show Sum.inr (ci, (fl.set j (some (some t))).mapIdx (cp_fv (fun k => B + k) (D k))) = _
    congr 2
    apply List.ext_getElem?
    intro i
    rw [List.getElem?_mapIdx]
    by_cases hi : i = j
    · subst hi
      rw [List.getElem?_set_self h3, List.getElem?_set_self (by simpa using h3)]
      rfl
    · rw [List.getElem?_set_ne (fun q => hi q.symm), List.getElem?_set_ne (fun q => hi q.symm), List.getElem?_mapIdx]
  have e1 : S'.1 = S.1 := by rw [h4]
  exact va_putF hx hb hts hin ty0 hty hnm hown hK hI.1 (cn_D B ca S D) hI.2.2.2 k (cp_fl_cell (cn_fls (B := B) (ca := ca) h1 h2)) hc j hj hlink (fun x h => by rw [← href]; exact h) hfin hin2 hdecl (hty j hj) (hn _) (hfit _) (by simpa using h3) hdg
    (fun H1 locs1 p1 _ s1 => cn_size (S := S') (hw ▸ p1) (by omega) (by rw [e1]; exact hI.2.2.1) s1 (fun hI => kk H1 locs1 hI))
theorem cn_iast (hx : p.tables.exec = Jvm.exec) (hb : c.code = cc) (hK : va_K G vwCl (cp_tys (cn_L B ca S)) s) (hI : cn_I G B ca S D s H locs cells) {k : Nat} {i x : Int32} (hv : cp_aS (cn_L B ca S) D 0 k i x = some D') (hdg : decode cc pc = .ok (.iastore, 1))
    (kk : ∀ (H1 : Heap) (locs1 : List Loc), cn_I G B ca S D' s H1 locs1 cells → W p l e R s m args below meth c H1 locs1 cells slots Q (F0 m (pc + 1) ls rest)) : W p l e R s m args below meth c H locs cells slots Q (F0 m pc ls (.int x :: .int i :: .ref (B + k) :: rest)) := by
  obtain ⟨a, h1, h2⟩ := cp_bind hv
  obtain ⟨h3, h5⟩ := cp_in h2
  cases h5
  have hk := (cp_ar_spec h1).1
  have h0 : 0 < S.1 := Nat.lt_of_le_of_lt (Nat.zero_le k) hk
  have h4 : (cp_ws (cn_L B ca S) D).set k (B + k, .inl (ca 0, a.1, .inl (upd (D k) i.toNatClampNeg x))) = cp_ws (cn_L B ca S) (cp_up D k i.toNatClampNeg x) := by
    refine cp_ws_set (L := cn_L B ca S) ?_ (fun j hj => cp_up_ne hj)
    unfold cp_ce
    rw [(cp_ar_spec h1).2, cp_up_eq]
    rfl
  exact va_iast hx hb hK hI.1 (cn_D B ca S D) hI.2.2.2 k 0 (cp_cell0 h1) rfl h3 hdg (fun H1 locs1 p1 _ s1 => cn_size (h4 ▸ p1) h0 hI.2.2.1 s1 (fun hI => kk H1 locs1 hI))
theorem cn_aR_spec {k t : Nat} {i : Int32} (h : cn_aR S k i t = some S') : ∃ n tg fl, (k < S.1 ∧ t < S.1) ∧ S.2 k = .inl (2, n, tg) ∧ S.2 t = .inr (1, fl) ∧ ¬ (i < 0 ∨ n ≤ i.toNatClampNeg) ∧ S' = (S.1, va_up S.2 k (.inl (2, n, va_up tg i.toNatClampNeg (some t)))) := by
  unfold cn_aR at h
  by_cases hk : k < S.1 ∧ t < S.1
  · rw [if_pos hk] at h
    cases hs : S.2 k with
    | inr a => rw [hs] at h; cases h
    | inl a =>
      cases ht : S.2 t with
      | inl a2 => rw [hs, ht] at h; cases h
      | inr o =>
        rw [hs, ht] at h
        obtain ⟨c, n, f⟩ := a
        obtain ⟨c2, f2⟩ := o
        dsimp only at h
        by_cases hc : c = 2 ∧ c2 = 1 ∧ ¬ (i < 0 ∨ n ≤ i.toNatClampNeg)
        · rw [if_pos hc] at h
          obtain ⟨rfl, rfl, h3⟩ := hc
          exact ⟨n, f, f2, hk, rfl, rfl, h3, (Option.some.inj h).symm⟩
        · rw [if_neg hc] at h
          cases h
  · rw [if_neg hk] at h
    cases h
theorem cn_aast (hx : p.tables.exec = Jvm.exec) (hb : c.code = cc) (hK : va_K G vwCl (cp_tys (cn_L B ca S)) s) (hI : cn_I G B ca S D s H locs cells) {k t : Nat} {i : Int32} (hv : cn_aR S k i t = some S') (hdg : decode cc pc = .ok (.aastore, 1))
    (kk : ∀ (H1 : Heap) (locs1 : List Loc), cn_I G B ca S' D s H1 locs1 cells → W p l e R s m args below meth c H1 locs1 cells slots Q (F0 m (pc + 1) ls rest)) : W p l e R s m args below meth c H locs cells slots Q (F0 m pc ls (.ref (B + t) :: .int i :: .ref (B + k) :: rest)) := by
  obtain ⟨n, tg, fl, ⟨k1, k2⟩, h1, h2, h3, h4⟩ := cn_aR_spec hv
  have c1 : (cp_ws (cn_L B ca S) D)[k]? = some (B + k, .inl (ca 2, n, .inr (.inr (.inr (.inr (fun i => (tg i).map (fun k => B + k))))))) := by
    rw [cp_ws_get (L := cn_L B ca S) k1]
    unfold cp_ce
    show some (B + k, match S.2 k with | .inl a => _ | .inr o => _) = _
    rw [h1]
    rfl
  have c2 : (cp_ws (cn_L B ca S) D)[t]? = some (B + t, .inr (1, fl.mapIdx (cp_fv (fun k => B + k) (D t)))) := cp_fl_cell (cn_fls (B := B) (ca := ca) k2 h2)
  have hw : (cp_ws (cn_L B ca S) D).set k (B + k, .inl (ca 2, n, .inr (.inr (.inr (.inr (va_up (fun i => (tg i).map (fun k => B + k)) i.toNatClampNeg (some (B + t)))))))) = cp_ws (cn_L B ca S') D := by
    refine cn_wset h4 ?_
    unfold cp_ce
    rw [h4]
    show (match va_up S.2 k (.inl (2, n, va_up tg i.toNatClampNeg (some t))) k with | .inl a => _ | .inr o => _) = _
    rw [show va_up S.2 k (.inl (2, n, va_up tg i.toNatClampNeg (some t))) k = .inl (2, n, va_up tg i.toNatClampNeg (some t)) from if_pos rfl]
    show Sum.inl (ca 2, n, Sum.inr (Sum.inr (Sum.inr (Sum.inr (fun j => (va_up tg i.toNatClampNeg (some t) j).map (fun k => B + k)))))) = _
    have : (fun j => (va_up tg i.toNatClampNeg (some t) j).map (fun k => B + k)) = va_up (fun i => (tg i).map (fun k => B + k)) i.toNatClampNeg (some (B + t)) := by
      funext j
      by_cases hj : j = i.toNatClampNeg
      · simp [va_up, hj]
      · simp [va_up, hj]
    rw [this]
  have e1 : S'.1 = S.1 := by rw [h4]
  exact va_astq hx hb hK hI.1 (cn_D B ca S D) hI.2.2.2 k 2 t 1 (r := ("CreaturePond$Animal", TX1, 14)) c1 rfl c2 rfl h3 hdg (fun H1 locs1 p1 _ s1 => cn_size (S := S') (hw ▸ p1) (by omega) (by rw [e1]; exact hI.2.2.1) s1 (fun hI => kk H1 locs1 hI))
/-- a call of a method that makes nothing -/
theorem cn_callc {st1 st0 : List Value} {rv : Option Value} {a : Array Value} (h0 : 0 < S.1) (hr : va_Run p l e R s m args below meth c H locs cells slots 0 0 (F0 m pc ls st0) rest (cp_Q G (cn_L B ca S) D' rv a) (cp_A (cn_L B ca S))) (hI : cn_I G B ca S D s H locs cells)
    (kk : ∀ (H1 : Heap) (locs1 : List Loc), cn_I G B ca S D' s H1 locs1 cells → W p l e R s m args below meth c H1 locs1 cells slots Q (F0 m (pc + 3) ls st1)) (hst : rv.toList ++ rest = st1 := by rfl) : W p l e R s m args below meth c H locs cells slots Q (F0 m pc ls st0) := by
  subst hst
  have hS := hI.2.2.2
  intro T hT X
  obtain ⟨v, st₀, t, T', L1, h1, X', hL, e1, e2, ⟨⟨hv, hp⟩, hz, hk⟩, st⟩ := hr T hT X
  cases hv
  rw [h1] at hz hk
  obtain ⟨t2, a1, b1⟩ := cn_size (S := S) (H := T'.heap) (locs := locs ++ L1) (by rw [e1]; exact hp) h0 hI.2.2.1
    ⟨Nat.le_trans hS.1 (by rw [e1]; exact hz), fun q h1 h2 => by rw [e1, hk q (Nat.lt_of_lt_of_le h1 hS.1) (fun z => h2 (cn_sub q z))]; exact hS.2.1 q h1 h2, fun q hq => by
      rcases List.mem_append.mp hq with h | h
      · exact hS.2.2 q h
      · exact cn_sub _ (hL q h)⟩ (fun hI => kk T'.heap (locs ++ L1) hI) T' rfl X'
  exact ⟨t2, st t2 a1, b1⟩
/-- a call of a constructor -/
theorem cn_calln {mc ms : Nat} {st0 : List Value} {a : Array Value} (hr : va_Run p l e R s m args below meth c H locs cells slots mc ms (F0 m pc ls st0) rest (cn_Q G B ca S mc S' D' a) (cn_A B)) (hI : cn_I G B ca S D s H locs cells)
    (kk : ∀ (H1 : Heap) (locs1 : List Loc), cn_I G B ca S' D' s H1 locs1 (cells + mc) → W p l e R s m args below meth c H1 locs1 (cells + mc) (slots + ms) Q (F0 m (pc + 3) ls rest)) : W p l e R s m args below meth c H locs cells slots Q (F0 m pc ls st0) := by
  have hS := hI.2.2.2
  intro T hT X
  obtain ⟨v, st₀, t, T', L1, h1, X', hL, e1, e2, ⟨⟨hv, hp, hsz, hcn⟩, hz, hk⟩, st⟩ := hr T hT X
  cases hv
  rw [h1] at hz hk
  obtain ⟨t2, a1, b1⟩ := kk T'.heap (locs ++ L1) ⟨by rw [e1]; exact hp, by rw [e1]; exact hsz, by have := hI.2.2.1; omega, 
    ⟨Nat.le_trans hS.1 (by rw [e1]; exact hz), fun q h1 h2 => by rw [e1, hk q (Nat.lt_of_lt_of_le h1 hS.1) h2]; exact hS.2.1 q h1 h2, fun q hq => by
      rcases List.mem_append.mp hq with h | h
      · exact hS.2.2 q h
      · exact hL q h⟩⟩ T' rfl X'
  exact ⟨t2, st t2 a1, b1⟩
theorem cn_vret {S0 : cn_S} (hx : p.tables.exec = Jvm.exec) (hb : c.code = cc) (hr : meth.sig.returnType = none) (hlocks : meth.locks = false) {res : cn_S × cp_Dt} (hF : (if S.1 = S0.1 + cells then some (S, D) else none) = some res) (hI : cn_I G B ca S D s H locs cells) (hdg : decode cc pc = .ok (.return_, 1)) : W p l e R s m args below meth c H locs cells slots (MQ below (cn_Q G B ca S0 cells res.1 res.2) args s cells slots (cn_A B)) (F0 m pc ls []) := by
  by_cases hc : S.1 = S0.1 + cells
  · rw [if_pos hc] at hF
    cases hF
    exact W.vret hx hb hr (fun t ht _ => ⟨⟨rfl, by rw [ht]; exact hI.1, by rw [ht]; exact hI.2.1, hc⟩, hI.2.2.2.F ht⟩) hI.2.2.2.2.2 hdg hlocks
  · rw [if_neg hc] at hF
    cases hF
end CM
