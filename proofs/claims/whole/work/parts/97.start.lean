/-! The law: its start -/
theorem dL_cell_0 : decode cL_cell 0 = .ok (.iload_n 1, 1) := by decide +kernel
theorem dL_cell_1 : decode cL_cell 1 = .ok (.aload_n 0, 1) := by decide +kernel
theorem dL_cell_2 : decode cL_cell 2 = .ok (.arraylength, 1) := by decide +kernel
theorem dL_cell_3 : decode cL_cell 3 = .ok (.if_icmp .ge 9, 3) := by decide +kernel
theorem dL_cell_6 : decode cL_cell 6 = .ok (.aload_n 0, 1) := by decide +kernel
theorem dL_cell_7 : decode cL_cell 7 = .ok (.iload_n 1, 1) := by decide +kernel
theorem dL_cell_8 : decode cL_cell 8 = .ok (.iaload, 1) := by decide +kernel
theorem dL_cell_9 : decode cL_cell 9 = .ok (.goto 4, 3) := by decide +kernel
theorem dL_cell_12 : decode cL_cell 12 = .ok (.iconst 0, 1) := by decide +kernel
theorem dL_cell_13 : decode cL_cell 13 = .ok (.ireturn, 1) := by decide +kernel
def lw_rd (N : Nat) (xs : Nat → Int32) (k : Int32) : Int32 := if Int32.ofNat N ≤ k then 0 else xs k.toNatClampNeg
def lw_cP (b N : Nat) (xs : Nat → Int32) (U : State) : Prop := va_X b N xs U U.heap ∧ b < U.heap.size
theorem lw_cB {b N : Nat} {xs : Nat → Int32} {av : List Value} : FrameBlind (va_Pc av (lw_cP b N xs)) := by
  intro a U g mk h
  exact ⟨h.1, va_X.moved (u := U) (U := U.calling g mk a) (Vm.Alike.refl U.vm) h.2.1, h.2.2⟩
set_option maxHeartbeats 4000000 in
theorem hc_cell (l : Launch) (b N : Nat) (xs : Nat → Int32) (hN : N < 2 ^ 31) (k : Int32) (hk : ¬ k < 0) : Met l yL_cell wsL_cell ({ frames := 0, cells := 0, slots := 0, locals := 0 }) (va_Pc ([.ref b, .int k] : List Value) (lw_cP b N xs)) (fun _ st oc t => oc = .returned (some (.int (lw_rd N xs k))) ∧ t.heap = st.heap) 0 0 (fun _ => False) := by
  refine Met.ofW (cc := cL_cell) (maxL := 2) (ret := some .int) (by decide) rfl ?_
  intro p e s m args below meth c s₁ B hml hv
  obtain ⟨rfl, hX, hbl⟩ := hv
  have hx := B.exec
  have hb := B.bytes
  have hr := B.returns
  have hlocks := B.notSynchronized
  have hS : va_S (fun _ => False) s.heap s.heap [] := va_S.rf
  have hl := lv_entry ([.ref b, .int k] : List Value) (n := 2) (Nat.le_of_ble_eq_true rfl)
  rw [lg_entry_eq]
  generalize (lg_sl ([.ref b, .int k] : List Value) ++ List.replicate (2 - (lg_sl ([.ref b, .int k] : List Value)).length) Slot.unset).toArray = ls at hl ⊢
  have hl : lv_has ls 2 [(0, .ref b), (1, .int k)] := hl
  refine lv_iload_n hx hb dL_cell_0 rfl (lv_at hl 1 rfl) ?_
  refine lv_aload_n hx hb dL_cell_1 rfl (lv_at hl 0 rfl) ?_
  refine va_slen hx hb hX hbl (fun h => h) hS dL_cell_2 ?_
  refine lv_icmp_ge (tgt := 12) hx hb dL_cell_3 (by decide) (fun hc => ?_) (fun hc => ?_)
  · refine lv_iconst (v := (0 : Int32)) hx hb dL_cell_12 (by decide) ?_
    exact W.iret hx hb hr (fun t ht _ => ⟨by rw [lw_rd, if_pos hc], ht⟩) hS.2.2 dL_cell_13 hlocks
  · refine lv_aload_n hx hb dL_cell_6 rfl (lv_at hl 0 rfl) ?_
    refine lv_iload_n hx hb dL_cell_7 rfl (lv_at hl 1 rfl) ?_
    have hin : vp_in k N := by
      obtain ⟨j, j1, j2⟩ := nI_of (x := k) hk
      subst j2
      have h2 : j < N := (nI_ltI j1 hN).mp (Int32.not_le.mp hc)
      exact nI_in h2 hN
    refine va_sld hx hb hX hbl (fun h => h) hS hin dL_cell_8 ?_
    refine lv_goto (tgt := 13) hx hb dL_cell_9 (by decide) ?_
    exact W.iret hx hb hr (fun t ht _ => ⟨by rw [lw_rd, if_neg hc], ht⟩) hS.2.2 dL_cell_13 hlocks
section LWS
variable {p : Program} {l : Launch} {e : Env} {s : State} {m : MethodId} {args : Array Value} {below : List Frame} {meth : Method} {c : Code} {H : Heap} {locs : List Loc} {cells slots : Nat} {Q : State → Prop} {ls : Array Slot} {pc : Nat} {rest : List Value} {b N : Nat} {xs : Nat → Int32}
theorem lw_cell (hx : p.tables.exec = Jvm.exec) (hb : c.code = code) (hml : c.maxLocals = 7) (hown : s.vm.findClass "CreaturePondLaw" = some m.cls) (htT : ∀ w ∈ cp_T, w.before args s = true) (hX : va_X b N xs s s.heap) (hbl : b < s.heap.size) (hN : N < 2 ^ 31) (hS : va_S (cn_A s.heap.size) s.heap H locs) {k : Int32} (hk : ¬ k < 0) (hsz : ls.size = 7) (hce : cells ≤ 601024 ∧ slots ≤ 7293000) (hrm : (rest.map fun v => v.category).sum ≤ 8) (hdg : decode code pc = .ok (.invokestatic 35, 3))
    (kk : W p l e room_1 s m args below meth c H locs cells slots Q (F0 m (pc + 3) ls (.int (lw_rd N xs k) :: rest))) : W p l e room_1 s m args below meth c H locs cells slots Q (F0 m pc ls (.int k :: .ref b :: rest)) := by
  have hXH : va_X b N xs s H := hX.kept (hS.2.1 b hbl (fun h => by have : s.heap.size ≤ b := h; omega))
  have hbH : b < H.size := Nat.lt_of_lt_of_le hbl hS.1
  have hr := va_runS (p := p) (l := l) (e := e) (R := room_1) (s := s) (m := m) (args := args) (below := below) (meth := meth) (c := c) (H := H) (locs := locs) (cells := cells) (slots := slots) (g := F0 m pc ls (.int k :: .ref b :: rest)) (As := [.ref b, .int k]) (rest := rest) ⟨hx, hb, hml, hown, htT⟩ (hc_cell l b N xs hN k hk) ⟨callB_of 2 htT gdL_cell rfl rfl rfl (htT _ tw_0) (htT _ tw_198) hdL_cell ⟨Nat.le_of_ble_eq_true rfl, Nat.le_of_ble_eq_true rfl⟩, (htT _ tw_199)⟩ ⟨lw_cB, fun U hU hW => ⟨rfl, by rw [hU]; exact hXH.moved hW.alike, by rw [hU]; exact hbH⟩⟩ rfl rfl hsz rfl (lv_room hrm) hdg ⟨by show _ ≤ 601024; omega, by show _ ≤ 7293000; omega⟩
  intro T hT X
  obtain ⟨v, st₀, t, T', L1, h0, X', hL, e1, e2, ⟨hv, hp⟩, st⟩ := hr T hT X
  cases hv
  have hL1 : L1 = [] := by
    cases L1 with
    | nil => rfl
    | cons x t => exact (hL x List.mem_cons_self).elim
  subst hL1
  rw [List.append_nil] at X'
  obtain ⟨t2, a1, b1⟩ := kk T' (by rw [e1, hp, h0]) X'
  exact ⟨t2, st t2 a1, b1⟩
end LWS
