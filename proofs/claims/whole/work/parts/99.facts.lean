/-! The law: what holds at its entry, as the walk wants it -/
theorem en_eqi {args : Array Value} {s : State} {tm : Term} {z : Int32} (h : (Cond.eq tm (.int z)).before args s = true) : tm.eval args s none [] s = some (.int z) := by
  cases hv : tm.eval args s none [] s with
  | none => simp [Cond.before, Cond.holds, Cond.value, hv] at h
  | some w =>
    have hz : (Term.int z).eval args s none [] s = some (.int z) := rfl
    simp only [Cond.before, Cond.holds, Cond.value, hv, hz] at h
    cases w <;> simp_all
def en_F : List Cond := flatC (Jvm.Cond.and given_1 narrow_1)
theorem en_o : ∀ j, j < 22 → Cond.eq (.elem (.static "CreaturePond$Mind" "OPERANDS" "[I") (.int (Int32.ofNat j))) (.int (cp_ops j)) ∈ en_F := by decide +kernel
theorem en_x : ∀ j, j < 4 → Cond.eq (.elem (.static "CreaturePond$Shape" "STEP_X" "[I") (.int (Int32.ofNat j))) (.int (cp_sx j)) ∈ en_F := by decide +kernel
theorem en_y : ∀ j, j < 4 → Cond.eq (.elem (.static "CreaturePond$Shape" "STEP_Y" "[I") (.int (Int32.ofNat j))) (.int (cp_sy j)) ∈ en_F := by decide +kernel
theorem en_m : ∀ w ∈ ([.arrayOf (.static "CreaturePond$Mind" "OPERANDS" "[I") .int, .eq (.length (.static "CreaturePond$Mind" "OPERANDS" "[I")) (.int (Int32.ofNat 22)), .arrayOf (.static "CreaturePond$Shape" "STEP_X" "[I") .int, .eq (.length (.static "CreaturePond$Shape" "STEP_X" "[I")) (.int (Int32.ofNat 4)), .arrayOf (.static "CreaturePond$Shape" "STEP_Y" "[I") .int, .eq (.length (.static "CreaturePond$Shape" "STEP_Y" "[I")) (.int (Int32.ofNat 4)), .isRef (.static "java/lang/Throwable" "UNASSIGNED_STACK" "[Ljava/lang/StackTraceElement;"), .isRef (.static "java/lang/Throwable" "SUPPRESSED_SENTINEL" "Ljava/util/List;"), .not (.castable "java/lang/IllegalStateException" "java/lang/IllegalArgumentException")] : List Cond), w ∈ en_F := by decide +kernel
section ENT
variable {s : State} {args : Array Value}
theorem en_A : ∀ a : Nat, a < s.heap.size → ¬ cn_A s.heap.size a := fun a h h2 => by
  have : s.heap.size ≤ a := h2
  omega
theorem en_Zt {C n : String} {N : Nat} {f : Nat → Int32} (hN : N < 2 ^ 31) (hl : (Cond.laysStatic C n "[I").before args s = true) (hini : (Cond.initialized C).before args s = true) (ha : (Cond.arrayOf (.static C n "[I") .int).before args s = true) (hlen : (Cond.eq (.length (.static C n "[I")) (.int (Int32.ofNat N))).before args s = true) (hel : ∀ j, j < N → (Cond.eq (.elem (.static C n "[I") (.int (Int32.ofNat j))) (.int (f j))).before args s = true) : cp_Zt C n N f (cn_A s.heap.size) s s.heap := by
  obtain ⟨t, h1, h2⟩ := va_Tof (A := cn_A s.heap.size) (f := fun j => .int (f j)) hN ha (en_eqi hlen) (fun j hj => en_eqi (hel j hj)) en_A
  exact ⟨t, va_Zref hl hini h1 en_A, h2⟩
theorem en_Z (hts : ∀ w ∈ lw_tbl, w.before args s = true) (hF : ∀ w ∈ en_F, w.before args s = true) : cp_Z (cn_A s.heap.size) s s.heap := by
  have hm := fun w h => hF w (en_m w h)
  have hl := fun w h => hts w (en_ls w h)
  have hT := fun w h => hts w (en_T w h)
  exact ⟨en_Zt (by decide) (hl _ (List.mem_of_getElem? (i := 0) rfl)) (hT _ (by exact tw_6)) (hm _ (List.mem_of_getElem? (i := 0) rfl)) (hm _ (List.mem_of_getElem? (i := 1) rfl)) (fun j hj => hF _ (en_o j hj)),
    en_Zt (by decide) (hl _ (List.mem_of_getElem? (i := 1) rfl)) (hT _ tw_2) (hm _ (List.mem_of_getElem? (i := 2) rfl)) (hm _ (List.mem_of_getElem? (i := 3) rfl)) (fun j hj => hF _ (en_x j hj)),
    en_Zt (by decide) (hl _ (List.mem_of_getElem? (i := 2) rfl)) (hT _ tw_2) (hm _ (List.mem_of_getElem? (i := 4) rfl)) (hm _ (List.mem_of_getElem? (i := 5) rfl)) (fun j hj => hF _ (en_y j hj))⟩
theorem en_N (hts : ∀ w ∈ lw_tbl, w.before args s = true) : cp_N cp_nw s := fun w hw => va_Nw.of (List.all_eq_true.mp en_nwT w hw) (hts w (en_nw w hw))
theorem en_E (hts : ∀ w ∈ lw_tbl, w.before args s = true) (hF : ∀ w ∈ en_F, w.before args s = true) : cx_E (cn_A s.heap.size) s s.heap := by
  have hm := fun w h => hF w (en_m w h)
  have hl := fun w h => hts w (en_ls w h)
  have hT := fun w h => hts w (en_T w h)
  refine ⟨fun w hw => va_Nw.of (cx_tab_on (List.all_eq_true.mp cx_ws_ok w hw)) (hts w (en_cx w hw)), cx_Zs.of (hl _ (List.mem_of_getElem? (i := 3) rfl)) (hm _ (List.mem_of_getElem? (i := 6) rfl)) en_A, cx_Zs.of (hl _ (List.mem_of_getElem? (i := 4) rfl)) (hm _ (List.mem_of_getElem? (i := 7) rfl)) en_A, fun q hq => ?_⟩
  obtain ⟨c1, hc1⟩ := hq_fc (hT _ tw_1)
  have h1 := hts _ (en_str q hq)
  obtain ⟨k, cf, i, a, -, -, -, -, -, h2⟩ := Cond.stringRef_spec hc1 h1
  exact ⟨a, vk_R.of h1 h2⟩
theorem en_NC (hF : ∀ w ∈ en_F, w.before args s = true) : cx_NC s := by
  intro c1 c2 h1 h2
  have h := hF _ (en_m _ (List.mem_of_getElem? (i := 8) rfl))
  simpa [Cond.before, Cond.holds, Cond.value, h1, h2] using h
theorem en_ar {ty : FieldType} (hty : ∀ C, ty ≠ .object C) (h : (Cond.arrayClass ty).before args s = true) : ∃ cA, ArrOfT s cA ty ∧ va_RA s cA ty := by
  obtain ⟨cA, kA, comp, h1, h2, h3⟩ := Cond.arrayClass_spec h
  refine ⟨cA, fun n z => ⟨fun k h => (by cases h), kA, h2, comp, h3⟩, ?_⟩
  cases ty with
  | object C => exact absurd rfl (hty C)
  | _ => exact h1
theorem en_ao2 {C : String} (h : (Cond.arrayOver (.object C)).before args s = true) : ∃ cA, ArrOfT s cA (.object C) ∧ va_RA s cA (.object C) := by
  obtain ⟨comp, cA, kA, h1, h2, h3, h4, h5⟩ := Cond.arrayOver_spec h
  exact ⟨cA, fun n z => ⟨fun k h => (by cases h), kA, h3, comp, h4⟩, kA, comp, h3, h4, h1, h5⟩
theorem en_K (hts : ∀ w ∈ lw_tbl, w.before args s = true) : ∃ (G : va_G) (ca : Nat → ClassId), va_K G vwCl (cp_tys (cn_L s.heap.size ca (0, fun _ => .inr (0, [])))) s := by
  have hT := fun w h => hts w (en_T w h)
  obtain ⟨c0, i0, k0⟩ := u_known (T := TX0) (N := 6) hT hinX0 (hT _ tw_17)
  obtain ⟨c1, i1, k1⟩ := u_known (T := TX1) (N := 14) hT hinX1 (hT _ tw_64)
  obtain ⟨c2, i2, k2⟩ := u_known (T := TX2) (N := 1) hT hinX2 (hT _ tw_129)
  obtain ⟨c3, i3, k3⟩ := u_known (T := TX3) (N := 1) hT hinX3 (hT _ tw_122)
  obtain ⟨c4, i4, k4⟩ := u_known (T := TX4) (N := 12) hT hinX4 (hT _ tw_59)
  obtain ⟨c5, i5, k5⟩ := u_known (T := TX5) (N := 4) hT hinX5 (hT _ tw_25)
  obtain ⟨c6, i6, k6⟩ := u_known (T := TX6) (N := 6) hT hinX6 (hT _ tw_370)
  obtain ⟨a0, p0⟩ := en_ar (fun _ h => by cases h) (hT _ tw_57)
  obtain ⟨a1, p1⟩ := en_ar (fun _ h => by cases h) (hT _ tw_96)
  obtain ⟨a3, p3⟩ := en_ar (fun _ h => by cases h) (hT _ tw_527)
  obtain ⟨a2, p2⟩ := en_ao2 (hts _ en_ao)
  refine ⟨(fun c => match c with | 0 => c0 | 1 => c1 | 2 => c2 | 3 => c3 | 4 => c4 | 5 => c5 | _ => c6, fun c => match c with | 0 => i0 | 1 => i1 | 2 => i2 | 3 => i3 | 4 => i4 | 5 => i5 | _ => i6), fun t => match t with | 0 => a0 | 1 => a1 | 2 => a2 | _ => a3, fun c q hq => ?_, fun k q hq => ?_⟩
  · match c, hq with
    | 0, hq => cases hq; exact k0
    | 1, hq => cases hq; exact k1
    | 2, hq => cases hq; exact k2
    | 3, hq => cases hq; exact k3
    | 4, hq => cases hq; exact k4
    | 5, hq => cases hq; exact k5
    | 6, hq => cases hq; exact k6
    | n + 7, hq => cases hq
  · match k, hq with
    | 0, hq => cases hq; exact p0
    | 1, hq => cases hq; exact p1
    | 2, hq => cases hq; exact p2
    | 3, hq => cases hq; exact p3
    | n + 4, hq => cases hq
end ENT
/-- from the entry, for every script of at most 2562 ints, the law comes to its end with true -/
theorem whole_start {p : Program} {e : Env} {s : State} {m : MethodId} {below : List Frame} {meth : Method} {c : Code} (l : Launch) (hst : l.stackTraces = false) {b L : Nat} {xs : Nat → Int32} (hL : L ≤ 2562) (C0 : lw_At p s m meth c b L xs) : W p l e room_1 s m #[Value.ref b] below meth c s.heap [] 0 0 (lw_Z below #[Value.ref b] s) (entryFrame m ([Value.ref b] : List Value).toArray 7) := by
  obtain ⟨hx, hb, hr, hml, hown, hts, hX, hbl, hlocks, hgv⟩ := C0
  have hF : ∀ w ∈ en_F, w.before #[Value.ref b] s = true := flat_of_before _ hgv
  obtain ⟨G, ca, hK⟩ := en_K hts
  exact lw_go l hx hb hr hlocks hml hown (fun w h => hts w (en_T w h)) (fun w h => hts w (en_cw w h)) hst hK (en_N hts) (en_Z hts hF) (en_E hts hF) (en_NC hF) (va_AO.of (hts _ en_ao)) hX hbl hL
