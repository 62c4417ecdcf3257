/-! Constructors: rows whose counts come out of the world itself -/
def cn_mk (M : Nat) (S : cn_S) (D : cp_Dt) (z : cp_Sh) : Option (cn_S × cp_Dt) := if S.1 + 1 ≤ M then some (cn_nw S z, cn_z D S.1) else none
def cn_gd (a M : Nat) : Option Unit := if a ≤ M then some () else none
section CW
variable {p : Program} {l : Launch} {e : Env} {R : Room} {s : State} {m : MethodId} {args : Array Value} {below : List Frame} {meth : Method} {c : Code} {H : Heap} {locs : List Loc} {cells slots : Nat} {Q : State → Prop}
variable {cc : ByteArray} {pc : Nat} {ls : Array Slot} {rest : List Value} {G : va_G} {B : Nat} {ca : Nat → ClassId} {S S' S0 : cn_S} {D D' : cp_Dt} {mc ms : Nat}
theorem cn_mk_spec {M : Nat} {z : cp_Sh} {y : cn_S × cp_Dt} (h : cn_mk M S D z = some y) : S.1 + 1 ≤ M ∧ y = (cn_nw S z, cn_z D S.1) := by
  unfold cn_mk at h
  by_cases hc : S.1 + 1 ≤ M
  · rw [if_pos hc] at h
    exact ⟨hc, (Option.some.inj h).symm⟩
  · rw [if_neg hc] at h
    cases h
theorem cn_gc {k : Nat} {u : Unit} (hz0 : s.heap.size = B + S0.1) (hR : R.cells = mc) (hI : cn_I G B ca S D s H locs cells) (h : cn_gd (S.1 + k) (S0.1 + mc) = some u) : cells + k ≤ R.cells := by
  unfold cn_gd at h
  by_cases hc : S.1 + k ≤ S0.1 + mc
  · have := hI.2.2.1
    omega
  · rw [if_neg hc] at h
    cases h
theorem cn_newM (hx : p.tables.exec = Jvm.exec) (hb : c.code = cc) {own C : String} {T : u_T} {N ci index : Nat} {Ts : List Cond} (hts : ∀ w ∈ Ts, w.before args s = true) (hin : ∀ w ∈ u_ws C T N, w ∈ Ts) (ty : Nat → FieldType) (hty : ∀ k, k < N → parseFieldDescriptor (T k).2.2.1 = some (ty k)) (hown : s.vm.findClass own = some m.cls) (hcl : (Cond.classLink own index C).before args s = true) (hinst : (Cond.instantiable C N).before args s = true) (hini : (Cond.initialized C).before args s = true)
    (hK : va_K G vwCl (cp_tys (cn_L B ca S)) s) (hI : cn_I G B ca S D s H locs cells) (hc : vwCl[ci]? = some (C, T, N)) {fl : List (Option (Option Nat))} (hfl : ∀ j, j < N → ∀ g : Nat → Nat, defaultValue (ty j) = vp_V (fl.mapIdx (cp_fv g (fun _ => 0))) j) (hz0 : s.heap.size = B + S0.1) (hR : R.cells = mc) {y : cn_S × cp_Dt} (hv : cn_mk (S0.1 + mc) S D (.inr (ci, fl)) = some y) (hslots : slots + N ≤ R.slots) (hdg : decode cc pc = .ok (.new index, 3))
    (kk : ∀ H1 : Heap, cn_I G B ca y.1 y.2 s H1 locs (cells + 1) → W p l e R s m args below meth c H1 locs (cells + 1) (slots + N) Q (F0 m (pc + 3) ls (.ref (B + S.1) :: rest))) : W p l e R s m args below meth c H locs cells slots Q (F0 m pc ls rest) := by
  obtain ⟨h1, rfl⟩ := cn_mk_spec hv
  exact cn_new hx hb hts hin ty hty hown hcl hinst hini hK hI hc hfl (by have := hI.2.2.1; omega) hslots hdg kk
theorem cn_newaM (hx : p.tables.exec = Jvm.exec) (hb : c.code = cc) {atype : ArrayType} {t K : Nat} (ht : (t = 0 ∧ newarray.typeOf atype = .int) ∨ (t = 1 ∧ newarray.typeOf atype = .byte) ∨ (t = 3 ∧ newarray.typeOf atype = .long)) (harr : (Cond.arrayClass (newarray.typeOf atype)).before args s = true) (hK : va_K G vwCl (cp_tys (cn_L B ca S)) s) (hI : cn_I G B ca S D s H locs cells)
    {n : Int32} {N' : Nat} (hln : cn_ln n K = some N') (hK8 : K * 8 ≤ 536870912) (hz0 : s.heap.size = B + S0.1) (hR : R.cells = mc) {y : cn_S × cp_Dt} (hv : cn_mk (S0.1 + mc) S D (.inl (t, N', fun _ => none)) = some y) (hslots : slots + K ≤ R.slots) (hdg : decode cc pc = .ok (.newarray atype, 2))
    (kk : ∀ H1 : Heap, cn_I G B ca y.1 y.2 s H1 locs (cells + 1) → W p l e R s m args below meth c H1 locs (cells + 1) (slots + K) Q (F0 m (pc + 2) ls (.ref (B + S.1) :: rest))) : W p l e R s m args below meth c H locs cells slots Q (F0 m pc ls (.int n :: rest)) := by
  obtain ⟨h1, rfl⟩ := cn_mk_spec hv
  exact cn_newa hx hb ht harr hK hI hln hK8 (by have := hI.2.2.1; omega) hslots hdg kk
theorem cn_newqM (hx : p.tables.exec = Jvm.exec) (hb : c.code = cc) {own : String} {index : Nat} (hown : s.vm.findClass own = some m.cls) (hclink : (Cond.classLink own index "CreaturePond$Animal").before args s = true) (hover : va_AO "CreaturePond$Animal" s) (hK : va_K G vwCl (cp_tys (cn_L B ca S)) s) (hI : cn_I G B ca S D s H locs cells)
    {n : Int32} {N' K : Nat} (hln : cn_ln n K = some N') (hK8 : K * 8 ≤ 536870912) (hz0 : s.heap.size = B + S0.1) (hR : R.cells = mc) {y : cn_S × cp_Dt} (hv : cn_mk (S0.1 + mc) S D (.inl (2, N', fun _ => none)) = some y) (hslots : slots + K ≤ R.slots) (hdg : decode cc pc = .ok (.anewarray index, 3))
    (kk : ∀ H1 : Heap, cn_I G B ca y.1 y.2 s H1 locs (cells + 1) → W p l e R s m args below meth c H1 locs (cells + 1) (slots + K) Q (F0 m (pc + 3) ls (.ref (B + S.1) :: rest))) : W p l e R s m args below meth c H locs cells slots Q (F0 m pc ls (.int n :: rest)) := by
  obtain ⟨h1, rfl⟩ := cn_mk_spec hv
  exact cn_newq hx hb hown hclink hover hK hI hln hK8 (by have := hI.2.2.1; omega) hslots hdg kk
theorem cn_prec {av : List Value} (hI : cn_I G B ca S D s H locs cells) (hK : va_K G vwCl (cp_tys (cn_L B ca S)) s) (hN : cp_N cp_nw s) (hZ : cp_Z (cn_A B) s s.heap) : ∀ U : State, U.heap = H → s.WarmedH U.vm → va_Pc av (cp_Pre G (cn_L B ca S) D) av.toArray U := by
  intro U hU hW
  refine ⟨rfl, by rw [hU]; exact hI.1, va_K.moved hW.alike hK, cp_N.warm cp_nw_ok hW hN, ?_⟩
  rw [hU]
  exact ((cp_Z.moved hW.alike hZ).kept hI.2.2.2.2.1).narrow cn_sub
theorem cn_vretM (hx : p.tables.exec = Jvm.exec) (hb : c.code = cc) (hr : meth.sig.returnType = none) (hlocks : meth.locks = false) {res : cn_S × cp_Dt} (hz0 : s.heap.size = B + S0.1) (hF : (if S.1 = S0.1 + mc then some (S, D) else none) = some res) (hI : cn_I G B ca S D s H locs cells) (hsl : slots ≤ ms) (hdg : decode cc pc = .ok (.return_, 1)) : W p l e R s m args below meth c H locs cells slots (MQ below (cn_Q G B ca S0 mc res.1 res.2) args s mc ms (cn_A B)) (F0 m pc ls []) := by
  by_cases hc : S.1 = S0.1 + mc
  · have hcm : cells = mc := by have := hI.2.2.1; omega
    subst hcm
    exact W.widen (Nat.le_refl _) hsl (cn_vret hx hb hr hlocks hF hI hdg)
  · rw [if_neg hc] at hF
    cases hF
theorem cn_obj {nL : Nat} (hx : p.tables.exec = Jvm.exec) (hb : c.code = cc) {own : String} (hown : s.vm.findClass own = some m.cls) {idx : Nat} (hlink : (Cond.methodLink own idx Lib.objectInit).before args s = true) (hinst : (Cond.instanceMethod Lib.objectInit).before args s = true) (hcode : (Cond.code Lib.objectInit ⟨#[0xb1]⟩ 1 none).before args s = true) (hml : c.maxLocals = nL) (hls : ls.size = nL) {a : Addr} (hd : decode cc pc = .ok (.invokespecial idx, 3)) (hframes : 1 ≤ R.frames) (hlocals : (rest.map fun v => v.category).sum + 12 ≤ R.locals)
    (kk : W p l e R s m args below meth c H locs cells slots Q (F0 m (pc + 3) ls rest)) : W p l e R s m args below meth c H locs cells slots Q (F0 m pc ls (.ref a :: rest)) :=
  W.objInit hx hb hown hlink hinst hcode (g := F0 m pc ls (.ref a :: rest)) rfl (hls.trans hml.symm) rfl hd hframes (by show 2 * 0 + _ + 12 ≤ _; omega) kk
end CW
def flX0 : List (Option (Option Nat)) := [some none, some none, some none, some none, some none, none]
theorem flX0_ok : ∀ j, j < 6 → ∀ g : Nat → Nat, defaultValue (tyX0 j) = vp_V (flX0.mapIdx (cp_fv g (fun _ => 0))) j := by
  intro j hj g
  match j, hj with
  | 0, _ | 1, _ | 2, _ | 3, _ | 4, _ | 5, _ => rfl
def flX1 : List (Option (Option Nat)) := [some none, some none, some none, none, none, none, none, none, none, none, none, none, none, none]
theorem flX1_ok : ∀ j, j < 14 → ∀ g : Nat → Nat, defaultValue (tyX1 j) = vp_V (flX1.mapIdx (cp_fv g (fun _ => 0))) j := by
  intro j hj g
  match j, hj with
  | 0, _ | 1, _ | 2, _ | 3, _ | 4, _ | 5, _ | 6, _ | 7, _ | 8, _ | 9, _ | 10, _ | 11, _ | 12, _ | 13, _ => rfl
def flX2 : List (Option (Option Nat)) := [some none]
theorem flX2_ok : ∀ j, j < 1 → ∀ g : Nat → Nat, defaultValue (tyX2 j) = vp_V (flX2.mapIdx (cp_fv g (fun _ => 0))) j := by
  intro j hj g
  match j, hj with
  | 0, _ => rfl
def flX3 : List (Option (Option Nat)) := [some none]
theorem flX3_ok : ∀ j, j < 1 → ∀ g : Nat → Nat, defaultValue (tyX3 j) = vp_V (flX3.mapIdx (cp_fv g (fun _ => 0))) j := by
  intro j hj g
  match j, hj with
  | 0, _ => rfl
def flX4 : List (Option (Option Nat)) := [some none, some none, some none, some none, some none, none, none, none, none, none, none, none]
theorem flX4_ok : ∀ j, j < 12 → ∀ g : Nat → Nat, defaultValue (tyX4 j) = vp_V (flX4.mapIdx (cp_fv g (fun _ => 0))) j := by
  intro j hj g
  match j, hj with
  | 0, _ | 1, _ | 2, _ | 3, _ | 4, _ | 5, _ | 6, _ | 7, _ | 8, _ | 9, _ | 10, _ | 11, _ => rfl
def flX5 : List (Option (Option Nat)) := [none, none, none, some none]
theorem flX5_ok : ∀ j, j < 4 → ∀ g : Nat → Nat, defaultValue (tyX5 j) = vp_V (flX5.mapIdx (cp_fv g (fun _ => 0))) j := by
  intro j hj g
  match j, hj with
  | 0, _ | 1, _ | 2, _ | 3, _ => rfl
def flX6 : List (Option (Option Nat)) := [none, none, none, some none, none, some none]
theorem flX6_ok : ∀ j, j < 6 → ∀ g : Nat → Nat, defaultValue (tyX6 j) = vp_V (flX6.mapIdx (cp_fv g (fun _ => 0))) j := by
  intro j hj g
  match j, hj with
  | 0, _ | 1, _ | 2, _ | 3, _ | 4, _ | 5, _ => rfl
theorem dX1_init_0 : decode cX1_init 0 = .ok (.aload_n 0, 1) := by decide +kernel
theorem dX1_init_1 : decode cX1_init 1 = .ok (.invokespecial 3, 3) := by decide +kernel
theorem dX1_init_4 : decode cX1_init 4 = .ok (.aload_n 0, 1) := by decide +kernel
theorem dX1_init_5 : decode cX1_init 5 = .ok (.bipush 8, 2) := by decide +kernel
theorem dX1_init_7 : decode cX1_init 7 = .ok (.newarray .byte, 2) := by decide +kernel
theorem dX1_init_9 : decode cX1_init 9 = .ok (.putfield 9, 3) := by decide +kernel
theorem dX1_init_12 : decode cX1_init 12 = .ok (.aload_n 0, 1) := by decide +kernel
theorem dX1_init_13 : decode cX1_init 13 = .ok (.bipush 16, 2) := by decide +kernel
theorem dX1_init_15 : decode cX1_init 15 = .ok (.newarray .byte, 2) := by decide +kernel
theorem dX1_init_17 : decode cX1_init 17 = .ok (.putfield 15, 3) := by decide +kernel
theorem dX1_init_20 : decode cX1_init 20 = .ok (.aload_n 0, 1) := by decide +kernel
theorem dX1_init_21 : decode cX1_init 21 = .ok (.bipush 20, 2) := by decide +kernel
theorem dX1_init_23 : decode cX1_init 23 = .ok (.newarray .byte, 2) := by decide +kernel
theorem dX1_init_25 : decode cX1_init 25 = .ok (.putfield 18, 3) := by decide +kernel
theorem dX1_init_28 : decode cX1_init 28 = .ok (.return_, 1) := by decide +kernel
def fn_X1_init (B : Nat) (ca : Nat → ClassId) (q : Nat) (k0 : Nat) (S : cn_S) (D : cp_Dt) : Option (cn_S × cp_Dt) :=
  (cn_ln (8 : Int32) 8).bind fun n2 =>
  (cn_mk (S.1 + 3) S D (.inl (1, n2, fun _ => none))).bind fun y1 =>
  (cn_pR y1.1 k0 1 0 S.1).bind fun S3 =>
  (cn_ln (16 : Int32) 16).bind fun n5 =>
  (cn_mk (S.1 + 3) S3 y1.2 (.inl (1, n5, fun _ => none))).bind fun y4 =>
  (cn_pR y4.1 k0 1 1 S3.1).bind fun S6 =>
  (cn_ln (20 : Int32) 20).bind fun n8 =>
  (cn_mk (S.1 + 3) S6 y4.2 (.inl (1, n8, fun _ => none))).bind fun y7 =>
  (cn_pR y7.1 k0 1 2 S6.1).bind fun S9 =>
  if S9.1 = S.1 + 3 then some (S9, y7.2) else none
set_option maxHeartbeats 4000000 in
set_option maxRecDepth 100000 in
theorem cc_X1_init (l : Launch) (G : va_G) (B : Nat) (ca : Nat → ClassId) (q : Nat) (k0 : Nat) (S : cn_S) (D : cp_Dt) (res : cn_S × cp_Dt) (hF : fn_X1_init B ca q k0 S D = some res) : cn_Met l G yX1_init wsX1_init ({ frames := 1, cells := 3, slots := 44, locals := 20 }) 3 44 B ca ([.ref (B + k0)] : List Value) S D res.1 res.2 := by
  refine Met.ofW (cc := cX1_init) (maxL := 1) (ret := none) (by decide) rfl ?_
  intro p e s m args below meth c s₁ B0 hml hv
  obtain ⟨rfl, hP, hz0, hK, hN, hZ, hO⟩ := hv
  have hx := B0.exec
  have hb := B0.bytes
  have hr := B0.returns
  have hname : meth.name = "<init>" := (name_of_methodNamed B0.named B0.method).1
  have hts := atoms_spec (ws := wsX1_init) B0.pre
  have hown : s.vm.findClass "CreaturePond$Animal" = some m.cls := findClass_of_methodNamed B0.named
  have hlocks := B0.notSynchronized
  have hI : cn_I G B ca S D s s.heap [] 0 := ⟨hP, hz0, hz0, va_S.rf⟩
  have htT : ∀ w ∈ cp_T, w.before ([.ref (B + k0)] : List Value).toArray s = true := fun w h => hts w (List.mem_cons_of_mem _ h)
  have hl := lv_entry (([.ref (B + k0)] : List Value)) (n := 1) (Nat.le_of_ble_eq_true rfl)
  rw [lg_entry_eq]
  generalize (lg_sl (([.ref (B + k0)] : List Value)) ++ List.replicate (1 - (lg_sl (([.ref (B + k0)] : List Value))).length) Slot.unset).toArray = ls at hl ⊢
  have hl : lv_has ls 1 [(0, .ref (B + k0))] := hl
  unfold fn_X1_init at hF
  refine lv_aload_n hx hb dX1_init_0 rfl (lv_at hl 0 rfl) ?_
  refine cn_obj hx hb hown (htT _ tw_67) (htT _ tw_22) (htT _ tw_23) hml hl.1 dX1_init_1 (Nat.le_of_ble_eq_true rfl) (Nat.le_of_ble_eq_true rfl) ?_
  refine lv_aload_n hx hb dX1_init_4 rfl (lv_at hl 0 rfl) ?_
  refine lv_bipush (v := (8 : Int32)) hx hb dX1_init_5 (by decide) ?_
  obtain ⟨n2, en2, hF⟩ := cp_bind hF
  obtain ⟨y1, ey1, hF⟩ := cp_bind hF
  refine cn_newaM (S := S) (S0 := S) (mc := 3) (K := 8) (atype := .byte) hx hb (Or.inr (Or.inl ⟨rfl, rfl⟩)) (htT _ tw_96) hK hI en2 (by decide) hz0 rfl ey1 (Nat.le_of_ble_eq_true rfl) dX1_init_7 (fun H hI => ?_)
  obtain ⟨S3, eS3, hF⟩ := cp_bind hF
  refine cn_putR (S := y1.1) (k := k0) (t := S.1) (T := TX1) (N := 14) (ci := 1) (j := 0) hx hb htT hinX1 tyX1 tyX1_ok nmX1 hown hK hI rfl (by decide) rfl (htT _ tw_68) rfl hname rfl (fun _ => rfl) (fun _ => rfl) eS3 dX1_init_9 (fun H locs hI => ?_)
  refine lv_aload_n hx hb dX1_init_12 rfl (lv_at hl 0 rfl) ?_
  refine lv_bipush (v := (16 : Int32)) hx hb dX1_init_13 (by decide) ?_
  obtain ⟨n5, en5, hF⟩ := cp_bind hF
  obtain ⟨y4, ey4, hF⟩ := cp_bind hF
  refine cn_newaM (S := S3) (S0 := S) (mc := 3) (K := 16) (atype := .byte) hx hb (Or.inr (Or.inl ⟨rfl, rfl⟩)) (htT _ tw_96) hK hI en5 (by decide) hz0 rfl ey4 (Nat.le_of_ble_eq_true rfl) dX1_init_15 (fun H hI => ?_)
  obtain ⟨S6, eS6, hF⟩ := cp_bind hF
  refine cn_putR (S := y4.1) (k := k0) (t := S3.1) (T := TX1) (N := 14) (ci := 1) (j := 1) hx hb htT hinX1 tyX1 tyX1_ok nmX1 hown hK hI rfl (by decide) rfl (htT _ tw_69) rfl hname rfl (fun _ => rfl) (fun _ => rfl) eS6 dX1_init_17 (fun H locs hI => ?_)
  refine lv_aload_n hx hb dX1_init_20 rfl (lv_at hl 0 rfl) ?_
  refine lv_bipush (v := (20 : Int32)) hx hb dX1_init_21 (by decide) ?_
  obtain ⟨n8, en8, hF⟩ := cp_bind hF
  obtain ⟨y7, ey7, hF⟩ := cp_bind hF
  refine cn_newaM (S := S6) (S0 := S) (mc := 3) (K := 20) (atype := .byte) hx hb (Or.inr (Or.inl ⟨rfl, rfl⟩)) (htT _ tw_96) hK hI en8 (by decide) hz0 rfl ey7 (Nat.le_of_ble_eq_true rfl) dX1_init_23 (fun H hI => ?_)
  obtain ⟨S9, eS9, hF⟩ := cp_bind hF
  refine cn_putR (S := y7.1) (k := k0) (t := S6.1) (T := TX1) (N := 14) (ci := 1) (j := 2) hx hb htT hinX1 tyX1 tyX1_ok nmX1 hown hK hI rfl (by decide) rfl (htT _ tw_70) rfl hname rfl (fun _ => rfl) (fun _ => rfl) eS9 dX1_init_25 (fun H locs hI => ?_)
  exact cn_vretM (S0 := S) (mc := 3) hx hb hr hlocks hz0 hF hI (Nat.le_of_ble_eq_true rfl) dX1_init_28
theorem dX4_init_0 : decode cX4_init 0 = .ok (.aload_n 0, 1) := by decide +kernel
theorem dX4_init_1 : decode cX4_init 1 = .ok (.invokespecial 3, 3) := by decide +kernel
theorem dX4_init_4 : decode cX4_init 4 = .ok (.aload_n 0, 1) := by decide +kernel
theorem dX4_init_5 : decode cX4_init 5 = .ok (.bipush 16, 2) := by decide +kernel
theorem dX4_init_7 : decode cX4_init 7 = .ok (.anewarray 9, 3) := by decide +kernel
theorem dX4_init_10 : decode cX4_init 10 = .ok (.putfield 11, 3) := by decide +kernel
theorem dX4_init_13 : decode cX4_init 13 = .ok (.aload_n 0, 1) := by decide +kernel
theorem dX4_init_14 : decode cX4_init 14 = .ok (.aload_n 1, 1) := by decide +kernel
theorem dX4_init_15 : decode cX4_init 15 = .ok (.putfield 17, 3) := by decide +kernel
theorem dX4_init_18 : decode cX4_init 18 = .ok (.aload_n 0, 1) := by decide +kernel
theorem dX4_init_19 : decode cX4_init 19 = .ok (.aload_n 1, 1) := by decide +kernel
theorem dX4_init_20 : decode cX4_init 20 = .ok (.getfield 21, 3) := by decide +kernel
theorem dX4_init_23 : decode cX4_init 23 = .ok (.newarray .int, 2) := by decide +kernel
theorem dX4_init_25 : decode cX4_init 25 = .ok (.putfield 27, 3) := by decide +kernel
theorem dX4_init_28 : decode cX4_init 28 = .ok (.aload_n 0, 1) := by decide +kernel
theorem dX4_init_29 : decode cX4_init 29 = .ok (.aload_n 1, 1) := by decide +kernel
theorem dX4_init_30 : decode cX4_init 30 = .ok (.getfield 21, 3) := by decide +kernel
theorem dX4_init_33 : decode cX4_init 33 = .ok (.newarray .byte, 2) := by decide +kernel
theorem dX4_init_35 : decode cX4_init 35 = .ok (.putfield 31, 3) := by decide +kernel
theorem dX4_init_38 : decode cX4_init 38 = .ok (.aload_n 0, 1) := by decide +kernel
theorem dX4_init_39 : decode cX4_init 39 = .ok (.aload_n 1, 1) := by decide +kernel
theorem dX4_init_40 : decode cX4_init 40 = .ok (.getfield 21, 3) := by decide +kernel
theorem dX4_init_43 : decode cX4_init 43 = .ok (.newarray .int, 2) := by decide +kernel
theorem dX4_init_45 : decode cX4_init 45 = .ok (.putfield 35, 3) := by decide +kernel
theorem dX4_init_48 : decode cX4_init 48 = .ok (.iconst 0, 1) := by decide +kernel
theorem dX4_init_49 : decode cX4_init 49 = .ok (.istore_n 2, 1) := by decide +kernel
theorem dX4_init_50 : decode cX4_init 50 = .ok (.iload_n 2, 1) := by decide +kernel
theorem dX4_init_51 : decode cX4_init 51 = .ok (.aload_n 1, 1) := by decide +kernel
theorem dX4_init_52 : decode cX4_init 52 = .ok (.getfield 21, 3) := by decide +kernel
theorem dX4_init_55 : decode cX4_init 55 = .ok (.if_icmp .ge 16, 3) := by decide +kernel
theorem dX4_init_58 : decode cX4_init 58 = .ok (.aload_n 0, 1) := by decide +kernel
theorem dX4_init_59 : decode cX4_init 59 = .ok (.getfield 35, 3) := by decide +kernel
theorem dX4_init_62 : decode cX4_init 62 = .ok (.iload_n 2, 1) := by decide +kernel
theorem dX4_init_63 : decode cX4_init 63 = .ok (.iconst (-1), 1) := by decide +kernel
theorem dX4_init_64 : decode cX4_init 64 = .ok (.iastore, 1) := by decide +kernel
theorem dX4_init_65 : decode cX4_init 65 = .ok (.iinc 2 1, 3) := by decide +kernel
theorem dX4_init_68 : decode cX4_init 68 = .ok (.goto (-18), 3) := by decide +kernel
theorem dX4_init_71 : decode cX4_init 71 = .ok (.iconst 0, 1) := by decide +kernel
theorem dX4_init_72 : decode cX4_init 72 = .ok (.istore_n 2, 1) := by decide +kernel
theorem dX4_init_73 : decode cX4_init 73 = .ok (.iload_n 2, 1) := by decide +kernel
theorem dX4_init_74 : decode cX4_init 74 = .ok (.bipush 16, 2) := by decide +kernel
theorem dX4_init_76 : decode cX4_init 76 = .ok (.if_icmp .ge 22, 3) := by decide +kernel
theorem dX4_init_79 : decode cX4_init 79 = .ok (.aload_n 0, 1) := by decide +kernel
theorem dX4_init_80 : decode cX4_init 80 = .ok (.getfield 11, 3) := by decide +kernel
theorem dX4_init_83 : decode cX4_init 83 = .ok (.iload_n 2, 1) := by decide +kernel
theorem dX4_init_84 : decode cX4_init 84 = .ok (.new 9, 3) := by decide +kernel
theorem dX4_init_87 : decode cX4_init 87 = .ok (.dup, 1) := by decide +kernel
theorem dX4_init_88 : decode cX4_init 88 = .ok (.invokespecial 38, 3) := by decide +kernel
theorem dX4_init_91 : decode cX4_init 91 = .ok (.aastore, 1) := by decide +kernel
theorem dX4_init_92 : decode cX4_init 92 = .ok (.iinc 2 1, 3) := by decide +kernel
theorem dX4_init_95 : decode cX4_init 95 = .ok (.goto (-22), 3) := by decide +kernel
theorem dX4_init_98 : decode cX4_init 98 = .ok (.return_, 1) := by decide +kernel
def fn_X4_init_L73 (B : Nat) (ca : Nat → ClassId) (q : Nat) (S : cn_S) : Nat → Nat → Nat → Int32 → cn_S → cp_Dt → Option (cn_S × cp_Dt)
  | 0, _, _, _, _, _ => none
  | n + 1, a0, a1, i2, S1, D =>
    if (16 : Int32) ≤ i2 then (if S1.1 = S.1 + 68 then some (S1, D) else none)
    else ((cp_gR (cn_L B ca S1) a0 4 4).bind fun r22 =>
    (cn_mk (S.1 + 68) S1 D (.inr (1, flX1))).bind fun y23 =>
    (cn_gd (y23.1.1 + 3) (S.1 + 68)).bind fun u24 =>
    (fn_X1_init B ca q S1.1 y23.1 y23.2).bind fun y25 =>
    (cn_aR y25.1 r22 i2 S1.1).bind fun S26 =>
    fn_X4_init_L73 B ca q S n a0 a1 (i2 + 1) S26 y25.2)
def fn_X4_init_L50 (B : Nat) (ca : Nat → ClassId) (q : Nat) (S : cn_S) : Nat → Nat → Nat → Int32 → cn_S → cp_Dt → Option (cn_S × cp_Dt)
  | 0, _, _, _, _, _ => none
  | n + 1, a0, a1, i2, S1, D =>
    (cp_gI (cn_L B ca S1) D a1 5 2).bind fun v17 =>
    if v17 ≤ i2 then (fn_X4_init_L73 B ca q S 17 a0 a1 (0 : Int32) S1 D)
    else ((cp_gR (cn_L B ca S1) a0 4 3).bind fun r19 =>
    (cp_aS (cn_L B ca S1) D 0 r19 i2 (-1 : Int32)).bind fun D20 =>
    fn_X4_init_L50 B ca q S n a0 a1 (i2 + 1) S1 D20)
def fn_X4_init (B : Nat) (ca : Nat → ClassId) (q : Nat) (k0 : Nat) (k1 : Nat) (S : cn_S) (D : cp_Dt) : Option (cn_S × cp_Dt) :=
  (cn_ln (16 : Int32) 16).bind fun n2 =>
  (cn_mk (S.1 + 68) S D (.inl (2, n2, fun _ => none))).bind fun y1 =>
  (cn_pR y1.1 k0 4 4 S.1).bind fun S3 =>
  (cn_pR S3 k0 4 0 k1).bind fun S4 =>
  (cp_gI (cn_L B ca S4) y1.2 k1 5 2).bind fun v5 =>
  (cn_ln v5 100).bind fun n7 =>
  (cn_mk (S.1 + 68) S4 y1.2 (.inl (0, n7, fun _ => none))).bind fun y6 =>
  (cn_pR y6.1 k0 4 1 S4.1).bind fun S8 =>
  (cp_gI (cn_L B ca S8) y6.2 k1 5 2).bind fun v9 =>
  (cn_ln v9 100).bind fun n11 =>
  (cn_mk (S.1 + 68) S8 y6.2 (.inl (1, n11, fun _ => none))).bind fun y10 =>
  (cn_pR y10.1 k0 4 2 S8.1).bind fun S12 =>
  (cp_gI (cn_L B ca S12) y10.2 k1 5 2).bind fun v13 =>
  (cn_ln v13 100).bind fun n15 =>
  (cn_mk (S.1 + 68) S12 y10.2 (.inl (0, n15, fun _ => none))).bind fun y14 =>
  (cn_pR y14.1 k0 4 3 S12.1).bind fun S16 =>
  fn_X4_init_L50 B ca q S q k0 k1 (0 : Int32) S16 y14.2
set_option maxHeartbeats 4000000 in
set_option maxRecDepth 100000 in
theorem cc_X4_init (l : Launch) (G : va_G) (B : Nat) (ca : Nat → ClassId) (q : Nat) (k0 : Nat) (k1 : Nat) (S : cn_S) (D : cp_Dt) (res : cn_S × cp_Dt) (hF : fn_X4_init B ca q k0 k1 S D = some res) : cn_Met l G yX4_init wsX4_init ({ frames := 2, cells := 68, slots := 1400, locals := 40 }) 68 1400 B ca ([.ref (B + k0), .ref (B + k1)] : List Value) S D res.1 res.2 := by
  refine Met.ofW (cc := cX4_init) (maxL := 3) (ret := none) (by decide) rfl ?_
  intro p e s m args below meth c s₁ B0 hml hv
  obtain ⟨rfl, hP, hz0, hK, hN, hZ, hO⟩ := hv
  have hx := B0.exec
  have hb := B0.bytes
  have hr := B0.returns
  have hname : meth.name = "<init>" := (name_of_methodNamed B0.named B0.method).1
  have hts := atoms_spec (ws := wsX4_init) B0.pre
  have hown : s.vm.findClass "CreaturePond$Pond" = some m.cls := findClass_of_methodNamed B0.named
  have hlocks := B0.notSynchronized
  have hI : cn_I G B ca S D s s.heap [] 0 := ⟨hP, hz0, hz0, va_S.rf⟩
  have htT : ∀ w ∈ cp_T, w.before ([.ref (B + k0), .ref (B + k1)] : List Value).toArray s = true := fun w h => hts w (List.mem_cons_of_mem _ h)
  have hl := lv_entry (([.ref (B + k0), .ref (B + k1)] : List Value)) (n := 3) (Nat.le_of_ble_eq_true rfl)
  rw [lg_entry_eq]
  generalize (lg_sl (([.ref (B + k0), .ref (B + k1)] : List Value)) ++ List.replicate (3 - (lg_sl (([.ref (B + k0), .ref (B + k1)] : List Value))).length) Slot.unset).toArray = ls at hl ⊢
  have hl : lv_has ls 3 [(0, .ref (B + k0)), (1, .ref (B + k1))] := hl
  have hL73 : ∀ (n : Nat) (a0 : Nat) (a1 : Nat) (i2 : Int32) (S1 : cn_S) (D : cp_Dt) (H : Heap) (locs : List Loc) (ls : Array Slot) (cells slots : Nat), fn_X4_init_L73 B ca q S n a0 a1 i2 S1 D = some res → slots + 58 * n ≤ 1400 → cn_I G B ca S1 D s H locs cells → lv_has ls 3 [(0, .ref (B + a0)), (1, .ref (B + a1)), (2, .int i2)] → W p l e (headSpec wsX4_init ({ frames := 2, cells := 68, slots := 1400, locals := 40 })).room s m ([.ref (B + k0), .ref (B + k1)] : List Value).toArray below meth c H locs cells slots (MQ below (cn_Q G B ca S 68 res.1 res.2) ([.ref (B + k0), .ref (B + k1)] : List Value).toArray s 68 1400 (cn_A B)) (F0 m 73 ls []) := by
    intro n
    induction n with
    | zero =>
      intro a0 a1 i2 S1 D H locs ls cells slots hF
      cases hF
    | succ n ih =>
      intro a0 a1 i2 S1 D H locs ls cells slots hF hsl hI hl
      unfold fn_X4_init_L73 at hF
      refine lv_iload_n hx hb dX4_init_73 rfl (lv_at hl 2 rfl) ?_
      refine lv_bipush (v := (16 : Int32)) hx hb dX4_init_74 (by decide) ?_
      refine lv_icmp_ge (tgt := 98) hx hb dX4_init_76 (by decide) (fun hc21 => ?_) (fun hc21 => ?_)
      · rw [if_pos hc21] at hF
        exact cn_vretM (S0 := S) (mc := 68) hx hb hr hlocks hz0 hF hI (by show _ ≤ 1400; omega) dX4_init_98
      · rw [if_neg hc21] at hF
        refine lv_aload_n hx hb dX4_init_79 rfl (lv_at hl 0 rfl) ?_
        obtain ⟨r22, er22, hF⟩ := cp_bind hF
        refine cp_getR (L := cn_L B ca S1) (T := TX4) (N := 12) (ci := 4) (j := 4) hx hb htT hinX4 hown hK hI.1 rfl (by decide) rfl (htT _ tw_101) er22 dX4_init_80 ?_
        refine lv_iload_n hx hb dX4_init_83 rfl (lv_at hl 2 rfl) ?_
        obtain ⟨y23, ey23, hF⟩ := cp_bind hF
        refine cn_newM (S := S1) (S0 := S) (mc := 68) (T := TX1) (N := 14) (ci := 1) hx hb htT hinX1 tyX1 tyX1_ok hown (htT _ tw_63) (htT _ tw_64) (htT _ tw_5) hK hI rfl flX1_ok hz0 rfl ey23 (by show _ ≤ 1400; omega) dX4_init_84 (fun H hI => ?_)
        refine lv_dup hx hb dX4_init_87 rfl ?_
        obtain ⟨u24, eu24, hF⟩ := cp_bind hF
        obtain ⟨y25, ey25, hF⟩ := cp_bind hF
        refine cn_calln (va_runIN (As := []) (rest := [.ref (B + S1.1), .int i2, .ref (B + r22)]) ⟨hx, hb, hml, hown, htT⟩ (cc_X1_init l G B ca q S1.1 y23.1 y23.2 y25 ey25) ⟨va_cnB 0 htT gdX1_init rfl rfl rfl (hN _ (List.mem_of_getElem? (i := 4) rfl)) (htT _ tw_5) hdX1_init ⟨Nat.le_of_ble_eq_true rfl, Nat.le_of_ble_eq_true rfl⟩, rfl, (htT _ tw_65)⟩ ⟨cn_blind, cn_pre hI hK hN hZ hO⟩ rfl rfl hl.1 rfl (lv_room (Nat.le_of_ble_eq_true rfl)) dX4_init_88 ⟨cn_gc (S0 := S) (mc := 68) hz0 rfl hI eu24, (by show _ ≤ 1400; omega)⟩) hI (fun H locs hI => ?_)
        obtain ⟨S26, eS26, hF⟩ := cp_bind hF
        refine cn_aast (S := y25.1) (k := r22) (t := S1.1) hx hb hK hI eS26 dX4_init_91 (fun H locs hI => ?_)
        refine lv_iinc (k := 2) (v := (i2 + 1)) (lv' := [(2, .int (i2 + 1)), (0, .ref (B + a0)), (1, .ref (B + a1))]) hx hb dX4_init_92 hl rfl (congrArg (fun z => i2 + z) (by decide)) (by decide) rfl (fun ls hl => ?_)
        refine lv_goto (tgt := 73) hx hb dX4_init_95 (by decide) ?_
        exact ih a0 a1 (i2 + 1) S26 y25.2 _ _ _ _ _ hF (by omega) hI (lv_sub hl [1, 2, 0] rfl)
  have hL50 : ∀ (n : Nat) (a0 : Nat) (a1 : Nat) (i2 : Int32) (S1 : cn_S) (D : cp_Dt) (H : Heap) (locs : List Loc) (ls : Array Slot) (cells slots : Nat), fn_X4_init_L50 B ca q S n a0 a1 i2 S1 D = some res → slots ≤ 316 → cn_I G B ca S1 D s H locs cells → lv_has ls 3 [(0, .ref (B + a0)), (1, .ref (B + a1)), (2, .int i2)] → W p l e (headSpec wsX4_init ({ frames := 2, cells := 68, slots := 1400, locals := 40 })).room s m ([.ref (B + k0), .ref (B + k1)] : List Value).toArray below meth c H locs cells slots (MQ below (cn_Q G B ca S 68 res.1 res.2) ([.ref (B + k0), .ref (B + k1)] : List Value).toArray s 68 1400 (cn_A B)) (F0 m 50 ls []) := by
    intro n
    induction n with
    | zero =>
      intro a0 a1 i2 S1 D H locs ls cells slots hF
      cases hF
    | succ n ih =>
      intro a0 a1 i2 S1 D H locs ls cells slots hF hsl hI hl
      unfold fn_X4_init_L50 at hF
      refine lv_iload_n hx hb dX4_init_50 rfl (lv_at hl 2 rfl) ?_
      refine lv_aload_n hx hb dX4_init_51 rfl (lv_at hl 1 rfl) ?_
      obtain ⟨v17, ev17, hF⟩ := cp_bind hF
      refine cp_getIN (L := cn_L B ca S1) (T := TX5) (N := 4) (ci := 5) (j := 2) hx hb htT hinX5 hown hK hI.1 rfl (by decide) rfl (hN _ (List.mem_of_getElem? (i := 1) rfl)) ev17 dX4_init_52 ?_
      refine lv_icmp_ge (tgt := 71) hx hb dX4_init_55 (by decide) (fun hc18 => ?_) (fun hc18 => ?_)
      · rw [if_pos hc18] at hF
        refine lv_iconst (v := (0 : Int32)) hx hb dX4_init_71 (by decide) ?_
        refine lv_istore_n (lv' := [(2, .int (0 : Int32)), (0, .ref (B + a0)), (1, .ref (B + a1))]) hx hb dX4_init_72 rfl hl (by decide) rfl (fun ls hl => ?_)
        exact hL73 17 a0 a1 (0 : Int32) S1 D _ _ _ _ _ hF (by omega) hI (lv_sub hl [1, 2, 0] rfl)
      · rw [if_neg hc18] at hF
        refine lv_aload_n hx hb dX4_init_58 rfl (lv_at hl 0 rfl) ?_
        obtain ⟨r19, er19, hF⟩ := cp_bind hF
        refine cp_getR (L := cn_L B ca S1) (T := TX4) (N := 12) (ci := 4) (j := 3) hx hb htT hinX4 hown hK hI.1 rfl (by decide) rfl (htT _ tw_100) er19 dX4_init_59 ?_
        refine lv_iload_n hx hb dX4_init_62 rfl (lv_at hl 2 rfl) ?_
        refine lv_iconst (v := (-1 : Int32)) hx hb dX4_init_63 (by decide) ?_
        obtain ⟨D20, eD20, hF⟩ := cp_bind hF
        refine cn_iast (S := S1) (k := r19) hx hb hK hI eD20 dX4_init_64 (fun H locs hI => ?_)
        refine lv_iinc (k := 2) (v := (i2 + 1)) (lv' := [(2, .int (i2 + 1)), (0, .ref (B + a0)), (1, .ref (B + a1))]) hx hb dX4_init_65 hl rfl (congrArg (fun z => i2 + z) (by decide)) (by decide) rfl (fun ls hl => ?_)
        refine lv_goto (tgt := 50) hx hb dX4_init_68 (by decide) ?_
        exact ih a0 a1 (i2 + 1) S1 D20 _ _ _ _ _ hF (by omega) hI (lv_sub hl [1, 2, 0] rfl)
  unfold fn_X4_init at hF
  refine lv_aload_n hx hb dX4_init_0 rfl (lv_at hl 0 rfl) ?_
  refine cn_obj hx hb hown (htT _ tw_62) (htT _ tw_22) (htT _ tw_23) hml hl.1 dX4_init_1 (Nat.le_of_ble_eq_true rfl) (Nat.le_of_ble_eq_true rfl) ?_
  refine lv_aload_n hx hb dX4_init_4 rfl (lv_at hl 0 rfl) ?_
  refine lv_bipush (v := (16 : Int32)) hx hb dX4_init_5 (by decide) ?_
  obtain ⟨n2, en2, hF⟩ := cp_bind hF
  obtain ⟨y1, ey1, hF⟩ := cp_bind hF
  refine cn_newqM (S := S) (S0 := S) (mc := 68) (K := 16) hx hb hown (htT _ tw_63) hO hK hI en2 (by decide) hz0 rfl ey1 (Nat.le_of_ble_eq_true rfl) dX4_init_7 (fun H hI => ?_)
  obtain ⟨S3, eS3, hF⟩ := cp_bind hF
  refine cn_putR (S := y1.1) (k := k0) (t := S.1) (T := TX4) (N := 12) (ci := 4) (j := 4) hx hb htT hinX4 tyX4 tyX4_ok nmX4 hown hK hI rfl (by decide) rfl (htT _ tw_101) rfl hname rfl (fun _ => rfl) (fun _ => rfl) eS3 dX4_init_10 (fun H locs hI => ?_)
  refine lv_aload_n hx hb dX4_init_13 rfl (lv_at hl 0 rfl) ?_
  refine lv_aload_n hx hb dX4_init_14 rfl (lv_at hl 1 rfl) ?_
  obtain ⟨S4, eS4, hF⟩ := cp_bind hF
  refine cn_putR (S := S3) (k := k0) (t := k1) (T := TX4) (N := 12) (ci := 4) (j := 0) hx hb htT hinX4 tyX4 tyX4_ok nmX4 hown hK hI rfl (by decide) rfl (htT _ tw_97) rfl hname rfl (fun _ => rfl) (fun _ => rfl) eS4 dX4_init_15 (fun H locs hI => ?_)
  refine lv_aload_n hx hb dX4_init_18 rfl (lv_at hl 0 rfl) ?_
  refine lv_aload_n hx hb dX4_init_19 rfl (lv_at hl 1 rfl) ?_
  obtain ⟨v5, ev5, hF⟩ := cp_bind hF
  refine cp_getIN (L := cn_L B ca S4) (T := TX5) (N := 4) (ci := 5) (j := 2) hx hb htT hinX5 hown hK hI.1 rfl (by decide) rfl (hN _ (List.mem_of_getElem? (i := 1) rfl)) ev5 dX4_init_20 ?_
  obtain ⟨n7, en7, hF⟩ := cp_bind hF
  obtain ⟨y6, ey6, hF⟩ := cp_bind hF
  refine cn_newaM (S := S4) (S0 := S) (mc := 68) (K := 100) (atype := .int) hx hb (Or.inl ⟨rfl, rfl⟩) (htT _ tw_57) hK hI en7 (by decide) hz0 rfl ey6 (Nat.le_of_ble_eq_true rfl) dX4_init_23 (fun H hI => ?_)
  obtain ⟨S8, eS8, hF⟩ := cp_bind hF
  refine cn_putR (S := y6.1) (k := k0) (t := S4.1) (T := TX4) (N := 12) (ci := 4) (j := 1) hx hb htT hinX4 tyX4 tyX4_ok nmX4 hown hK hI rfl (by decide) rfl (htT _ tw_98) rfl hname rfl (fun _ => rfl) (fun _ => rfl) eS8 dX4_init_25 (fun H locs hI => ?_)
  refine lv_aload_n hx hb dX4_init_28 rfl (lv_at hl 0 rfl) ?_
  refine lv_aload_n hx hb dX4_init_29 rfl (lv_at hl 1 rfl) ?_
  obtain ⟨v9, ev9, hF⟩ := cp_bind hF
  refine cp_getIN (L := cn_L B ca S8) (T := TX5) (N := 4) (ci := 5) (j := 2) hx hb htT hinX5 hown hK hI.1 rfl (by decide) rfl (hN _ (List.mem_of_getElem? (i := 1) rfl)) ev9 dX4_init_30 ?_
  obtain ⟨n11, en11, hF⟩ := cp_bind hF
  obtain ⟨y10, ey10, hF⟩ := cp_bind hF
  refine cn_newaM (S := S8) (S0 := S) (mc := 68) (K := 100) (atype := .byte) hx hb (Or.inr (Or.inl ⟨rfl, rfl⟩)) (htT _ tw_96) hK hI en11 (by decide) hz0 rfl ey10 (Nat.le_of_ble_eq_true rfl) dX4_init_33 (fun H hI => ?_)
  obtain ⟨S12, eS12, hF⟩ := cp_bind hF
  refine cn_putR (S := y10.1) (k := k0) (t := S8.1) (T := TX4) (N := 12) (ci := 4) (j := 2) hx hb htT hinX4 tyX4 tyX4_ok nmX4 hown hK hI rfl (by decide) rfl (htT _ tw_99) rfl hname rfl (fun _ => rfl) (fun _ => rfl) eS12 dX4_init_35 (fun H locs hI => ?_)
  refine lv_aload_n hx hb dX4_init_38 rfl (lv_at hl 0 rfl) ?_
  refine lv_aload_n hx hb dX4_init_39 rfl (lv_at hl 1 rfl) ?_
  obtain ⟨v13, ev13, hF⟩ := cp_bind hF
  refine cp_getIN (L := cn_L B ca S12) (T := TX5) (N := 4) (ci := 5) (j := 2) hx hb htT hinX5 hown hK hI.1 rfl (by decide) rfl (hN _ (List.mem_of_getElem? (i := 1) rfl)) ev13 dX4_init_40 ?_
  obtain ⟨n15, en15, hF⟩ := cp_bind hF
  obtain ⟨y14, ey14, hF⟩ := cp_bind hF
  refine cn_newaM (S := S12) (S0 := S) (mc := 68) (K := 100) (atype := .int) hx hb (Or.inl ⟨rfl, rfl⟩) (htT _ tw_57) hK hI en15 (by decide) hz0 rfl ey14 (Nat.le_of_ble_eq_true rfl) dX4_init_43 (fun H hI => ?_)
  obtain ⟨S16, eS16, hF⟩ := cp_bind hF
  refine cn_putR (S := y14.1) (k := k0) (t := S12.1) (T := TX4) (N := 12) (ci := 4) (j := 3) hx hb htT hinX4 tyX4 tyX4_ok nmX4 hown hK hI rfl (by decide) rfl (htT _ tw_100) rfl hname rfl (fun _ => rfl) (fun _ => rfl) eS16 dX4_init_45 (fun H locs hI => ?_)
  refine lv_iconst (v := (0 : Int32)) hx hb dX4_init_48 (by decide) ?_
  refine lv_istore_n (lv' := [(2, .int (0 : Int32)), (0, .ref (B + k0)), (1, .ref (B + k1))]) hx hb dX4_init_49 rfl hl (by decide) rfl (fun ls hl => ?_)
  exact hL50 q k0 k1 (0 : Int32) S16 y14.2 _ _ _ _ _ hF (by omega) hI (lv_sub hl [1, 2, 0] rfl)
theorem dX5_init_0 : decode cX5_init 0 = .ok (.aload_n 0, 1) := by decide +kernel
theorem dX5_init_1 : decode cX5_init 1 = .ok (.invokespecial 3, 3) := by decide +kernel
theorem dX5_init_4 : decode cX5_init 4 = .ok (.aload_n 0, 1) := by decide +kernel
theorem dX5_init_5 : decode cX5_init 5 = .ok (.iload_n 1, 1) := by decide +kernel
theorem dX5_init_6 : decode cX5_init 6 = .ok (.putfield 9, 3) := by decide +kernel
theorem dX5_init_9 : decode cX5_init 9 = .ok (.aload_n 0, 1) := by decide +kernel
theorem dX5_init_10 : decode cX5_init 10 = .ok (.iload_n 2, 1) := by decide +kernel
theorem dX5_init_11 : decode cX5_init 11 = .ok (.putfield 15, 3) := by decide +kernel
theorem dX5_init_14 : decode cX5_init 14 = .ok (.aload_n 0, 1) := by decide +kernel
theorem dX5_init_15 : decode cX5_init 15 = .ok (.iload_n 1, 1) := by decide +kernel
theorem dX5_init_16 : decode cX5_init 16 = .ok (.iload_n 2, 1) := by decide +kernel
theorem dX5_init_17 : decode cX5_init 17 = .ok (.imul, 1) := by decide +kernel
theorem dX5_init_18 : decode cX5_init 18 = .ok (.putfield 18, 3) := by decide +kernel
theorem dX5_init_21 : decode cX5_init 21 = .ok (.aload_n 0, 1) := by decide +kernel
theorem dX5_init_22 : decode cX5_init 22 = .ok (.aload_n 0, 1) := by decide +kernel
theorem dX5_init_23 : decode cX5_init 23 = .ok (.getfield 18, 3) := by decide +kernel
theorem dX5_init_26 : decode cX5_init 26 = .ok (.iconst 4, 1) := by decide +kernel
theorem dX5_init_27 : decode cX5_init 27 = .ok (.imul, 1) := by decide +kernel
theorem dX5_init_28 : decode cX5_init 28 = .ok (.newarray .int, 2) := by decide +kernel
theorem dX5_init_30 : decode cX5_init 30 = .ok (.putfield 21, 3) := by decide +kernel
theorem dX5_init_33 : decode cX5_init 33 = .ok (.iconst 0, 1) := by decide +kernel
theorem dX5_init_34 : decode cX5_init 34 = .ok (.istore_n 3, 1) := by decide +kernel
theorem dX5_init_35 : decode cX5_init 35 = .ok (.iload_n 3, 1) := by decide +kernel
theorem dX5_init_36 : decode cX5_init 36 = .ok (.aload_n 0, 1) := by decide +kernel
theorem dX5_init_37 : decode cX5_init 37 = .ok (.getfield 21, 3) := by decide +kernel
theorem dX5_init_40 : decode cX5_init 40 = .ok (.arraylength, 1) := by decide +kernel
theorem dX5_init_41 : decode cX5_init 41 = .ok (.if_icmp .ge 55, 3) := by decide +kernel
theorem dX5_init_44 : decode cX5_init 44 = .ok (.iload_n 3, 1) := by decide +kernel
theorem dX5_init_45 : decode cX5_init 45 = .ok (.iconst 4, 1) := by decide +kernel
theorem dX5_init_46 : decode cX5_init 46 = .ok (.idiv, 1) := by decide +kernel
theorem dX5_init_47 : decode cX5_init 47 = .ok (.istore 4, 2) := by decide +kernel
theorem dX5_init_49 : decode cX5_init 49 = .ok (.iload_n 3, 1) := by decide +kernel
theorem dX5_init_50 : decode cX5_init 50 = .ok (.iconst 4, 1) := by decide +kernel
theorem dX5_init_51 : decode cX5_init 51 = .ok (.irem, 1) := by decide +kernel
theorem dX5_init_52 : decode cX5_init 52 = .ok (.istore 5, 2) := by decide +kernel
theorem dX5_init_54 : decode cX5_init 54 = .ok (.aload_n 0, 1) := by decide +kernel
theorem dX5_init_55 : decode cX5_init 55 = .ok (.getfield 21, 3) := by decide +kernel
theorem dX5_init_58 : decode cX5_init 58 = .ok (.iload_n 3, 1) := by decide +kernel
theorem dX5_init_59 : decode cX5_init 59 = .ok (.aload_n 0, 1) := by decide +kernel
theorem dX5_init_60 : decode cX5_init 60 = .ok (.aload_n 0, 1) := by decide +kernel
theorem dX5_init_61 : decode cX5_init 61 = .ok (.iload 4, 2) := by decide +kernel
theorem dX5_init_63 : decode cX5_init 63 = .ok (.invokevirtual 25, 3) := by decide +kernel
theorem dX5_init_66 : decode cX5_init 66 = .ok (.getstatic 29, 3) := by decide +kernel
theorem dX5_init_69 : decode cX5_init 69 = .ok (.iload 5, 2) := by decide +kernel
theorem dX5_init_71 : decode cX5_init 71 = .ok (.iaload, 1) := by decide +kernel
theorem dX5_init_72 : decode cX5_init 72 = .ok (.iadd, 1) := by decide +kernel
theorem dX5_init_73 : decode cX5_init 73 = .ok (.aload_n 0, 1) := by decide +kernel
theorem dX5_init_74 : decode cX5_init 74 = .ok (.iload 4, 2) := by decide +kernel
theorem dX5_init_76 : decode cX5_init 76 = .ok (.invokevirtual 32, 3) := by decide +kernel
theorem dX5_init_79 : decode cX5_init 79 = .ok (.getstatic 35, 3) := by decide +kernel
theorem dX5_init_82 : decode cX5_init 82 = .ok (.iload 5, 2) := by decide +kernel
theorem dX5_init_84 : decode cX5_init 84 = .ok (.iaload, 1) := by decide +kernel
theorem dX5_init_85 : decode cX5_init 85 = .ok (.iadd, 1) := by decide +kernel
theorem dX5_init_86 : decode cX5_init 86 = .ok (.invokevirtual 38, 3) := by decide +kernel
theorem dX5_init_89 : decode cX5_init 89 = .ok (.iastore, 1) := by decide +kernel
theorem dX5_init_90 : decode cX5_init 90 = .ok (.iinc 3 1, 3) := by decide +kernel
theorem dX5_init_93 : decode cX5_init 93 = .ok (.goto (-58), 3) := by decide +kernel
theorem dX5_init_96 : decode cX5_init 96 = .ok (.return_, 1) := by decide +kernel
def fn_X5_init_L35 (B : Nat) (ca : Nat → ClassId) (q : Nat) (S : cn_S) : Nat → Nat → Int32 → Int32 → Int32 → cn_S → cp_Dt → Option (cn_S × cp_Dt)
  | 0, _, _, _, _, _, _ => none
  | n + 1, a0, i1, i2, i3, S1, D =>
    (cp_gR (cn_L B ca S1) a0 5 3).bind fun r8 =>
    (cp_aL (cn_L B ca S1) 0 r8).bind fun v9 =>
    if v9 ≤ i3 then (if S1.1 = S.1 + 1 then some (S1, D) else none)
    else ((cp_gR (cn_L B ca S1) a0 5 3).bind fun r11 =>
    (cn_gd (S1.1 + 0) (S.1 + 1)).bind fun u14 =>
    (cp_fl (cn_L B ca S1) a0 5).bind fun f12 =>
    (fn_X5_columnOf (cn_L B ca S1) q a0 (i3 / (4 : Int32)) D).bind fun y13 =>
    (cp_tb 4 cp_sx (i3 - i3 / (4 : Int32) * (4 : Int32))).bind fun v16 =>
    (cn_gd (S1.1 + 0) (S.1 + 1)).bind fun u19 =>
    (cp_fl (cn_L B ca S1) a0 5).bind fun f17 =>
    (fn_X5_rowOf (cn_L B ca S1) q a0 (i3 / (4 : Int32)) y13.2).bind fun y18 =>
    (cp_tb 4 cp_sy (i3 - i3 / (4 : Int32) * (4 : Int32))).bind fun v21 =>
    (cn_gd (S1.1 + 0) (S.1 + 1)).bind fun u24 =>
    (cp_fl (cn_L B ca S1) a0 5).bind fun f22 =>
    (fn_X5_cellAt (cn_L B ca S1) q a0 (y13.1 + v16) (y18.1 + v21) y18.2).bind fun y23 =>
    (cp_aS (cn_L B ca S1) y23.2 0 r11 i3 y23.1).bind fun D25 =>
    fn_X5_init_L35 B ca q S n a0 i1 i2 (i3 + 1) S1 D25)
def fn_X5_init (B : Nat) (ca : Nat → ClassId) (q : Nat) (k0 : Nat) (x1 : Int32) (x2 : Int32) (S : cn_S) (D : cp_Dt) : Option (cn_S × cp_Dt) :=
  (cp_pI (cn_L B ca S) D k0 5 0 x1).bind fun D1 =>
  (cp_pI (cn_L B ca S) D1 k0 5 1 x2).bind fun D2 =>
  (cp_pI (cn_L B ca S) D2 k0 5 2 (x1 * x2)).bind fun D3 =>
  (cp_gI (cn_L B ca S) D3 k0 5 2).bind fun v4 =>
  (cn_ln (v4 * (4 : Int32)) 400).bind fun n6 =>
  (cn_mk (S.1 + 1) S D3 (.inl (0, n6, fun _ => none))).bind fun y5 =>
  (cn_pR y5.1 k0 5 3 S.1).bind fun S7 =>
  fn_X5_init_L35 B ca q S q k0 x1 x2 (0 : Int32) S7 y5.2
set_option maxHeartbeats 4000000 in
set_option maxRecDepth 100000 in
theorem cc_X5_init (l : Launch) (G : va_G) (B : Nat) (ca : Nat → ClassId) (q : Nat) (k0 : Nat) (x1 : Int32) (x2 : Int32) (S : cn_S) (D : cp_Dt) (res : cn_S × cp_Dt) (hF : fn_X5_init B ca q k0 x1 x2 S D = some res) : cn_Met l G yX5_init wsX5_init ({ frames := 2, cells := 1, slots := 400, locals := 44 }) 1 400 B ca ([.ref (B + k0), .int x1, .int x2] : List Value) S D res.1 res.2 := by
  refine Met.ofW (cc := cX5_init) (maxL := 6) (ret := none) (by decide) rfl ?_
  intro p e s m args below meth c s₁ B0 hml hv
  obtain ⟨rfl, hP, hz0, hK, hN, hZ, hO⟩ := hv
  have hx := B0.exec
  have hb := B0.bytes
  have hr := B0.returns
  have hname : meth.name = "<init>" := (name_of_methodNamed B0.named B0.method).1
  have hts := atoms_spec (ws := wsX5_init) B0.pre
  have hown : s.vm.findClass "CreaturePond$Shape" = some m.cls := findClass_of_methodNamed B0.named
  have hlocks := B0.notSynchronized
  have hI : cn_I G B ca S D s s.heap [] 0 := ⟨hP, hz0, hz0, va_S.rf⟩
  have htT : ∀ w ∈ cp_T, w.before ([.ref (B + k0), .int x1, .int x2] : List Value).toArray s = true := fun w h => hts w (List.mem_cons_of_mem _ h)
  have hl := lv_entry (([.ref (B + k0), .int x1, .int x2] : List Value)) (n := 6) (Nat.le_of_ble_eq_true rfl)
  rw [lg_entry_eq]
  generalize (lg_sl (([.ref (B + k0), .int x1, .int x2] : List Value)) ++ List.replicate (6 - (lg_sl (([.ref (B + k0), .int x1, .int x2] : List Value))).length) Slot.unset).toArray = ls at hl ⊢
  have hl : lv_has ls 6 [(0, .ref (B + k0)), (1, .int x1), (2, .int x2)] := hl
  have hL35 : ∀ (n : Nat) (a0 : Nat) (i1 : Int32) (i2 : Int32) (i3 : Int32) (S1 : cn_S) (D : cp_Dt) (H : Heap) (locs : List Loc) (ls : Array Slot) (cells slots : Nat), fn_X5_init_L35 B ca q S n a0 i1 i2 i3 S1 D = some res → slots ≤ 400 → cn_I G B ca S1 D s H locs cells → lv_has ls 6 [(0, .ref (B + a0)), (1, .int i1), (2, .int i2), (3, .int i3)] → W p l e (headSpec wsX5_init ({ frames := 2, cells := 1, slots := 400, locals := 44 })).room s m ([.ref (B + k0), .int x1, .int x2] : List Value).toArray below meth c H locs cells slots (MQ below (cn_Q G B ca S 1 res.1 res.2) ([.ref (B + k0), .int x1, .int x2] : List Value).toArray s 1 400 (cn_A B)) (F0 m 35 ls []) := by
    intro n
    induction n with
    | zero =>
      intro a0 i1 i2 i3 S1 D H locs ls cells slots hF
      cases hF
    | succ n ih =>
      intro a0 i1 i2 i3 S1 D H locs ls cells slots hF hsl hI hl
      unfold fn_X5_init_L35 at hF
      refine lv_iload_n hx hb dX5_init_35 rfl (lv_at hl 3 rfl) ?_
      refine lv_aload_n hx hb dX5_init_36 rfl (lv_at hl 0 rfl) ?_
      obtain ⟨r8, er8, hF⟩ := cp_bind hF
      refine cp_getR (L := cn_L B ca S1) (T := TX5) (N := 4) (ci := 5) (j := 3) hx hb htT hinX5 hown hK hI.1 rfl (by decide) rfl (htT _ tw_52) er8 dX5_init_37 ?_
      obtain ⟨v9, ev9, hF⟩ := cp_bind hF
      refine cp_alen0 (L := cn_L B ca S1) hx hb hK hI.1 ev9 dX5_init_40 ?_
      refine lv_icmp_ge (tgt := 96) hx hb dX5_init_41 (by decide) (fun hc10 => ?_) (fun hc10 => ?_)
      · rw [if_pos hc10] at hF
        exact cn_vretM (S0 := S) (mc := 1) hx hb hr hlocks hz0 hF hI (by show _ ≤ 400; omega) dX5_init_96
      · rw [if_neg hc10] at hF
        refine lv_iload_n hx hb dX5_init_44 rfl (lv_at hl 3 rfl) ?_
        refine lv_iconst (v := (4 : Int32)) hx hb dX5_init_45 (by decide) ?_
        refine lv_idiv hx hb dX5_init_46 (by decide) ?_
        refine lv_istore (lv' := [(4, .int (i3 / (4 : Int32))), (0, .ref (B + a0)), (1, .int i1), (2, .int i2), (3, .int i3)]) hx hb dX5_init_47 hl (by decide) rfl (fun ls hl => ?_)
        refine lv_iload_n hx hb dX5_init_49 rfl (lv_at hl 4 rfl) ?_
        refine lv_iconst (v := (4 : Int32)) hx hb dX5_init_50 (by decide) ?_
        refine lv_irem hx hb dX5_init_51 (by decide) ?_
        refine lv_istore (lv' := [(5, .int (i3 - i3 / (4 : Int32) * (4 : Int32))), (4, .int (i3 / (4 : Int32))), (0, .ref (B + a0)), (1, .int i1), (2, .int i2), (3, .int i3)]) hx hb dX5_init_52 hl (by decide) rfl (fun ls hl => ?_)
        refine lv_aload_n hx hb dX5_init_54 rfl (lv_at hl 2 rfl) ?_
        obtain ⟨r11, er11, hF⟩ := cp_bind hF
        refine cp_getR (L := cn_L B ca S1) (T := TX5) (N := 4) (ci := 5) (j := 3) hx hb htT hinX5 hown hK hI.1 rfl (by decide) rfl (htT _ tw_52) er11 dX5_init_55 ?_
        refine lv_iload_n hx hb dX5_init_58 rfl (lv_at hl 5 rfl) ?_
        refine lv_aload_n hx hb dX5_init_59 rfl (lv_at hl 2 rfl) ?_
        refine lv_aload_n hx hb dX5_init_60 rfl (lv_at hl 2 rfl) ?_
        refine lv_iload hx hb dX5_init_61 (lv_at hl 1 rfl) ?_
        obtain ⟨u14, eu14, hF⟩ := cp_bind hF
        obtain ⟨f12, ef12, hF⟩ := cp_bind hF
        obtain ⟨y13, ey13, hF⟩ := cp_bind hF
        refine cn_callc (st1 := [.int y13.1, .ref (B + a0), .int i3, .ref (B + r11)]) (Nat.lt_of_le_of_lt (Nat.zero_le _) (cp_fl_spec ef12).1) (va_runV (As := [.int (i3 / (4 : Int32))]) (rest := [.ref (B + a0), .int i3, .ref (B + r11)]) ⟨hx, hb, hml, hown, htT⟩ (ct_X5_columnOf l G (cn_L B ca S1) (cn_J B ca S1) q a0 (i3 / (4 : Int32)) D y13 ey13) ⟨callB_of 1 htT gdX5_columnOf rfl rfl rfl (htT _ tw_2) (htT _ tw_35) hdX5_columnOf ⟨Nat.le_of_ble_eq_true rfl, Nat.le_of_ble_eq_true rfl⟩, (htT _ tw_36), (htT _ tw_528)⟩ ⟨cp_blind, cp_recv hK hI.1 rfl ef12, cn_prec hI hK hN hZ⟩ rfl rfl hl.1 rfl (lv_room (Nat.le_of_ble_eq_true rfl)) dX5_init_63 ⟨cn_gc (S0 := S) (mc := 1) hz0 rfl hI eu14, (by show _ ≤ 400; omega)⟩) hI (fun H locs hI => ?_)
        obtain ⟨t15, hzt15, htt15⟩ := hZ.2.1
        refine va_gets hx hb hzt15 hI.2.2.2 hown (htT _ tw_38) (fun _ h => h) dX5_init_66 ?_
        refine lv_iload hx hb dX5_init_69 (lv_at hl 0 rfl) ?_
        obtain ⟨v16, ev16, hF⟩ := cp_bind hF
        refine cp_ti hx hb htt15 hI.2.2.2 ev16 dX5_init_71 ?_
        refine lv_iadd hx hb dX5_init_72 ?_
        refine lv_aload_n hx hb dX5_init_73 rfl (lv_at hl 2 rfl) ?_
        refine lv_iload hx hb dX5_init_74 (lv_at hl 1 rfl) ?_
        obtain ⟨u19, eu19, hF⟩ := cp_bind hF
        obtain ⟨f17, ef17, hF⟩ := cp_bind hF
        obtain ⟨y18, ey18, hF⟩ := cp_bind hF
        refine cn_callc (st1 := [.int y18.1, .int (y13.1 + v16), .ref (B + a0), .int i3, .ref (B + r11)]) (Nat.lt_of_le_of_lt (Nat.zero_le _) (cp_fl_spec ef17).1) (va_runV (As := [.int (i3 / (4 : Int32))]) (rest := [.int (y13.1 + v16), .ref (B + a0), .int i3, .ref (B + r11)]) ⟨hx, hb, hml, hown, htT⟩ (ct_X5_rowOf l G (cn_L B ca S1) (cn_J B ca S1) q a0 (i3 / (4 : Int32)) y13.2 y18 ey18) ⟨callB_of 1 htT gdX5_rowOf rfl rfl rfl (htT _ tw_2) (htT _ tw_39) hdX5_rowOf ⟨Nat.le_of_ble_eq_true rfl, Nat.le_of_ble_eq_true rfl⟩, (htT _ tw_40), (htT _ tw_529)⟩ ⟨cp_blind, cp_recv hK hI.1 rfl ef17, cn_prec hI hK hN hZ⟩ rfl rfl hl.1 rfl (lv_room (Nat.le_of_ble_eq_true rfl)) dX5_init_76 ⟨cn_gc (S0 := S) (mc := 1) hz0 rfl hI eu19, (by show _ ≤ 400; omega)⟩) hI (fun H locs hI => ?_)
        obtain ⟨t20, hzt20, htt20⟩ := hZ.2.2
        refine va_gets hx hb hzt20 hI.2.2.2 hown (htT _ tw_42) (fun _ h => h) dX5_init_79 ?_
        refine lv_iload hx hb dX5_init_82 (lv_at hl 0 rfl) ?_
        obtain ⟨v21, ev21, hF⟩ := cp_bind hF
        refine cp_ti hx hb htt20 hI.2.2.2 ev21 dX5_init_84 ?_
        refine lv_iadd hx hb dX5_init_85 ?_
        obtain ⟨u24, eu24, hF⟩ := cp_bind hF
        obtain ⟨f22, ef22, hF⟩ := cp_bind hF
        obtain ⟨y23, ey23, hF⟩ := cp_bind hF
        refine cn_callc (st1 := [.int y23.1, .int i3, .ref (B + r11)]) (Nat.lt_of_le_of_lt (Nat.zero_le _) (cp_fl_spec ef22).1) (va_runV (As := [.int (y13.1 + v16), .int (y18.1 + v21)]) (rest := [.int i3, .ref (B + r11)]) ⟨hx, hb, hml, hown, htT⟩ (ct_X5_cellAt l G (cn_L B ca S1) (cn_J B ca S1) q a0 (y13.1 + v16) (y18.1 + v21) y18.2 y23 ey23) ⟨callB_of 2 htT gdX5_cellAt rfl rfl rfl (htT _ tw_2) (htT _ tw_43) hdX5_cellAt ⟨Nat.le_of_ble_eq_true rfl, Nat.le_of_ble_eq_true rfl⟩, (htT _ tw_44), (htT _ tw_530)⟩ ⟨cp_blind, cp_recv hK hI.1 rfl ef22, cn_prec hI hK hN hZ⟩ rfl rfl hl.1 rfl (lv_room (Nat.le_of_ble_eq_true rfl)) dX5_init_86 ⟨cn_gc (S0 := S) (mc := 1) hz0 rfl hI eu24, (by show _ ≤ 400; omega)⟩) hI (fun H locs hI => ?_)
        obtain ⟨D25, eD25, hF⟩ := cp_bind hF
        refine cn_iast (S := S1) (k := r11) hx hb hK hI eD25 dX5_init_89 (fun H locs hI => ?_)
        refine lv_iinc (k := 5) (v := (i3 + 1)) (lv' := [(3, .int (i3 + 1)), (5, .int (i3 - i3 / (4 : Int32) * (4 : Int32))), (4, .int (i3 / (4 : Int32))), (0, .ref (B + a0)), (1, .int i1), (2, .int i2)]) hx hb dX5_init_90 hl rfl (congrArg (fun z => i3 + z) (by decide)) (by decide) rfl (fun ls hl => ?_)
        refine lv_goto (tgt := 35) hx hb dX5_init_93 (by decide) ?_
        exact ih a0 i1 i2 (i3 + 1) S1 D25 _ _ _ _ _ hF (by omega) hI (lv_sub hl [3, 4, 5, 0] rfl)
  unfold fn_X5_init at hF
  refine lv_aload_n hx hb dX5_init_0 rfl (lv_at hl 0 rfl) ?_
  refine cn_obj hx hb hown (htT _ tw_34) (htT _ tw_22) (htT _ tw_23) hml hl.1 dX5_init_1 (Nat.le_of_ble_eq_true rfl) (Nat.le_of_ble_eq_true rfl) ?_
  refine lv_aload_n hx hb dX5_init_4 rfl (lv_at hl 0 rfl) ?_
  refine lv_iload_n hx hb dX5_init_5 rfl (lv_at hl 1 rfl) ?_
  obtain ⟨D1, eD1, hF⟩ := cp_bind hF
  refine cn_putI (S := S) (k := k0) (T := TX5) (N := 4) (ci := 5) (j := 0) hx hb htT hinX5 tyX5 tyX5_ok nmX5 hown hK hI rfl (by decide) rfl (htT _ tw_49) rfl hname rfl rfl rfl eD1 dX5_init_6 (fun H locs hI => ?_)
  refine lv_aload_n hx hb dX5_init_9 rfl (lv_at hl 0 rfl) ?_
  refine lv_iload_n hx hb dX5_init_10 rfl (lv_at hl 2 rfl) ?_
  obtain ⟨D2, eD2, hF⟩ := cp_bind hF
  refine cn_putI (S := S) (k := k0) (T := TX5) (N := 4) (ci := 5) (j := 1) hx hb htT hinX5 tyX5 tyX5_ok nmX5 hown hK hI rfl (by decide) rfl (htT _ tw_50) rfl hname rfl rfl rfl eD2 dX5_init_11 (fun H locs hI => ?_)
  refine lv_aload_n hx hb dX5_init_14 rfl (lv_at hl 0 rfl) ?_
  refine lv_iload_n hx hb dX5_init_15 rfl (lv_at hl 1 rfl) ?_
  refine lv_iload_n hx hb dX5_init_16 rfl (lv_at hl 2 rfl) ?_
  refine lv_imul hx hb dX5_init_17 ?_
  obtain ⟨D3, eD3, hF⟩ := cp_bind hF
  refine cn_putI (S := S) (k := k0) (T := TX5) (N := 4) (ci := 5) (j := 2) hx hb htT hinX5 tyX5 tyX5_ok nmX5 hown hK hI rfl (by decide) rfl (htT _ tw_51) rfl hname rfl rfl rfl eD3 dX5_init_18 (fun H locs hI => ?_)
  refine lv_aload_n hx hb dX5_init_21 rfl (lv_at hl 0 rfl) ?_
  refine lv_aload_n hx hb dX5_init_22 rfl (lv_at hl 0 rfl) ?_
  obtain ⟨v4, ev4, hF⟩ := cp_bind hF
  refine cp_getI (L := cn_L B ca S) (T := TX5) (N := 4) (ci := 5) (j := 2) hx hb htT hinX5 hown hK hI.1 rfl (by decide) rfl (htT _ tw_51) ev4 dX5_init_23 ?_
  refine lv_iconst (v := (4 : Int32)) hx hb dX5_init_26 (by decide) ?_
  refine lv_imul hx hb dX5_init_27 ?_
  obtain ⟨n6, en6, hF⟩ := cp_bind hF
  obtain ⟨y5, ey5, hF⟩ := cp_bind hF
  refine cn_newaM (S := S) (S0 := S) (mc := 1) (K := 400) (atype := .int) hx hb (Or.inl ⟨rfl, rfl⟩) (htT _ tw_57) hK hI en6 (by decide) hz0 rfl ey5 (Nat.le_of_ble_eq_true rfl) dX5_init_28 (fun H hI => ?_)
  obtain ⟨S7, eS7, hF⟩ := cp_bind hF
  refine cn_putR (S := y5.1) (k := k0) (t := S.1) (T := TX5) (N := 4) (ci := 5) (j := 3) hx hb htT hinX5 tyX5 tyX5_ok nmX5 hown hK hI rfl (by decide) rfl (htT _ tw_52) rfl hname rfl (fun _ => rfl) (fun _ => rfl) eS7 dX5_init_30 (fun H locs hI => ?_)
  refine lv_iconst (v := (0 : Int32)) hx hb dX5_init_33 (by decide) ?_
  refine lv_istore_n (lv' := [(3, .int (0 : Int32)), (0, .ref (B + k0)), (1, .int x1), (2, .int x2)]) hx hb dX5_init_34 rfl hl (by decide) rfl (fun ls hl => ?_)
  exact hL35 q k0 x1 x2 (0 : Int32) S7 y5.2 _ _ _ _ _ hF (by omega) hI (lv_sub hl [1, 2, 3, 0] rfl)
theorem dX3_init_0 : decode cX3_init 0 = .ok (.aload_n 0, 1) := by decide +kernel
theorem dX3_init_1 : decode cX3_init 1 = .ok (.invokespecial 5, 3) := by decide +kernel
theorem dX3_init_4 : decode cX3_init 4 = .ok (.aload_n 0, 1) := by decide +kernel
theorem dX3_init_5 : decode cX3_init 5 = .ok (.aload_n 1, 1) := by decide +kernel
theorem dX3_init_6 : decode cX3_init 6 = .ok (.putfield 11, 3) := by decide +kernel
theorem dX3_init_9 : decode cX3_init 9 = .ok (.return_, 1) := by decide +kernel
def fn_X3_init (B : Nat) (ca : Nat → ClassId) (q : Nat) (k0 : Nat) (k1 : Nat) (S : cn_S) (D : cp_Dt) : Option (cn_S × cp_Dt) :=
  (cn_pR S k0 3 0 k1).bind fun S1 =>
  if S1.1 = S.1 + 0 then some (S1, D) else none
set_option maxHeartbeats 4000000 in
set_option maxRecDepth 100000 in
theorem cc_X3_init (l : Launch) (G : va_G) (B : Nat) (ca : Nat → ClassId) (q : Nat) (k0 : Nat) (k1 : Nat) (S : cn_S) (D : cp_Dt) (res : cn_S × cp_Dt) (hF : fn_X3_init B ca q k0 k1 S D = some res) : cn_Met l G yX3_init wsX3_init ({ frames := 1, cells := 0, slots := 0, locals := 20 }) 0 0 B ca ([.ref (B + k0), .ref (B + k1)] : List Value) S D res.1 res.2 := by
  refine Met.ofW (cc := cX3_init) (maxL := 2) (ret := none) (by decide) rfl ?_
  intro p e s m args below meth c s₁ B0 hml hv
  obtain ⟨rfl, hP, hz0, hK, hN, hZ, hO⟩ := hv
  have hx := B0.exec
  have hb := B0.bytes
  have hr := B0.returns
  have hname : meth.name = "<init>" := (name_of_methodNamed B0.named B0.method).1
  have hts := atoms_spec (ws := wsX3_init) B0.pre
  have hown : s.vm.findClass "CreaturePond$Mind" = some m.cls := findClass_of_methodNamed B0.named
  have hlocks := B0.notSynchronized
  have hI : cn_I G B ca S D s s.heap [] 0 := ⟨hP, hz0, hz0, va_S.rf⟩
  have htT : ∀ w ∈ cp_T, w.before ([.ref (B + k0), .ref (B + k1)] : List Value).toArray s = true := fun w h => hts w (List.mem_cons_of_mem _ h)
  have hl := lv_entry (([.ref (B + k0), .ref (B + k1)] : List Value)) (n := 2) (Nat.le_of_ble_eq_true rfl)
  rw [lg_entry_eq]
  generalize (lg_sl (([.ref (B + k0), .ref (B + k1)] : List Value)) ++ List.replicate (2 - (lg_sl (([.ref (B + k0), .ref (B + k1)] : List Value))).length) Slot.unset).toArray = ls at hl ⊢
  have hl : lv_has ls 2 [(0, .ref (B + k0)), (1, .ref (B + k1))] := hl
  unfold fn_X3_init at hF
  refine lv_aload_n hx hb dX3_init_0 rfl (lv_at hl 0 rfl) ?_
  refine cn_obj hx hb hown (htT _ tw_125) (htT _ tw_22) (htT _ tw_23) hml hl.1 dX3_init_1 (Nat.le_of_ble_eq_true rfl) (Nat.le_of_ble_eq_true rfl) ?_
  refine lv_aload_n hx hb dX3_init_4 rfl (lv_at hl 0 rfl) ?_
  refine lv_aload_n hx hb dX3_init_5 rfl (lv_at hl 1 rfl) ?_
  obtain ⟨S1, eS1, hF⟩ := cp_bind hF
  refine cn_putR (S := S) (k := k0) (t := k1) (T := TX3) (N := 1) (ci := 3) (j := 0) hx hb htT hinX3 tyX3 tyX3_ok nmX3 hown hK hI rfl (by decide) rfl (htT _ tw_126) rfl hname rfl (fun _ => rfl) (fun _ => rfl) eS1 dX3_init_6 (fun H locs hI => ?_)
  exact cn_vretM (S0 := S) (mc := 0) hx hb hr hlocks hz0 hF hI (Nat.le_of_ble_eq_true rfl) dX3_init_9
theorem dX2_init_0 : decode cX2_init 0 = .ok (.aload_n 0, 1) := by decide +kernel
theorem dX2_init_1 : decode cX2_init 1 = .ok (.invokespecial 3, 3) := by decide +kernel
theorem dX2_init_4 : decode cX2_init 4 = .ok (.aload_n 0, 1) := by decide +kernel
theorem dX2_init_5 : decode cX2_init 5 = .ok (.aload_n 1, 1) := by decide +kernel
theorem dX2_init_6 : decode cX2_init 6 = .ok (.putfield 9, 3) := by decide +kernel
theorem dX2_init_9 : decode cX2_init 9 = .ok (.return_, 1) := by decide +kernel
def fn_X2_init (B : Nat) (ca : Nat → ClassId) (q : Nat) (k0 : Nat) (k1 : Nat) (S : cn_S) (D : cp_Dt) : Option (cn_S × cp_Dt) :=
  (cn_pR S k0 2 0 k1).bind fun S1 =>
  if S1.1 = S.1 + 0 then some (S1, D) else none
set_option maxHeartbeats 4000000 in
set_option maxRecDepth 100000 in
theorem cc_X2_init (l : Launch) (G : va_G) (B : Nat) (ca : Nat → ClassId) (q : Nat) (k0 : Nat) (k1 : Nat) (S : cn_S) (D : cp_Dt) (res : cn_S × cp_Dt) (hF : fn_X2_init B ca q k0 k1 S D = some res) : cn_Met l G yX2_init wsX2_init ({ frames := 1, cells := 0, slots := 0, locals := 20 }) 0 0 B ca ([.ref (B + k0), .ref (B + k1)] : List Value) S D res.1 res.2 := by
  refine Met.ofW (cc := cX2_init) (maxL := 2) (ret := none) (by decide) rfl ?_
  intro p e s m args below meth c s₁ B0 hml hv
  obtain ⟨rfl, hP, hz0, hK, hN, hZ, hO⟩ := hv
  have hx := B0.exec
  have hb := B0.bytes
  have hr := B0.returns
  have hname : meth.name = "<init>" := (name_of_methodNamed B0.named B0.method).1
  have hts := atoms_spec (ws := wsX2_init) B0.pre
  have hown : s.vm.findClass "CreaturePond$Breeding" = some m.cls := findClass_of_methodNamed B0.named
  have hlocks := B0.notSynchronized
  have hI : cn_I G B ca S D s s.heap [] 0 := ⟨hP, hz0, hz0, va_S.rf⟩
  have htT : ∀ w ∈ cp_T, w.before ([.ref (B + k0), .ref (B + k1)] : List Value).toArray s = true := fun w h => hts w (List.mem_cons_of_mem _ h)
  have hl := lv_entry (([.ref (B + k0), .ref (B + k1)] : List Value)) (n := 2) (Nat.le_of_ble_eq_true rfl)
  rw [lg_entry_eq]
  generalize (lg_sl (([.ref (B + k0), .ref (B + k1)] : List Value)) ++ List.replicate (2 - (lg_sl (([.ref (B + k0), .ref (B + k1)] : List Value))).length) Slot.unset).toArray = ls at hl ⊢
  have hl : lv_has ls 2 [(0, .ref (B + k0)), (1, .ref (B + k1))] := hl
  unfold fn_X2_init at hF
  refine lv_aload_n hx hb dX2_init_0 rfl (lv_at hl 0 rfl) ?_
  refine cn_obj hx hb hown (htT _ tw_132) (htT _ tw_22) (htT _ tw_23) hml hl.1 dX2_init_1 (Nat.le_of_ble_eq_true rfl) (Nat.le_of_ble_eq_true rfl) ?_
  refine lv_aload_n hx hb dX2_init_4 rfl (lv_at hl 0 rfl) ?_
  refine lv_aload_n hx hb dX2_init_5 rfl (lv_at hl 1 rfl) ?_
  obtain ⟨S1, eS1, hF⟩ := cp_bind hF
  refine cn_putR (S := S) (k := k0) (t := k1) (T := TX2) (N := 1) (ci := 2) (j := 0) hx hb htT hinX2 tyX2 tyX2_ok nmX2 hown hK hI rfl (by decide) rfl (htT _ tw_133) rfl hname rfl (fun _ => rfl) (fun _ => rfl) eS1 dX2_init_6 (fun H locs hI => ?_)
  exact cn_vretM (S0 := S) (mc := 0) hx hb hr hlocks hz0 hF hI (Nat.le_of_ble_eq_true rfl) dX2_init_9
theorem dX0_init_0 : decode cX0_init 0 = .ok (.aload_n 0, 1) := by decide +kernel
theorem dX0_init_1 : decode cX0_init 1 = .ok (.invokespecial 1, 3) := by decide +kernel
theorem dX0_init_4 : decode cX0_init 4 = .ok (.aload_n 0, 1) := by decide +kernel
theorem dX0_init_5 : decode cX0_init 5 = .ok (.new 7, 3) := by decide +kernel
theorem dX0_init_8 : decode cX0_init 8 = .ok (.dup, 1) := by decide +kernel
theorem dX0_init_9 : decode cX0_init 9 = .ok (.iconst 3, 1) := by decide +kernel
theorem dX0_init_10 : decode cX0_init 10 = .ok (.bipush 10, 2) := by decide +kernel
theorem dX0_init_12 : decode cX0_init 12 = .ok (.iload_n 1, 1) := by decide +kernel
theorem dX0_init_13 : decode cX0_init 13 = .ok (.invokestatic 11, 3) := by decide +kernel
theorem dX0_init_16 : decode cX0_init 16 = .ok (.invokestatic 17, 3) := by decide +kernel
theorem dX0_init_19 : decode cX0_init 19 = .ok (.iconst 3, 1) := by decide +kernel
theorem dX0_init_20 : decode cX0_init 20 = .ok (.bipush 10, 2) := by decide +kernel
theorem dX0_init_22 : decode cX0_init 22 = .ok (.iload_n 2, 1) := by decide +kernel
theorem dX0_init_23 : decode cX0_init 23 = .ok (.invokestatic 11, 3) := by decide +kernel
theorem dX0_init_26 : decode cX0_init 26 = .ok (.invokestatic 17, 3) := by decide +kernel
theorem dX0_init_29 : decode cX0_init 29 = .ok (.invokespecial 20, 3) := by decide +kernel
theorem dX0_init_32 : decode cX0_init 32 = .ok (.putfield 23, 3) := by decide +kernel
theorem dX0_init_35 : decode cX0_init 35 = .ok (.aload_n 0, 1) := by decide +kernel
theorem dX0_init_36 : decode cX0_init 36 = .ok (.new 27, 3) := by decide +kernel
theorem dX0_init_39 : decode cX0_init 39 = .ok (.dup, 1) := by decide +kernel
theorem dX0_init_40 : decode cX0_init 40 = .ok (.aload_n 0, 1) := by decide +kernel
theorem dX0_init_41 : decode cX0_init 41 = .ok (.getfield 23, 3) := by decide +kernel
theorem dX0_init_44 : decode cX0_init 44 = .ok (.invokespecial 29, 3) := by decide +kernel
theorem dX0_init_47 : decode cX0_init 47 = .ok (.putfield 32, 3) := by decide +kernel
theorem dX0_init_50 : decode cX0_init 50 = .ok (.aload_n 0, 1) := by decide +kernel
theorem dX0_init_51 : decode cX0_init 51 = .ok (.new 27, 3) := by decide +kernel
theorem dX0_init_54 : decode cX0_init 54 = .ok (.dup, 1) := by decide +kernel
theorem dX0_init_55 : decode cX0_init 55 = .ok (.aload_n 0, 1) := by decide +kernel
theorem dX0_init_56 : decode cX0_init 56 = .ok (.getfield 23, 3) := by decide +kernel
theorem dX0_init_59 : decode cX0_init 59 = .ok (.invokespecial 29, 3) := by decide +kernel
theorem dX0_init_62 : decode cX0_init 62 = .ok (.putfield 36, 3) := by decide +kernel
theorem dX0_init_65 : decode cX0_init 65 = .ok (.aload_n 0, 1) := by decide +kernel
theorem dX0_init_66 : decode cX0_init 66 = .ok (.new 39, 3) := by decide +kernel
theorem dX0_init_69 : decode cX0_init 69 = .ok (.dup, 1) := by decide +kernel
theorem dX0_init_70 : decode cX0_init 70 = .ok (.aload_n 0, 1) := by decide +kernel
theorem dX0_init_71 : decode cX0_init 71 = .ok (.getfield 32, 3) := by decide +kernel
theorem dX0_init_74 : decode cX0_init 74 = .ok (.invokespecial 41, 3) := by decide +kernel
theorem dX0_init_77 : decode cX0_init 77 = .ok (.putfield 44, 3) := by decide +kernel
theorem dX0_init_80 : decode cX0_init 80 = .ok (.aload_n 0, 1) := by decide +kernel
theorem dX0_init_81 : decode cX0_init 81 = .ok (.new 48, 3) := by decide +kernel
theorem dX0_init_84 : decode cX0_init 84 = .ok (.dup, 1) := by decide +kernel
theorem dX0_init_85 : decode cX0_init 85 = .ok (.aload_n 0, 1) := by decide +kernel
theorem dX0_init_86 : decode cX0_init 86 = .ok (.getfield 32, 3) := by decide +kernel
theorem dX0_init_89 : decode cX0_init 89 = .ok (.invokespecial 50, 3) := by decide +kernel
theorem dX0_init_92 : decode cX0_init 92 = .ok (.putfield 51, 3) := by decide +kernel
theorem dX0_init_95 : decode cX0_init 95 = .ok (.return_, 1) := by decide +kernel
def fn_X0_init (B : Nat) (ca : Nat → ClassId) (q : Nat) (k0 : Nat) (x1 : Int32) (x2 : Int32) (S : cn_S) (D : cp_Dt) : Option (cn_S × cp_Dt) :=
  (cn_mk (S.1 + 142) S D (.inr (5, flX5))).bind fun y1 =>
  (cn_gd (y1.1.1 + 1) (S.1 + 142)).bind fun u2 =>
  (fn_X5_init B ca q S.1 (cp_mx (3 : Int32) (cp_mn (10 : Int32) x1)) (cp_mx (3 : Int32) (cp_mn (10 : Int32) x2)) y1.1 y1.2).bind fun y3 =>
  (cn_pR y3.1 k0 0 0 S.1).bind fun S4 =>
  (cn_mk (S.1 + 142) S4 y3.2 (.inr (4, flX4))).bind fun y5 =>
  (cp_gR (cn_L B ca y5.1) k0 0 0).bind fun r6 =>
  (cn_gd (y5.1.1 + 68) (S.1 + 142)).bind fun u7 =>
  (fn_X4_init B ca q S4.1 r6 y5.1 y5.2).bind fun y8 =>
  (cn_pR y8.1 k0 0 1 S4.1).bind fun S9 =>
  (cn_mk (S.1 + 142) S9 y8.2 (.inr (4, flX4))).bind fun y10 =>
  (cp_gR (cn_L B ca y10.1) k0 0 0).bind fun r11 =>
  (cn_gd (y10.1.1 + 68) (S.1 + 142)).bind fun u12 =>
  (fn_X4_init B ca q S9.1 r11 y10.1 y10.2).bind fun y13 =>
  (cn_pR y13.1 k0 0 2 S9.1).bind fun S14 =>
  (cn_mk (S.1 + 142) S14 y13.2 (.inr (3, flX3))).bind fun y15 =>
  (cp_gR (cn_L B ca y15.1) k0 0 1).bind fun r16 =>
  (cn_gd (y15.1.1 + 0) (S.1 + 142)).bind fun u17 =>
  (fn_X3_init B ca q S14.1 r16 y15.1 y15.2).bind fun y18 =>
  (cn_pR y18.1 k0 0 3 S14.1).bind fun S19 =>
  (cn_mk (S.1 + 142) S19 y18.2 (.inr (2, flX2))).bind fun y20 =>
  (cp_gR (cn_L B ca y20.1) k0 0 1).bind fun r21 =>
  (cn_gd (y20.1.1 + 0) (S.1 + 142)).bind fun u22 =>
  (fn_X2_init B ca q S19.1 r21 y20.1 y20.2).bind fun y23 =>
  (cn_pR y23.1 k0 0 4 S19.1).bind fun S24 =>
  if S24.1 = S.1 + 142 then some (S24, y23.2) else none
set_option maxHeartbeats 4000000 in
set_option maxRecDepth 100000 in
theorem cc_X0_init (l : Launch) (G : va_G) (B : Nat) (ca : Nat → ClassId) (q : Nat) (k0 : Nat) (x1 : Int32) (x2 : Int32) (S : cn_S) (D : cp_Dt) (res : cn_S × cp_Dt) (hF : fn_X0_init B ca q k0 x1 x2 S D = some res) : cn_Met l G yX0_init wsX0_init ({ frames := 3, cells := 142, slots := 4000, locals := 69 }) 142 4000 B ca ([.ref (B + k0), .int x1, .int x2] : List Value) S D res.1 res.2 := by
  refine Met.ofW (cc := cX0_init) (maxL := 3) (ret := none) (by decide) rfl ?_
  intro p e s m args below meth c s₁ B0 hml hv
  obtain ⟨rfl, hP, hz0, hK, hN, hZ, hO⟩ := hv
  have hx := B0.exec
  have hb := B0.bytes
  have hr := B0.returns
  have hname : meth.name = "<init>" := (name_of_methodNamed B0.named B0.method).1
  have hts := atoms_spec (ws := wsX0_init) B0.pre
  have hown : s.vm.findClass "CreaturePond" = some m.cls := findClass_of_methodNamed B0.named
  have hlocks := B0.notSynchronized
  have hI : cn_I G B ca S D s s.heap [] 0 := ⟨hP, hz0, hz0, va_S.rf⟩
  have htT : ∀ w ∈ cp_T, w.before ([.ref (B + k0), .int x1, .int x2] : List Value).toArray s = true := fun w h => hts w (List.mem_cons_of_mem _ h)
  have hl := lv_entry (([.ref (B + k0), .int x1, .int x2] : List Value)) (n := 3) (Nat.le_of_ble_eq_true rfl)
  rw [lg_entry_eq]
  generalize (lg_sl (([.ref (B + k0), .int x1, .int x2] : List Value)) ++ List.replicate (3 - (lg_sl (([.ref (B + k0), .int x1, .int x2] : List Value))).length) Slot.unset).toArray = ls at hl ⊢
  have hl : lv_has ls 3 [(0, .ref (B + k0)), (1, .int x1), (2, .int x2)] := hl
  unfold fn_X0_init at hF
  refine lv_aload_n hx hb dX0_init_0 rfl (lv_at hl 0 rfl) ?_
  refine cn_obj hx hb hown (htT _ tw_21) (htT _ tw_22) (htT _ tw_23) hml hl.1 dX0_init_1 (Nat.le_of_ble_eq_true rfl) (Nat.le_of_ble_eq_true rfl) ?_
  refine lv_aload_n hx hb dX0_init_4 rfl (lv_at hl 0 rfl) ?_
  obtain ⟨y1, ey1, hF⟩ := cp_bind hF
  refine cn_newM (S := S) (S0 := S) (mc := 142) (T := TX5) (N := 4) (ci := 5) hx hb htT hinX5 tyX5 tyX5_ok hown (htT _ tw_24) (htT _ tw_25) (htT _ tw_2) hK hI rfl flX5_ok hz0 rfl ey1 (Nat.le_of_ble_eq_true rfl) dX0_init_5 (fun H hI => ?_)
  refine lv_dup hx hb dX0_init_8 rfl ?_
  refine lv_iconst (v := (3 : Int32)) hx hb dX0_init_9 (by decide) ?_
  refine lv_bipush (v := (10 : Int32)) hx hb dX0_init_10 (by decide) ?_
  refine lv_iload_n hx hb dX0_init_12 rfl (lv_at hl 1 rfl) ?_
  refine va_mmin hx hb (by rw [hml]; exact hl.1.symm) hown (htT _ tw_26) (htT _ tw_27) (htT _ tw_3) (htT _ tw_28) (Nat.le_of_ble_eq_true rfl) (Nat.le_of_ble_eq_true rfl) (Nat.le_of_ble_eq_true rfl) (Nat.le_of_ble_eq_true rfl) dX0_init_13 ?_
  refine va_mmax hx hb (by rw [hml]; exact hl.1.symm) hown (htT _ tw_29) (htT _ tw_30) (htT _ tw_3) (htT _ tw_31) (Nat.le_of_ble_eq_true rfl) (Nat.le_of_ble_eq_true rfl) (Nat.le_of_ble_eq_true rfl) (Nat.le_of_ble_eq_true rfl) dX0_init_16 ?_
  refine lv_iconst (v := (3 : Int32)) hx hb dX0_init_19 (by decide) ?_
  refine lv_bipush (v := (10 : Int32)) hx hb dX0_init_20 (by decide) ?_
  refine lv_iload_n hx hb dX0_init_22 rfl (lv_at hl 2 rfl) ?_
  refine va_mmin hx hb (by rw [hml]; exact hl.1.symm) hown (htT _ tw_26) (htT _ tw_27) (htT _ tw_3) (htT _ tw_28) (Nat.le_of_ble_eq_true rfl) (Nat.le_of_ble_eq_true rfl) (Nat.le_of_ble_eq_true rfl) (Nat.le_of_ble_eq_true rfl) dX0_init_23 ?_
  refine va_mmax hx hb (by rw [hml]; exact hl.1.symm) hown (htT _ tw_29) (htT _ tw_30) (htT _ tw_3) (htT _ tw_31) (Nat.le_of_ble_eq_true rfl) (Nat.le_of_ble_eq_true rfl) (Nat.le_of_ble_eq_true rfl) (Nat.le_of_ble_eq_true rfl) dX0_init_26 ?_
  obtain ⟨u2, eu2, hF⟩ := cp_bind hF
  obtain ⟨y3, ey3, hF⟩ := cp_bind hF
  refine cn_calln (va_runIN (As := [.int (cp_mx (3 : Int32) (cp_mn (10 : Int32) x1)), .int (cp_mx (3 : Int32) (cp_mn (10 : Int32) x2))]) (rest := [.ref (B + S.1), .ref (B + k0)]) ⟨hx, hb, hml, hown, htT⟩ (cc_X5_init l G B ca q S.1 (cp_mx (3 : Int32) (cp_mn (10 : Int32) x1)) (cp_mx (3 : Int32) (cp_mn (10 : Int32) x2)) y1.1 y1.2 y3 ey3) ⟨va_cnB 2 htT gdX5_init rfl rfl rfl (hN _ (List.mem_of_getElem? (i := 0) rfl)) (htT _ tw_2) hdX5_init ⟨Nat.le_of_ble_eq_true rfl, Nat.le_of_ble_eq_true rfl⟩, rfl, (htT _ tw_32)⟩ ⟨cn_blind, cn_pre hI hK hN hZ hO⟩ rfl rfl hl.1 rfl (lv_room (Nat.le_of_ble_eq_true rfl)) dX0_init_29 ⟨cn_gc (S0 := S) (mc := 142) hz0 rfl hI eu2, (Nat.le_of_ble_eq_true rfl)⟩) hI (fun H locs hI => ?_)
  obtain ⟨S4, eS4, hF⟩ := cp_bind hF
  refine cn_putR (S := y3.1) (k := k0) (t := S.1) (T := TX0) (N := 6) (ci := 0) (j := 0) hx hb htT hinX0 tyX0 tyX0_ok nmX0 hown hK hI rfl (by decide) rfl (htT _ tw_135) rfl hname rfl (fun _ => rfl) (fun _ => rfl) eS4 dX0_init_32 (fun H locs hI => ?_)
  refine lv_aload_n hx hb dX0_init_35 rfl (lv_at hl 0 rfl) ?_
  obtain ⟨y5, ey5, hF⟩ := cp_bind hF
  refine cn_newM (S := S4) (S0 := S) (mc := 142) (T := TX4) (N := 12) (ci := 4) hx hb htT hinX4 tyX4 tyX4_ok hown (htT _ tw_58) (htT _ tw_59) (htT _ tw_4) hK hI rfl flX4_ok hz0 rfl ey5 (Nat.le_of_ble_eq_true rfl) dX0_init_36 (fun H hI => ?_)
  refine lv_dup hx hb dX0_init_39 rfl ?_
  refine lv_aload_n hx hb dX0_init_40 rfl (lv_at hl 0 rfl) ?_
  obtain ⟨r6, er6, hF⟩ := cp_bind hF
  refine cp_getR (L := cn_L B ca y5.1) (T := TX0) (N := 6) (ci := 0) (j := 0) hx hb htT hinX0 hown hK hI.1 rfl (by decide) rfl (htT _ tw_135) er6 dX0_init_41 ?_
  obtain ⟨u7, eu7, hF⟩ := cp_bind hF
  obtain ⟨y8, ey8, hF⟩ := cp_bind hF
  refine cn_calln (va_runIN (As := [.ref (B + r6)]) (rest := [.ref (B + S4.1), .ref (B + k0)]) ⟨hx, hb, hml, hown, htT⟩ (cc_X4_init l G B ca q S4.1 r6 y5.1 y5.2 y8 ey8) ⟨va_cnB 1 htT gdX4_init rfl rfl rfl (hN _ (List.mem_of_getElem? (i := 3) rfl)) (htT _ tw_4) hdX4_init ⟨Nat.le_of_ble_eq_true rfl, Nat.le_of_ble_eq_true rfl⟩, rfl, (htT _ tw_60)⟩ ⟨cn_blind, cn_pre hI hK hN hZ hO⟩ rfl rfl hl.1 rfl (lv_room (Nat.le_of_ble_eq_true rfl)) dX0_init_44 ⟨cn_gc (S0 := S) (mc := 142) hz0 rfl hI eu7, (Nat.le_of_ble_eq_true rfl)⟩) hI (fun H locs hI => ?_)
  obtain ⟨S9, eS9, hF⟩ := cp_bind hF
  refine cn_putR (S := y8.1) (k := k0) (t := S4.1) (T := TX0) (N := 6) (ci := 0) (j := 1) hx hb htT hinX0 tyX0 tyX0_ok nmX0 hown hK hI rfl (by decide) rfl (htT _ tw_136) rfl hname rfl (fun _ => rfl) (fun _ => rfl) eS9 dX0_init_47 (fun H locs hI => ?_)
  refine lv_aload_n hx hb dX0_init_50 rfl (lv_at hl 0 rfl) ?_
  obtain ⟨y10, ey10, hF⟩ := cp_bind hF
  refine cn_newM (S := S9) (S0 := S) (mc := 142) (T := TX4) (N := 12) (ci := 4) hx hb htT hinX4 tyX4 tyX4_ok hown (htT _ tw_58) (htT _ tw_59) (htT _ tw_4) hK hI rfl flX4_ok hz0 rfl ey10 (Nat.le_of_ble_eq_true rfl) dX0_init_51 (fun H hI => ?_)
  refine lv_dup hx hb dX0_init_54 rfl ?_
  refine lv_aload_n hx hb dX0_init_55 rfl (lv_at hl 0 rfl) ?_
  obtain ⟨r11, er11, hF⟩ := cp_bind hF
  refine cp_getR (L := cn_L B ca y10.1) (T := TX0) (N := 6) (ci := 0) (j := 0) hx hb htT hinX0 hown hK hI.1 rfl (by decide) rfl (htT _ tw_135) er11 dX0_init_56 ?_
  obtain ⟨u12, eu12, hF⟩ := cp_bind hF
  obtain ⟨y13, ey13, hF⟩ := cp_bind hF
  refine cn_calln (va_runIN (As := [.ref (B + r11)]) (rest := [.ref (B + S9.1), .ref (B + k0)]) ⟨hx, hb, hml, hown, htT⟩ (cc_X4_init l G B ca q S9.1 r11 y10.1 y10.2 y13 ey13) ⟨va_cnB 1 htT gdX4_init rfl rfl rfl (hN _ (List.mem_of_getElem? (i := 3) rfl)) (htT _ tw_4) hdX4_init ⟨Nat.le_of_ble_eq_true rfl, Nat.le_of_ble_eq_true rfl⟩, rfl, (htT _ tw_60)⟩ ⟨cn_blind, cn_pre hI hK hN hZ hO⟩ rfl rfl hl.1 rfl (lv_room (Nat.le_of_ble_eq_true rfl)) dX0_init_59 ⟨cn_gc (S0 := S) (mc := 142) hz0 rfl hI eu12, (Nat.le_of_ble_eq_true rfl)⟩) hI (fun H locs hI => ?_)
  obtain ⟨S14, eS14, hF⟩ := cp_bind hF
  refine cn_putR (S := y13.1) (k := k0) (t := S9.1) (T := TX0) (N := 6) (ci := 0) (j := 2) hx hb htT hinX0 tyX0 tyX0_ok nmX0 hown hK hI rfl (by decide) rfl (htT _ tw_137) rfl hname rfl (fun _ => rfl) (fun _ => rfl) eS14 dX0_init_62 (fun H locs hI => ?_)
  refine lv_aload_n hx hb dX0_init_65 rfl (lv_at hl 0 rfl) ?_
  obtain ⟨y15, ey15, hF⟩ := cp_bind hF
  refine cn_newM (S := S14) (S0 := S) (mc := 142) (T := TX3) (N := 1) (ci := 3) hx hb htT hinX3 tyX3 tyX3_ok hown (htT _ tw_121) (htT _ tw_122) (htT _ tw_6) hK hI rfl flX3_ok hz0 rfl ey15 (Nat.le_of_ble_eq_true rfl) dX0_init_66 (fun H hI => ?_)
  refine lv_dup hx hb dX0_init_69 rfl ?_
  refine lv_aload_n hx hb dX0_init_70 rfl (lv_at hl 0 rfl) ?_
  obtain ⟨r16, er16, hF⟩ := cp_bind hF
  refine cp_getR (L := cn_L B ca y15.1) (T := TX0) (N := 6) (ci := 0) (j := 1) hx hb htT hinX0 hown hK hI.1 rfl (by decide) rfl (htT _ tw_136) er16 dX0_init_71 ?_
  obtain ⟨u17, eu17, hF⟩ := cp_bind hF
  obtain ⟨y18, ey18, hF⟩ := cp_bind hF
  refine cn_calln (va_runIN (As := [.ref (B + r16)]) (rest := [.ref (B + S14.1), .ref (B + k0)]) ⟨hx, hb, hml, hown, htT⟩ (cc_X3_init l G B ca q S14.1 r16 y15.1 y15.2 y18 ey18) ⟨va_cnB 1 htT gdX3_init rfl rfl rfl (hN _ (List.mem_of_getElem? (i := 54) rfl)) (htT _ tw_6) hdX3_init ⟨Nat.le_of_ble_eq_true rfl, Nat.le_of_ble_eq_true rfl⟩, rfl, (htT _ tw_123)⟩ ⟨cn_blind, cn_pre hI hK hN hZ hO⟩ rfl rfl hl.1 rfl (lv_room (Nat.le_of_ble_eq_true rfl)) dX0_init_74 ⟨cn_gc (S0 := S) (mc := 142) hz0 rfl hI eu17, (Nat.le_of_ble_eq_true rfl)⟩) hI (fun H locs hI => ?_)
  obtain ⟨S19, eS19, hF⟩ := cp_bind hF
  refine cn_putR (S := y18.1) (k := k0) (t := S14.1) (T := TX0) (N := 6) (ci := 0) (j := 3) hx hb htT hinX0 tyX0 tyX0_ok nmX0 hown hK hI rfl (by decide) rfl (htT _ tw_138) rfl hname rfl (fun _ => rfl) (fun _ => rfl) eS19 dX0_init_77 (fun H locs hI => ?_)
  refine lv_aload_n hx hb dX0_init_80 rfl (lv_at hl 0 rfl) ?_
  obtain ⟨y20, ey20, hF⟩ := cp_bind hF
  refine cn_newM (S := S19) (S0 := S) (mc := 142) (T := TX2) (N := 1) (ci := 2) hx hb htT hinX2 tyX2 tyX2_ok hown (htT _ tw_128) (htT _ tw_129) (htT _ tw_7) hK hI rfl flX2_ok hz0 rfl ey20 (Nat.le_of_ble_eq_true rfl) dX0_init_81 (fun H hI => ?_)
  refine lv_dup hx hb dX0_init_84 rfl ?_
  refine lv_aload_n hx hb dX0_init_85 rfl (lv_at hl 0 rfl) ?_
  obtain ⟨r21, er21, hF⟩ := cp_bind hF
  refine cp_getR (L := cn_L B ca y20.1) (T := TX0) (N := 6) (ci := 0) (j := 1) hx hb htT hinX0 hown hK hI.1 rfl (by decide) rfl (htT _ tw_136) er21 dX0_init_86 ?_
  obtain ⟨u22, eu22, hF⟩ := cp_bind hF
  obtain ⟨y23, ey23, hF⟩ := cp_bind hF
  refine cn_calln (va_runIN (As := [.ref (B + r21)]) (rest := [.ref (B + S19.1), .ref (B + k0)]) ⟨hx, hb, hml, hown, htT⟩ (cc_X2_init l G B ca q S19.1 r21 y20.1 y20.2 y23 ey23) ⟨va_cnB 1 htT gdX2_init rfl rfl rfl (hN _ (List.mem_of_getElem? (i := 55) rfl)) (htT _ tw_7) hdX2_init ⟨Nat.le_of_ble_eq_true rfl, Nat.le_of_ble_eq_true rfl⟩, rfl, (htT _ tw_130)⟩ ⟨cn_blind, cn_pre hI hK hN hZ hO⟩ rfl rfl hl.1 rfl (lv_room (Nat.le_of_ble_eq_true rfl)) dX0_init_89 ⟨cn_gc (S0 := S) (mc := 142) hz0 rfl hI eu22, (Nat.le_of_ble_eq_true rfl)⟩) hI (fun H locs hI => ?_)
  obtain ⟨S24, eS24, hF⟩ := cp_bind hF
  refine cn_putR (S := y23.1) (k := k0) (t := S19.1) (T := TX0) (N := 6) (ci := 0) (j := 4) hx hb htT hinX0 tyX0 tyX0_ok nmX0 hown hK hI rfl (by decide) rfl (htT _ tw_139) rfl hname rfl (fun _ => rfl) (fun _ => rfl) eS24 dX0_init_92 (fun H locs hI => ?_)
  exact cn_vretM (S0 := S) (mc := 142) hx hb hr hlocks hz0 hF hI (Nat.le_of_ble_eq_true rfl) dX0_init_95
theorem dX6_init_0 : decode cX6_init 0 = .ok (.aload_n 0, 1) := by decide +kernel
theorem dX6_init_1 : decode cX6_init 1 = .ok (.invokespecial 1, 3) := by decide +kernel
theorem dX6_init_4 : decode cX6_init 4 = .ok (.aload_n 0, 1) := by decide +kernel
theorem dX6_init_5 : decode cX6_init 5 = .ok (.sipush 1232, 3) := by decide +kernel
theorem dX6_init_8 : decode cX6_init 8 = .ok (.newarray .int, 2) := by decide +kernel
theorem dX6_init_10 : decode cX6_init 10 = .ok (.putfield 7, 3) := by decide +kernel
theorem dX6_init_13 : decode cX6_init 13 = .ok (.aload_n 0, 1) := by decide +kernel
theorem dX6_init_14 : decode cX6_init 14 = .ok (.sipush 1232, 3) := by decide +kernel
theorem dX6_init_17 : decode cX6_init 17 = .ok (.newarray .int, 2) := by decide +kernel
theorem dX6_init_19 : decode cX6_init 19 = .ok (.putfield 13, 3) := by decide +kernel
theorem dX6_init_22 : decode cX6_init 22 = .ok (.aload_n 0, 1) := by decide +kernel
theorem dX6_init_23 : decode cX6_init 23 = .ok (.iload_n 1, 1) := by decide +kernel
theorem dX6_init_24 : decode cX6_init 24 = .ok (.iconst 3, 1) := by decide +kernel
theorem dX6_init_25 : decode cX6_init 25 = .ok (.if_icmp .ge 7, 3) := by decide +kernel
theorem dX6_init_28 : decode cX6_init 28 = .ok (.iconst 3, 1) := by decide +kernel
theorem dX6_init_29 : decode cX6_init 29 = .ok (.goto 15, 3) := by decide +kernel
theorem dX6_init_32 : decode cX6_init 32 = .ok (.iload_n 1, 1) := by decide +kernel
theorem dX6_init_33 : decode cX6_init 33 = .ok (.bipush 10, 2) := by decide +kernel
theorem dX6_init_35 : decode cX6_init 35 = .ok (.if_icmp .le 8, 3) := by decide +kernel
theorem dX6_init_38 : decode cX6_init 38 = .ok (.bipush 10, 2) := by decide +kernel
theorem dX6_init_40 : decode cX6_init 40 = .ok (.goto 4, 3) := by decide +kernel
theorem dX6_init_43 : decode cX6_init 43 = .ok (.iload_n 1, 1) := by decide +kernel
theorem dX6_init_44 : decode cX6_init 44 = .ok (.putfield 16, 3) := by decide +kernel
theorem dX6_init_47 : decode cX6_init 47 = .ok (.aload_n 0, 1) := by decide +kernel
theorem dX6_init_48 : decode cX6_init 48 = .ok (.iload_n 2, 1) := by decide +kernel
theorem dX6_init_49 : decode cX6_init 49 = .ok (.iconst 3, 1) := by decide +kernel
theorem dX6_init_50 : decode cX6_init 50 = .ok (.if_icmp .ge 7, 3) := by decide +kernel
theorem dX6_init_53 : decode cX6_init 53 = .ok (.iconst 3, 1) := by decide +kernel
theorem dX6_init_54 : decode cX6_init 54 = .ok (.goto 15, 3) := by decide +kernel
theorem dX6_init_57 : decode cX6_init 57 = .ok (.iload_n 2, 1) := by decide +kernel
theorem dX6_init_58 : decode cX6_init 58 = .ok (.bipush 10, 2) := by decide +kernel
theorem dX6_init_60 : decode cX6_init 60 = .ok (.if_icmp .le 8, 3) := by decide +kernel
theorem dX6_init_63 : decode cX6_init 63 = .ok (.bipush 10, 2) := by decide +kernel
theorem dX6_init_65 : decode cX6_init 65 = .ok (.goto 4, 3) := by decide +kernel
theorem dX6_init_68 : decode cX6_init 68 = .ok (.iload_n 2, 1) := by decide +kernel
theorem dX6_init_69 : decode cX6_init 69 = .ok (.putfield 20, 3) := by decide +kernel
theorem dX6_init_72 : decode cX6_init 72 = .ok (.iconst 0, 1) := by decide +kernel
theorem dX6_init_73 : decode cX6_init 73 = .ok (.istore_n 3, 1) := by decide +kernel
theorem dX6_init_74 : decode cX6_init 74 = .ok (.iload_n 3, 1) := by decide +kernel
theorem dX6_init_75 : decode cX6_init 75 = .ok (.bipush 16, 2) := by decide +kernel
theorem dX6_init_77 : decode cX6_init 77 = .ok (.if_icmp .ge 23, 3) := by decide +kernel
theorem dX6_init_80 : decode cX6_init 80 = .ok (.aload_n 0, 1) := by decide +kernel
theorem dX6_init_81 : decode cX6_init 81 = .ok (.getfield 7, 3) := by decide +kernel
theorem dX6_init_84 : decode cX6_init 84 = .ok (.sipush 200, 3) := by decide +kernel
theorem dX6_init_87 : decode cX6_init 87 = .ok (.bipush 64, 2) := by decide +kernel
theorem dX6_init_89 : decode cX6_init 89 = .ok (.iload_n 3, 1) := by decide +kernel
theorem dX6_init_90 : decode cX6_init 90 = .ok (.imul, 1) := by decide +kernel
theorem dX6_init_91 : decode cX6_init 91 = .ok (.iadd, 1) := by decide +kernel
theorem dX6_init_92 : decode cX6_init 92 = .ok (.iconst (-1), 1) := by decide +kernel
theorem dX6_init_93 : decode cX6_init 93 = .ok (.iastore, 1) := by decide +kernel
theorem dX6_init_94 : decode cX6_init 94 = .ok (.iinc 3 1, 3) := by decide +kernel
theorem dX6_init_97 : decode cX6_init 97 = .ok (.goto (-23), 3) := by decide +kernel
theorem dX6_init_100 : decode cX6_init 100 = .ok (.return_, 1) := by decide +kernel
def fn_X6_init_L74 (B : Nat) (ca : Nat → ClassId) (q : Nat) (S : cn_S) : Nat → Nat → Int32 → Int32 → Int32 → cn_S → cp_Dt → Option (cn_S × cp_Dt)
  | 0, _, _, _, _, _, _ => none
  | n + 1, a0, i1, i2, i3, S1, D =>
    if (16 : Int32) ≤ i3 then (if S1.1 = S.1 + 2 then some (S1, D) else none)
    else ((cp_gR (cn_L B ca S1) a0 6 3).bind fun r28 =>
    (cp_aS (cn_L B ca S1) D 0 r28 ((200 : Int32) + ((64 : Int32) * i3)) (-1 : Int32)).bind fun D29 =>
    fn_X6_init_L74 B ca q S n a0 i1 i2 (i3 + 1) S1 D29)
def fn_X6_init (B : Nat) (ca : Nat → ClassId) (q : Nat) (k0 : Nat) (x1 : Int32) (x2 : Int32) (S : cn_S) (D : cp_Dt) : Option (cn_S × cp_Dt) :=
  (cn_ln (1232 : Int32) 1232).bind fun n2 =>
  (cn_mk (S.1 + 2) S D (.inl (0, n2, fun _ => none))).bind fun y1 =>
  (cn_pR y1.1 k0 6 3 S.1).bind fun S3 =>
  (cn_ln (1232 : Int32) 1232).bind fun n5 =>
  (cn_mk (S.1 + 2) S3 y1.2 (.inl (0, n5, fun _ => none))).bind fun y4 =>
  (cn_pR y4.1 k0 6 5 S3.1).bind fun S6 =>
  if (3 : Int32) ≤ x1 then (if x1 ≤ (10 : Int32) then ((cp_pI (cn_L B ca S6) y4.2 k0 6 1 x1).bind fun D9 =>
  if (3 : Int32) ≤ x2 then (if x2 ≤ (10 : Int32) then ((cp_pI (cn_L B ca S6) D9 k0 6 2 x2).bind fun D12 =>
  fn_X6_init_L74 B ca q S q k0 x1 x2 (0 : Int32) S6 D12)
  else ((cp_pI (cn_L B ca S6) D9 k0 6 2 (10 : Int32)).bind fun D13 =>
  fn_X6_init_L74 B ca q S q k0 x1 x2 (0 : Int32) S6 D13))
  else ((cp_pI (cn_L B ca S6) D9 k0 6 2 (3 : Int32)).bind fun D14 =>
  fn_X6_init_L74 B ca q S q k0 x1 x2 (0 : Int32) S6 D14))
  else ((cp_pI (cn_L B ca S6) y4.2 k0 6 1 (10 : Int32)).bind fun D15 =>
  if (3 : Int32) ≤ x2 then (if x2 ≤ (10 : Int32) then ((cp_pI (cn_L B ca S6) D15 k0 6 2 x2).bind fun D18 =>
  fn_X6_init_L74 B ca q S q k0 x1 x2 (0 : Int32) S6 D18)
  else ((cp_pI (cn_L B ca S6) D15 k0 6 2 (10 : Int32)).bind fun D19 =>
  fn_X6_init_L74 B ca q S q k0 x1 x2 (0 : Int32) S6 D19))
  else ((cp_pI (cn_L B ca S6) D15 k0 6 2 (3 : Int32)).bind fun D20 =>
  fn_X6_init_L74 B ca q S q k0 x1 x2 (0 : Int32) S6 D20)))
  else ((cp_pI (cn_L B ca S6) y4.2 k0 6 1 (3 : Int32)).bind fun D21 =>
  if (3 : Int32) ≤ x2 then (if x2 ≤ (10 : Int32) then ((cp_pI (cn_L B ca S6) D21 k0 6 2 x2).bind fun D24 =>
  fn_X6_init_L74 B ca q S q k0 x1 x2 (0 : Int32) S6 D24)
  else ((cp_pI (cn_L B ca S6) D21 k0 6 2 (10 : Int32)).bind fun D25 =>
  fn_X6_init_L74 B ca q S q k0 x1 x2 (0 : Int32) S6 D25))
  else ((cp_pI (cn_L B ca S6) D21 k0 6 2 (3 : Int32)).bind fun D26 =>
  fn_X6_init_L74 B ca q S q k0 x1 x2 (0 : Int32) S6 D26))
set_option maxHeartbeats 4000000 in
set_option maxRecDepth 100000 in
theorem cc_X6_init (l : Launch) (G : va_G) (B : Nat) (ca : Nat → ClassId) (q : Nat) (k0 : Nat) (x1 : Int32) (x2 : Int32) (S : cn_S) (D : cp_Dt) (res : cn_S × cp_Dt) (hF : fn_X6_init B ca q k0 x1 x2 S D = some res) : cn_Met l G yX6_init wsX6_init ({ frames := 1, cells := 2, slots := 2464, locals := 20 }) 2 2464 B ca ([.ref (B + k0), .int x1, .int x2] : List Value) S D res.1 res.2 := by
  refine Met.ofW (cc := cX6_init) (maxL := 4) (ret := none) (by decide) rfl ?_
  intro p e s m args below meth c s₁ B0 hml hv
  obtain ⟨rfl, hP, hz0, hK, hN, hZ, hO⟩ := hv
  have hx := B0.exec
  have hb := B0.bytes
  have hr := B0.returns
  have hname : meth.name = "<init>" := (name_of_methodNamed B0.named B0.method).1
  have hts := atoms_spec (ws := wsX6_init) B0.pre
  have hown : s.vm.findClass "CreaturePondModel" = some m.cls := findClass_of_methodNamed B0.named
  have hlocks := B0.notSynchronized
  have hI : cn_I G B ca S D s s.heap [] 0 := ⟨hP, hz0, hz0, va_S.rf⟩
  have htT : ∀ w ∈ cp_T, w.before ([.ref (B + k0), .int x1, .int x2] : List Value).toArray s = true := fun w h => hts w (List.mem_cons_of_mem _ h)
  have hl := lv_entry (([.ref (B + k0), .int x1, .int x2] : List Value)) (n := 4) (Nat.le_of_ble_eq_true rfl)
  rw [lg_entry_eq]
  generalize (lg_sl (([.ref (B + k0), .int x1, .int x2] : List Value)) ++ List.replicate (4 - (lg_sl (([.ref (B + k0), .int x1, .int x2] : List Value))).length) Slot.unset).toArray = ls at hl ⊢
  have hl : lv_has ls 4 [(0, .ref (B + k0)), (1, .int x1), (2, .int x2)] := hl
  have hL74 : ∀ (n : Nat) (a0 : Nat) (i1 : Int32) (i2 : Int32) (i3 : Int32) (S1 : cn_S) (D : cp_Dt) (H : Heap) (locs : List Loc) (ls : Array Slot) (cells slots : Nat), fn_X6_init_L74 B ca q S n a0 i1 i2 i3 S1 D = some res → slots ≤ 2464 → cn_I G B ca S1 D s H locs cells → lv_has ls 4 [(0, .ref (B + a0)), (1, .int i1), (2, .int i2), (3, .int i3)] → W p l e (headSpec wsX6_init ({ frames := 1, cells := 2, slots := 2464, locals := 20 })).room s m ([.ref (B + k0), .int x1, .int x2] : List Value).toArray below meth c H locs cells slots (MQ below (cn_Q G B ca S 2 res.1 res.2) ([.ref (B + k0), .int x1, .int x2] : List Value).toArray s 2 2464 (cn_A B)) (F0 m 74 ls []) := by
    intro n
    induction n with
    | zero =>
      intro a0 i1 i2 i3 S1 D H locs ls cells slots hF
      cases hF
    | succ n ih =>
      intro a0 i1 i2 i3 S1 D H locs ls cells slots hF hsl hI hl
      unfold fn_X6_init_L74 at hF
      refine lv_iload_n hx hb dX6_init_74 rfl (lv_at hl 3 rfl) ?_
      refine lv_bipush (v := (16 : Int32)) hx hb dX6_init_75 (by decide) ?_
      refine lv_icmp_ge (tgt := 100) hx hb dX6_init_77 (by decide) (fun hc27 => ?_) (fun hc27 => ?_)
      · rw [if_pos hc27] at hF
        exact cn_vretM (S0 := S) (mc := 2) hx hb hr hlocks hz0 hF hI (by show _ ≤ 2464; omega) dX6_init_100
      · rw [if_neg hc27] at hF
        refine lv_aload_n hx hb dX6_init_80 rfl (lv_at hl 0 rfl) ?_
        obtain ⟨r28, er28, hF⟩ := cp_bind hF
        refine cp_getR (L := cn_L B ca S1) (T := TX6) (N := 6) (ci := 6) (j := 3) hx hb htT hinX6 hown hK hI.1 rfl (by decide) rfl (htT _ tw_378) er28 dX6_init_81 ?_
        refine lv_sipush (v := (200 : Int32)) hx hb dX6_init_84 (by decide) ?_
        refine lv_bipush (v := (64 : Int32)) hx hb dX6_init_87 (by decide) ?_
        refine lv_iload_n hx hb dX6_init_89 rfl (lv_at hl 3 rfl) ?_
        refine lv_imul hx hb dX6_init_90 ?_
        refine lv_iadd hx hb dX6_init_91 ?_
        refine lv_iconst (v := (-1 : Int32)) hx hb dX6_init_92 (by decide) ?_
        obtain ⟨D29, eD29, hF⟩ := cp_bind hF
        refine cn_iast (S := S1) (k := r28) hx hb hK hI eD29 dX6_init_93 (fun H locs hI => ?_)
        refine lv_iinc (k := 3) (v := (i3 + 1)) (lv' := [(3, .int (i3 + 1)), (0, .ref (B + a0)), (1, .int i1), (2, .int i2)]) hx hb dX6_init_94 hl rfl (congrArg (fun z => i3 + z) (by decide)) (by decide) rfl (fun ls hl => ?_)
        refine lv_goto (tgt := 74) hx hb dX6_init_97 (by decide) ?_
        exact ih a0 i1 i2 (i3 + 1) S1 D29 _ _ _ _ _ hF (by omega) hI (lv_sub hl [1, 2, 3, 0] rfl)
  unfold fn_X6_init at hF
  refine lv_aload_n hx hb dX6_init_0 rfl (lv_at hl 0 rfl) ?_
  refine cn_obj hx hb hown (htT _ tw_374) (htT _ tw_22) (htT _ tw_23) hml hl.1 dX6_init_1 (Nat.le_of_ble_eq_true rfl) (Nat.le_of_ble_eq_true rfl) ?_
  refine lv_aload_n hx hb dX6_init_4 rfl (lv_at hl 0 rfl) ?_
  refine lv_sipush (v := (1232 : Int32)) hx hb dX6_init_5 (by decide) ?_
  obtain ⟨n2, en2, hF⟩ := cp_bind hF
  obtain ⟨y1, ey1, hF⟩ := cp_bind hF
  refine cn_newaM (S := S) (S0 := S) (mc := 2) (K := 1232) (atype := .int) hx hb (Or.inl ⟨rfl, rfl⟩) (htT _ tw_57) hK hI en2 (by decide) hz0 rfl ey1 (Nat.le_of_ble_eq_true rfl) dX6_init_8 (fun H hI => ?_)
  obtain ⟨S3, eS3, hF⟩ := cp_bind hF
  refine cn_putR (S := y1.1) (k := k0) (t := S.1) (T := TX6) (N := 6) (ci := 6) (j := 3) hx hb htT hinX6 tyX6 tyX6_ok nmX6 hown hK hI rfl (by decide) rfl (htT _ tw_378) rfl hname rfl (fun _ => rfl) (fun _ => rfl) eS3 dX6_init_10 (fun H locs hI => ?_)
  refine lv_aload_n hx hb dX6_init_13 rfl (lv_at hl 0 rfl) ?_
  refine lv_sipush (v := (1232 : Int32)) hx hb dX6_init_14 (by decide) ?_
  obtain ⟨n5, en5, hF⟩ := cp_bind hF
  obtain ⟨y4, ey4, hF⟩ := cp_bind hF
  refine cn_newaM (S := S3) (S0 := S) (mc := 2) (K := 1232) (atype := .int) hx hb (Or.inl ⟨rfl, rfl⟩) (htT _ tw_57) hK hI en5 (by decide) hz0 rfl ey4 (Nat.le_of_ble_eq_true rfl) dX6_init_17 (fun H hI => ?_)
  obtain ⟨S6, eS6, hF⟩ := cp_bind hF
  refine cn_putR (S := y4.1) (k := k0) (t := S3.1) (T := TX6) (N := 6) (ci := 6) (j := 5) hx hb htT hinX6 tyX6 tyX6_ok nmX6 hown hK hI rfl (by decide) rfl (htT _ tw_380) rfl hname rfl (fun _ => rfl) (fun _ => rfl) eS6 dX6_init_19 (fun H locs hI => ?_)
  refine lv_aload_n hx hb dX6_init_22 rfl (lv_at hl 0 rfl) ?_
  refine lv_iload_n hx hb dX6_init_23 rfl (lv_at hl 1 rfl) ?_
  refine lv_iconst (v := (3 : Int32)) hx hb dX6_init_24 (by decide) ?_
  refine lv_icmp_ge (tgt := 32) hx hb dX6_init_25 (by decide) (fun hc7 => ?_) (fun hc7 => ?_)
  · rw [if_pos hc7] at hF
    refine lv_iload_n hx hb dX6_init_32 rfl (lv_at hl 1 rfl) ?_
    refine lv_bipush (v := (10 : Int32)) hx hb dX6_init_33 (by decide) ?_
    refine lv_icmp_le (tgt := 43) hx hb dX6_init_35 (by decide) (fun hc8 => ?_) (fun hc8 => ?_)
    · rw [if_pos hc8] at hF
      refine lv_iload_n hx hb dX6_init_43 rfl (lv_at hl 1 rfl) ?_
      obtain ⟨D9, eD9, hF⟩ := cp_bind hF
      refine cn_putI (S := S6) (k := k0) (T := TX6) (N := 6) (ci := 6) (j := 1) hx hb htT hinX6 tyX6 tyX6_ok nmX6 hown hK hI rfl (by decide) rfl (htT _ tw_376) rfl hname rfl rfl rfl eD9 dX6_init_44 (fun H locs hI => ?_)
      refine lv_aload_n hx hb dX6_init_47 rfl (lv_at hl 0 rfl) ?_
      refine lv_iload_n hx hb dX6_init_48 rfl (lv_at hl 2 rfl) ?_
      refine lv_iconst (v := (3 : Int32)) hx hb dX6_init_49 (by decide) ?_
      refine lv_icmp_ge (tgt := 57) hx hb dX6_init_50 (by decide) (fun hc10 => ?_) (fun hc10 => ?_)
      · rw [if_pos hc10] at hF
        refine lv_iload_n hx hb dX6_init_57 rfl (lv_at hl 2 rfl) ?_
        refine lv_bipush (v := (10 : Int32)) hx hb dX6_init_58 (by decide) ?_
        refine lv_icmp_le (tgt := 68) hx hb dX6_init_60 (by decide) (fun hc11 => ?_) (fun hc11 => ?_)
        · rw [if_pos hc11] at hF
          refine lv_iload_n hx hb dX6_init_68 rfl (lv_at hl 2 rfl) ?_
          obtain ⟨D12, eD12, hF⟩ := cp_bind hF
          refine cn_putI (S := S6) (k := k0) (T := TX6) (N := 6) (ci := 6) (j := 2) hx hb htT hinX6 tyX6 tyX6_ok nmX6 hown hK hI rfl (by decide) rfl (htT _ tw_377) rfl hname rfl rfl rfl eD12 dX6_init_69 (fun H locs hI => ?_)
          refine lv_iconst (v := (0 : Int32)) hx hb dX6_init_72 (by decide) ?_
          refine lv_istore_n (lv' := [(3, .int (0 : Int32)), (0, .ref (B + k0)), (1, .int x1), (2, .int x2)]) hx hb dX6_init_73 rfl hl (by decide) rfl (fun ls hl => ?_)
          exact hL74 q k0 x1 x2 (0 : Int32) S6 D12 _ _ _ _ _ hF (by omega) hI (lv_sub hl [1, 2, 3, 0] rfl)
        · rw [if_neg hc11] at hF
          refine lv_bipush (v := (10 : Int32)) hx hb dX6_init_63 (by decide) ?_
          refine lv_goto (tgt := 69) hx hb dX6_init_65 (by decide) ?_
          obtain ⟨D13, eD13, hF⟩ := cp_bind hF
          refine cn_putI (S := S6) (k := k0) (T := TX6) (N := 6) (ci := 6) (j := 2) hx hb htT hinX6 tyX6 tyX6_ok nmX6 hown hK hI rfl (by decide) rfl (htT _ tw_377) rfl hname rfl rfl rfl eD13 dX6_init_69 (fun H locs hI => ?_)
          refine lv_iconst (v := (0 : Int32)) hx hb dX6_init_72 (by decide) ?_
          refine lv_istore_n (lv' := [(3, .int (0 : Int32)), (0, .ref (B + k0)), (1, .int x1), (2, .int x2)]) hx hb dX6_init_73 rfl hl (by decide) rfl (fun ls hl => ?_)
          exact hL74 q k0 x1 x2 (0 : Int32) S6 D13 _ _ _ _ _ hF (by omega) hI (lv_sub hl [1, 2, 3, 0] rfl)
      · rw [if_neg hc10] at hF
        refine lv_iconst (v := (3 : Int32)) hx hb dX6_init_53 (by decide) ?_
        refine lv_goto (tgt := 69) hx hb dX6_init_54 (by decide) ?_
        obtain ⟨D14, eD14, hF⟩ := cp_bind hF
        refine cn_putI (S := S6) (k := k0) (T := TX6) (N := 6) (ci := 6) (j := 2) hx hb htT hinX6 tyX6 tyX6_ok nmX6 hown hK hI rfl (by decide) rfl (htT _ tw_377) rfl hname rfl rfl rfl eD14 dX6_init_69 (fun H locs hI => ?_)
        refine lv_iconst (v := (0 : Int32)) hx hb dX6_init_72 (by decide) ?_
        refine lv_istore_n (lv' := [(3, .int (0 : Int32)), (0, .ref (B + k0)), (1, .int x1), (2, .int x2)]) hx hb dX6_init_73 rfl hl (by decide) rfl (fun ls hl => ?_)
        exact hL74 q k0 x1 x2 (0 : Int32) S6 D14 _ _ _ _ _ hF (by omega) hI (lv_sub hl [1, 2, 3, 0] rfl)
    · rw [if_neg hc8] at hF
      refine lv_bipush (v := (10 : Int32)) hx hb dX6_init_38 (by decide) ?_
      refine lv_goto (tgt := 44) hx hb dX6_init_40 (by decide) ?_
      obtain ⟨D15, eD15, hF⟩ := cp_bind hF
      refine cn_putI (S := S6) (k := k0) (T := TX6) (N := 6) (ci := 6) (j := 1) hx hb htT hinX6 tyX6 tyX6_ok nmX6 hown hK hI rfl (by decide) rfl (htT _ tw_376) rfl hname rfl rfl rfl eD15 dX6_init_44 (fun H locs hI => ?_)
      refine lv_aload_n hx hb dX6_init_47 rfl (lv_at hl 0 rfl) ?_
      refine lv_iload_n hx hb dX6_init_48 rfl (lv_at hl 2 rfl) ?_
      refine lv_iconst (v := (3 : Int32)) hx hb dX6_init_49 (by decide) ?_
      refine lv_icmp_ge (tgt := 57) hx hb dX6_init_50 (by decide) (fun hc16 => ?_) (fun hc16 => ?_)
      · rw [if_pos hc16] at hF
        refine lv_iload_n hx hb dX6_init_57 rfl (lv_at hl 2 rfl) ?_
        refine lv_bipush (v := (10 : Int32)) hx hb dX6_init_58 (by decide) ?_
        refine lv_icmp_le (tgt := 68) hx hb dX6_init_60 (by decide) (fun hc17 => ?_) (fun hc17 => ?_)
        · rw [if_pos hc17] at hF
          refine lv_iload_n hx hb dX6_init_68 rfl (lv_at hl 2 rfl) ?_
          obtain ⟨D18, eD18, hF⟩ := cp_bind hF
          refine cn_putI (S := S6) (k := k0) (T := TX6) (N := 6) (ci := 6) (j := 2) hx hb htT hinX6 tyX6 tyX6_ok nmX6 hown hK hI rfl (by decide) rfl (htT _ tw_377) rfl hname rfl rfl rfl eD18 dX6_init_69 (fun H locs hI => ?_)
          refine lv_iconst (v := (0 : Int32)) hx hb dX6_init_72 (by decide) ?_
          refine lv_istore_n (lv' := [(3, .int (0 : Int32)), (0, .ref (B + k0)), (1, .int x1), (2, .int x2)]) hx hb dX6_init_73 rfl hl (by decide) rfl (fun ls hl => ?_)
          exact hL74 q k0 x1 x2 (0 : Int32) S6 D18 _ _ _ _ _ hF (by omega) hI (lv_sub hl [1, 2, 3, 0] rfl)
        · rw [if_neg hc17] at hF
          refine lv_bipush (v := (10 : Int32)) hx hb dX6_init_63 (by decide) ?_
          refine lv_goto (tgt := 69) hx hb dX6_init_65 (by decide) ?_
          obtain ⟨D19, eD19, hF⟩ := cp_bind hF
          refine cn_putI (S := S6) (k := k0) (T := TX6) (N := 6) (ci := 6) (j := 2) hx hb htT hinX6 tyX6 tyX6_ok nmX6 hown hK hI rfl (by decide) rfl (htT _ tw_377) rfl hname rfl rfl rfl eD19 dX6_init_69 (fun H locs hI => ?_)
          refine lv_iconst (v := (0 : Int32)) hx hb dX6_init_72 (by decide) ?_
          refine lv_istore_n (lv' := [(3, .int (0 : Int32)), (0, .ref (B + k0)), (1, .int x1), (2, .int x2)]) hx hb dX6_init_73 rfl hl (by decide) rfl (fun ls hl => ?_)
          exact hL74 q k0 x1 x2 (0 : Int32) S6 D19 _ _ _ _ _ hF (by omega) hI (lv_sub hl [1, 2, 3, 0] rfl)
      · rw [if_neg hc16] at hF
        refine lv_iconst (v := (3 : Int32)) hx hb dX6_init_53 (by decide) ?_
        refine lv_goto (tgt := 69) hx hb dX6_init_54 (by decide) ?_
        obtain ⟨D20, eD20, hF⟩ := cp_bind hF
        refine cn_putI (S := S6) (k := k0) (T := TX6) (N := 6) (ci := 6) (j := 2) hx hb htT hinX6 tyX6 tyX6_ok nmX6 hown hK hI rfl (by decide) rfl (htT _ tw_377) rfl hname rfl rfl rfl eD20 dX6_init_69 (fun H locs hI => ?_)
        refine lv_iconst (v := (0 : Int32)) hx hb dX6_init_72 (by decide) ?_
        refine lv_istore_n (lv' := [(3, .int (0 : Int32)), (0, .ref (B + k0)), (1, .int x1), (2, .int x2)]) hx hb dX6_init_73 rfl hl (by decide) rfl (fun ls hl => ?_)
        exact hL74 q k0 x1 x2 (0 : Int32) S6 D20 _ _ _ _ _ hF (by omega) hI (lv_sub hl [1, 2, 3, 0] rfl)
  · rw [if_neg hc7] at hF
    refine lv_iconst (v := (3 : Int32)) hx hb dX6_init_28 (by decide) ?_
    refine lv_goto (tgt := 44) hx hb dX6_init_29 (by decide) ?_
    obtain ⟨D21, eD21, hF⟩ := cp_bind hF
    refine cn_putI (S := S6) (k := k0) (T := TX6) (N := 6) (ci := 6) (j := 1) hx hb htT hinX6 tyX6 tyX6_ok nmX6 hown hK hI rfl (by decide) rfl (htT _ tw_376) rfl hname rfl rfl rfl eD21 dX6_init_44 (fun H locs hI => ?_)
    refine lv_aload_n hx hb dX6_init_47 rfl (lv_at hl 0 rfl) ?_
    refine lv_iload_n hx hb dX6_init_48 rfl (lv_at hl 2 rfl) ?_
    refine lv_iconst (v := (3 : Int32)) hx hb dX6_init_49 (by decide) ?_
    refine lv_icmp_ge (tgt := 57) hx hb dX6_init_50 (by decide) (fun hc22 => ?_) (fun hc22 => ?_)
    · rw [if_pos hc22] at hF
      refine lv_iload_n hx hb dX6_init_57 rfl (lv_at hl 2 rfl) ?_
      refine lv_bipush (v := (10 : Int32)) hx hb dX6_init_58 (by decide) ?_
      refine lv_icmp_le (tgt := 68) hx hb dX6_init_60 (by decide) (fun hc23 => ?_) (fun hc23 => ?_)
      · rw [if_pos hc23] at hF
        refine lv_iload_n hx hb dX6_init_68 rfl (lv_at hl 2 rfl) ?_
        obtain ⟨D24, eD24, hF⟩ := cp_bind hF
        refine cn_putI (S := S6) (k := k0) (T := TX6) (N := 6) (ci := 6) (j := 2) hx hb htT hinX6 tyX6 tyX6_ok nmX6 hown hK hI rfl (by decide) rfl (htT _ tw_377) rfl hname rfl rfl rfl eD24 dX6_init_69 (fun H locs hI => ?_)
        refine lv_iconst (v := (0 : Int32)) hx hb dX6_init_72 (by decide) ?_
        refine lv_istore_n (lv' := [(3, .int (0 : Int32)), (0, .ref (B + k0)), (1, .int x1), (2, .int x2)]) hx hb dX6_init_73 rfl hl (by decide) rfl (fun ls hl => ?_)
        exact hL74 q k0 x1 x2 (0 : Int32) S6 D24 _ _ _ _ _ hF (by omega) hI (lv_sub hl [1, 2, 3, 0] rfl)
      · rw [if_neg hc23] at hF
        refine lv_bipush (v := (10 : Int32)) hx hb dX6_init_63 (by decide) ?_
        refine lv_goto (tgt := 69) hx hb dX6_init_65 (by decide) ?_
        obtain ⟨D25, eD25, hF⟩ := cp_bind hF
        refine cn_putI (S := S6) (k := k0) (T := TX6) (N := 6) (ci := 6) (j := 2) hx hb htT hinX6 tyX6 tyX6_ok nmX6 hown hK hI rfl (by decide) rfl (htT _ tw_377) rfl hname rfl rfl rfl eD25 dX6_init_69 (fun H locs hI => ?_)
        refine lv_iconst (v := (0 : Int32)) hx hb dX6_init_72 (by decide) ?_
        refine lv_istore_n (lv' := [(3, .int (0 : Int32)), (0, .ref (B + k0)), (1, .int x1), (2, .int x2)]) hx hb dX6_init_73 rfl hl (by decide) rfl (fun ls hl => ?_)
        exact hL74 q k0 x1 x2 (0 : Int32) S6 D25 _ _ _ _ _ hF (by omega) hI (lv_sub hl [1, 2, 3, 0] rfl)
    · rw [if_neg hc22] at hF
      refine lv_iconst (v := (3 : Int32)) hx hb dX6_init_53 (by decide) ?_
      refine lv_goto (tgt := 69) hx hb dX6_init_54 (by decide) ?_
      obtain ⟨D26, eD26, hF⟩ := cp_bind hF
      refine cn_putI (S := S6) (k := k0) (T := TX6) (N := 6) (ci := 6) (j := 2) hx hb htT hinX6 tyX6 tyX6_ok nmX6 hown hK hI rfl (by decide) rfl (htT _ tw_377) rfl hname rfl rfl rfl eD26 dX6_init_69 (fun H locs hI => ?_)
      refine lv_iconst (v := (0 : Int32)) hx hb dX6_init_72 (by decide) ?_
      refine lv_istore_n (lv' := [(3, .int (0 : Int32)), (0, .ref (B + k0)), (1, .int x1), (2, .int x2)]) hx hb dX6_init_73 rfl hl (by decide) rfl (fun ls hl => ?_)
      exact hL74 q k0 x1 x2 (0 : Int32) S6 D26 _ _ _ _ _ hF (by omega) hI (lv_sub hl [1, 2, 3, 0] rfl)
