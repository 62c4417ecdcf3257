/-! The law: what it makes before its loop -/
section LWO
variable {S2 S5 : cn_S} {D2 D5 : cp_Dt} {B w h : Nat} {ca : Nat → ClassId}
theorem ev_ok (hw : 3 ≤ w ∧ w ≤ 10 ∧ 3 ≤ h ∧ h ≤ 10) (n5 : S5.1 = 147) (sh : ∀ k, k < 143 → S5.2 k = S2.2 k) (a0 : S2.2 0 = .inr (0, [some (some 1), some (some 3), some (some 72), some (some 141), some (some 142), none])) (a1 : S2.2 1 = .inr (5, fl5)) (a2 : ∃ t, S2.2 2 = .inl (0, w * h * 4, t)) (p3 : PN S2 (w * h) 3 D2) (p72 : PN S2 (w * h) 72 D2) (a3 : S2.2 141 = .inr (3, [some (some 3)])) (a4 : S2.2 142 = .inr (2, [some (some 3)])) (m0 : S5.2 143 = .inr (6, fl6)) (m1 : ∃ t, S5.2 144 = .inl (0, 1232, t)) (m2 : ∃ t, S5.2 145 = .inl (0, 1232, t)) (m3 : ∃ t, S5.2 146 = .inl (3, 1, t)) : cp_ok (cn_L B ca S5) w h := by
  obtain ⟨t2, a2⟩ := a2
  obtain ⟨t3, m1⟩ := m1
  obtain ⟨t4, m2⟩ := m2
  obtain ⟨t5, m3⟩ := m3
  refine ⟨hw, ev_fl (by omega) ((sh 0 (by omega)).trans a0), ev_fl (by omega) ((sh 1 (by omega)).trans a1), ⟨t2, ev_ar (by omega) ((sh 2 (by omega)).trans a2)⟩, PN.okP (p3.same (fun k g1 g2 => sh k (by omega)) (fun k g1 g2 => rfl)) (by omega), PN.okP (p72.same (fun k g1 g2 => sh k (by omega)) (fun k g1 g2 => rfl)) (by omega), ev_fl (by omega) ((sh 141 (by omega)).trans a3), ev_fl (by omega) ((sh 142 (by omega)).trans a4), ev_fl (by omega) m0, ⟨t3, ev_ar (by omega) m1⟩, ⟨t4, ev_ar (by omega) m2⟩, ⟨t5, ev_ar (by omega) m3⟩⟩
theorem ev_top (hw : 3 ≤ w ∧ w ≤ 10 ∧ 3 ≤ h ∧ h ≤ 10) (dh : ∀ k, k < 143 → D5 k = D2 k) (p3 : PN S2 (w * h) 3 D2) (d0 : D2 0 = fun _ => 0) (d1 : D2 1 0 = nI w ∧ D2 1 1 = nI h ∧ D2 1 2 = nI (w * h)) (d2 : ∀ c d, c < w * h → d < 4 → D2 2 (4 * c + d) = nbv w h c d) (e0 : D5 143 = upd (upd (fun _ => 0) 1 (nI w)) 2 (nI h)) (e1 : ∀ a, a < 16 → D5 144 (200 + 64 * a) = -1) (e2 : ∀ j, (∀ a, a < 16 → j ≠ 200 + 64 * a) → D5 144 j = 0) : Top w h 1000 D5 D5 := by
  have hN := N_le hw
  have h9 : 9 ≤ w * h := Nat.mul_le_mul hw.1 hw.2.2.1
  refine ⟨⟨?_, ?_, ?_, ?_⟩, PN.rel (p3.same (fun k g1 g2 => rfl) (fun k g1 g2 => dh k (by omega))) ⟨by omega, by omega⟩ e1 e2, ?_, Or.inl ?_⟩
  · rw [dh 1 (by omega)]; exact d1
  · intro c d hc hd
    rw [dh 2 (by omega)]; exact d2 c d hc hd
  · rw [e0, upd_ne (by omega), upd_eq]
  · rw [e0, upd_eq]
  · rw [dh 0 (by omega), d0, e0, upd_ne (by omega), upd_ne (by omega)]
  · rw [dh 0 (by omega), d0]
end LWO
section LWG
variable {p : Program} {e : Env} {s : State} {m : MethodId} {below : List Frame} {meth : Method} {c : Code} {G : va_G} {ca : Nat → ClassId} {b N : Nat} {xs : Nat → Int32}
set_option maxHeartbeats 4000000 in
set_option maxRecDepth 100000 in
theorem lw_go (l : Launch) (hx : p.tables.exec = Jvm.exec) (hb : c.code = code) (hr : meth.sig.returnType = ret) (hlocks : meth.locks = false) (hml : c.maxLocals = 7) (hown : s.vm.findClass "CreaturePondLaw" = some m.cls) (htT : ∀ w ∈ cp_T, w.before #[Value.ref b] s = true) (hcw : ∀ w ∈ lw_cw, w.before #[Value.ref b] s = true) (hst : l.stackTraces = false) (hK : va_K G vwCl (cp_tys (cn_L s.heap.size ca (0, fun _ => .inr (0, [])))) s) (hNw : cp_N cp_nw s) (hZ : cp_Z (cn_A s.heap.size) s s.heap) (hE : cx_E (cn_A s.heap.size) s s.heap) (hNC : cx_NC s) (hO : va_AO "CreaturePond$Animal" s) (hX : va_X b N xs s s.heap) (hbl : b < s.heap.size) (hN : N ≤ 2562) : W p l e room_1 s m #[Value.ref b] below meth c s.heap [] 0 0 (lw_Z below #[Value.ref b] s) (entryFrame m ([Value.ref b] : List Value).toArray 7) := by
  have hN2 : N < 2 ^ 31 := by omega
  have hI : cn_I G s.heap.size ca (0, fun _ => .inr (0, [])) (fun _ _ => 0) s s.heap [] 0 := ⟨fun k x hk => (by cases hk), rfl, rfl, va_S.rf⟩
  have hl := lv_entry ([Value.ref b] : List Value) (n := 7) (Nat.le_of_ble_eq_true rfl)
  rw [lg_entry_eq]
  generalize (lg_sl ([Value.ref b] : List Value) ++ List.replicate (7 - (lg_sl ([Value.ref b] : List Value)).length) Slot.unset).toArray = ls at hl ⊢
  have hl : lv_has ls 7 [(0, .ref b)] := hl
  refine cn_new (S := (0, fun _ => .inr (0, []))) (T := TX0) (N := 6) (ci := 0) (B := s.heap.size) (ca := ca) hx hb htT hinX0 tyX0 tyX0_ok hown (htT _ tw_16) (htT _ tw_17) (htT _ tw_1) hK hI rfl flX0_ok (by show _ ≤ 601024; omega) (by show _ ≤ 7293000; omega) dLAW_0 (fun H hI => ?_)
  refine lv_dup hx hb dLAW_3 rfl ?_
  refine lv_aload_n hx hb dLAW_4 rfl (lv_at hl 0 rfl) ?_
  refine lv_iconst (v := (0 : Int32)) hx hb dLAW_5 (by decide) ?_
  refine lw_cell hx hb hml hown htT hX hbl hN2 hI.2.2.2 (by decide) hl.1 ⟨by omega, by omega⟩ (Nat.le_of_ble_eq_true rfl) dLAW_6 ?_
  refine lv_aload_n hx hb dLAW_9 rfl (lv_at hl 0 rfl) ?_
  refine lv_iconst (v := (1 : Int32)) hx hb dLAW_10 (by decide) ?_
  refine lw_cell hx hb hml hown htT hX hbl hN2 hI.2.2.2 (by decide) hl.1 ⟨by omega, by omega⟩ (Nat.le_of_ble_eq_true rfl) dLAW_11 ?_
  generalize hx0 : lw_rd N xs 0 = x0
  generalize hx1 : lw_rd N xs 1 = x1
  obtain ⟨w, w1, w2, w3, w4⟩ := cl_cs x0
  obtain ⟨h, h1, h2, h3, h4⟩ := cl_cs x1
  have hw : 3 ≤ w ∧ w ≤ 10 ∧ 3 ≤ h ∧ h ≤ 10 := ⟨w1, w2, h1, h2⟩
  obtain ⟨⟨n2, g2⟩, D2, f1, n2e, a0, a1, a2, p3, p72, a3, a4, d0, d1, d2⟩ := ev_whole (B := s.heap.size) (ca := ca) (q := 2000) (S := cn_nw (0, fun _ => .inr (0, [])) (.inr (0, flX0))) (D := cn_z (fun _ _ => 0) 0) hw (by omega) w3 h3 rfl rfl rfl
  dsimp only at n2e
  subst n2e
  refine cn_calln (va_runI (As := [.int x0, .int x1]) (rest := [.ref (s.heap.size + 0)]) ⟨hx, hb, hml, hown, htT⟩ (cc_X0_init l G s.heap.size ca 2000 0 x0 x1 _ _ _ f1) ⟨callB_of 2 htT gdX0_init rfl rfl rfl (htT _ tw_1) (htT _ tw_18) hdX0_init ⟨Nat.le_of_ble_eq_true rfl, Nat.le_of_ble_eq_true rfl⟩, rfl, (htT _ tw_19)⟩ ⟨cn_blind, cn_pre hI hK hNw hZ hO⟩ rfl rfl hl.1 rfl (lv_room (Nat.le_of_ble_eq_true rfl)) dLAW_14 ⟨by show _ ≤ 601024; omega, by show _ ≤ 7293000; omega⟩) hI (fun H locs hI => ?_)
  refine lv_astore_n (lv' := [(1, .ref (s.heap.size + 0)), (0, .ref b)]) hx hb dLAW_17 rfl hl (by decide) rfl (fun ls hl => ?_)
  refine cn_new (S := (143, g2)) (T := TX6) (N := 6) (ci := 6) (B := s.heap.size) (ca := ca) hx hb htT hinX6 tyX6 tyX6_ok hown (htT _ tw_369) (htT _ tw_370) (htT _ tw_8) hK hI rfl flX6_ok (by show _ ≤ 601024; omega) (by show _ ≤ 7293000; omega) dLAW_18 (fun H hI => ?_)
  refine lv_dup hx hb dLAW_21 rfl ?_
  refine lv_aload_n hx hb dLAW_22 rfl (lv_at hl 1 rfl) ?_
  refine lv_iconst (v := (0 : Int32)) hx hb dLAW_23 (by decide) ?_
  refine lw_cell hx hb hml hown htT hX hbl hN2 hI.2.2.2 (by decide) hl.1 ⟨by omega, by omega⟩ (Nat.le_of_ble_eq_true rfl) dLAW_24 ?_
  refine lv_aload_n hx hb dLAW_27 rfl (lv_at hl 1 rfl) ?_
  refine lv_iconst (v := (1 : Int32)) hx hb dLAW_28 (by decide) ?_
  refine lw_cell hx hb hml hown htT hX hbl hN2 hI.2.2.2 (by decide) hl.1 ⟨by omega, by omega⟩ (Nat.le_of_ble_eq_true rfl) dLAW_29 ?_
  rw [hx0, hx1]
  obtain ⟨⟨n4, g4⟩, D4, f2, n4e, m0, m1, m2, m3, m4, e0, e1, e2⟩ := ev_model (B := s.heap.size) (ca := ca) (q := 2000) (S := cn_nw (143, g2) (.inr (6, flX6))) (D := cn_z D2 143) (w := w) (h := h) (by omega) w4 h4 rfl rfl cp_upA_eq
  dsimp only at n4e
  subst n4e
  refine cn_calln (va_runI (As := [.int x0, .int x1]) (rest := [.ref (s.heap.size + 143)]) ⟨hx, hb, hml, hown, htT⟩ (cc_X6_init l G s.heap.size ca 2000 143 x0 x1 _ _ _ f2) ⟨callB_of 2 htT gdX6_init rfl rfl rfl (htT _ tw_8) (htT _ tw_371) hdX6_init ⟨Nat.le_of_ble_eq_true rfl, Nat.le_of_ble_eq_true rfl⟩, rfl, (htT _ tw_372)⟩ ⟨cn_blind, cn_pre hI hK hNw hZ hO⟩ rfl rfl hl.1 rfl (lv_room (Nat.le_of_ble_eq_true rfl)) dLAW_32 ⟨by show _ ≤ 601024; omega, by show _ ≤ 7293000; omega⟩) hI (fun H locs hI => ?_)
  refine lv_astore_n (lv' := [(2, .ref (s.heap.size + 143)), (1, .ref (s.heap.size + 0)), (0, .ref b)]) hx hb dLAW_35 rfl hl (by decide) rfl (fun ls hl => ?_)
  refine lv_iconst (v := (1 : Int32)) hx hb dLAW_36 (by decide) ?_
  refine cn_newa (S := (146, g4)) (t := 3) (K := 1) (N' := 1) (atype := .long) (B := s.heap.size) (ca := ca) hx hb (Or.inr (Or.inr ⟨rfl, rfl⟩)) (htT _ tw_527) hK hI rfl (by decide) (by show _ ≤ 601024; omega) (by show _ ≤ 7293000; omega) dLAW_37 (fun H hI => ?_)
  refine lv_astore_n (lv' := [(3, .ref (s.heap.size + 146)), (2, .ref (s.heap.size + 143)), (1, .ref (s.heap.size + 0)), (0, .ref b)]) hx hb dLAW_39 rfl hl (by decide) rfl (fun ls hl => ?_)
  refine lv_iconst (v := (2 : Int32)) hx hb dLAW_40 (by decide) ?_
  refine lv_istore (lv' := [(4, .int 2), (3, .ref (s.heap.size + 146)), (2, .ref (s.heap.size + 143)), (1, .ref (s.heap.size + 0)), (0, .ref b)]) hx hb dLAW_41 hl (by decide) rfl (fun ls hl => ?_)
  have u1 : ∀ k, k < 143 → (cn_nw (146, g4) (.inl (3, 1, fun _ => none))).2 k = g2 k := fun k hk => by
    rw [show (cn_nw (146, g4) (.inl (3, 1, fun _ => none))).2 k = g4 k from if_neg (by show ¬ k = 146; omega)]
    refine (m3 k hk).trans ?_
    exact if_neg (by show ¬ k = 143; omega)
  have u2 : ∀ k, k < 146 → (cn_nw (146, g4) (.inl (3, 1, fun _ => none))).2 k = g4 k := fun k hk => if_neg (by show ¬ k = 146; omega)
  have v1 : ∀ k, k < 146 → cn_z D4 146 k = D4 k := fun k hk => cp_upA_ne (by omega)
  have v2 : ∀ k, k < 143 → cn_z D4 146 k = D2 k := fun k hk => by
    rw [v1 k (by omega), m4 k hk]
    exact cp_upA_ne (by omega)
  have O : cp_ok (cn_L s.heap.size ca (cn_nw (146, g4) (.inl (3, 1, fun _ => none)))) w h := by
    obtain ⟨t1, m1⟩ := m1
    obtain ⟨t2, m2⟩ := m2
    exact ev_ok (S2 := (143, g2)) (D2 := D2) hw rfl u1 a0 a1 a2 p3 p72 a3 a4 ((u2 143 (by omega)).trans m0) ⟨t1, (u2 144 (by omega)).trans m1⟩ ⟨t2, (u2 145 (by omega)).trans m2⟩ ⟨fun _ => none, rfl⟩
  have T : Top w h 1000 (cn_z D4 146) (cn_z D4 146) := ev_top (S2 := (143, g2)) (D2 := D2) hw v2 p3 d0 d1 d2 ((v1 143 (by omega)).trans e0) (fun a ha => by rw [v1 144 (by omega)]; exact e1 a ha) (fun j hj => by rw [v1 144 (by omega)]; exact e2 j hj)
  exact lw_loop (q := 2000) (L := cn_L s.heap.size ca (cn_nw (146, g4) (.inl (3, 1, fun _ => none)))) ⟨hx, hb, hml, hown, htT, hcw, hst, cn_J _ _ _, cn_sub, hK, hNw, hZ, hE, hNC, hX, hbl⟩ O (Nat.le_refl _) hN hr hlocks 513 2 1000 _ _ _ _ _ _ (by omega) (by omega) (by omega) (by decide) (by omega) (by omega) T hI.1 hI.2.2.2 hl
end LWG
