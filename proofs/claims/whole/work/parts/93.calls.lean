/-! The law: its calls -/
section LWK
variable {p : Program} {l : Launch} {e : Env} {s : State} {m : MethodId} {args : Array Value} {below : List Frame} {meth : Method} {c : Code} {H : Heap} {locs : List Loc} {cells slots : Nat} {Q : State → Prop} {ls : Array Slot} {G : va_G} {L : cp_Lay} {D : cp_Dt} {b N : Nat} {xs : Nat → Int32}
def lc_0 (L : cp_Lay) (q N : Nat) (xs : Nat → Int32) (i : Int32) (D : cp_Dt) : Option cp_Dt :=
  (cp_tb N xs (i + (1 : Int32))).bind fun v1 =>
  (cp_tb N xs (i + (2 : Int32))).bind fun v2 =>
  (cp_fl L 0 0).bind fun f3 =>
  (fn_X0_set L q 0 v1 v2 D).bind fun y4 =>
  (cp_tb N xs (i + (1 : Int32))).bind fun v5 =>
  (cp_tb N xs (i + (2 : Int32))).bind fun v6 =>
  (cp_fl L 143 6).bind fun f7 =>
  (fn_X6_set L q 143 v5 v6 y4.2).bind fun y8 =>
  if y4.1 = y8.1 then (some y8.2)
  else (none)
set_option maxHeartbeats 4000000 in
set_option maxRecDepth 100000 in
theorem lw_k0 (X : lw_C p l G L s m args c b N xs) (q : Nat) {i : Int32} {res : cp_Dt} (hF : lc_0 L q N xs i D = some res) (hce : cells + 1 ≤ 601024) (hsl : slots + 6 ≤ 7293000) (hP : va_P G vwCl (cp_ws L D) H) (hS : va_S (lw_A s) s.heap H locs) (hl : lv_has ls 7 [(4, .int i), (3, .ref (L.2.1 146)), (2, .ref (L.2.1 143)), (1, .ref (L.2.1 0)), (0, .ref b)]) (kk : ∀ (H : Heap) (locs : List Loc) (ls : Array Slot), va_P G vwCl (cp_ws L res) H → va_S (lw_A s) s.heap H locs → lv_has ls 7 [(4, .int i), (3, .ref (L.2.1 146)), (2, .ref (L.2.1 143)), (1, .ref (L.2.1 0)), (0, .ref b)] → W p l e room_1 s m args below meth c H locs (cells + 1) (slots + 6) Q (F0 m 770 ls [])) : W p l e room_1 s m args below meth c H locs cells slots Q (F0 m 124 ls []) := by
  obtain ⟨hx, hb, hml, hown, htT, hcw, hst, hJ, hA, hK, hN, hZ, hE, hNC, hX, hbl⟩ := X
  unfold lc_0 at hF
  refine lv_aload_n hx hb dLAW_124 rfl (lv_at hl 3 rfl) ?_
  refine lv_aload_n hx hb dLAW_125 rfl (lv_at hl 4 rfl) ?_
  refine lv_iload hx hb dLAW_126 (lv_at hl 0 rfl) ?_
  refine lv_iconst (v := (1 : Int32)) hx hb dLAW_128 (by decide) ?_
  refine lv_iadd hx hb dLAW_129 ?_
  obtain ⟨v1, ev1, hF⟩ := cp_bind hF
  refine lw_sld hx hb hX hbl hS ev1 dLAW_130 ?_
  refine lv_aload_n hx hb dLAW_131 rfl (lv_at hl 4 rfl) ?_
  refine lv_iload hx hb dLAW_132 (lv_at hl 0 rfl) ?_
  refine lv_iconst (v := (2 : Int32)) hx hb dLAW_134 (by decide) ?_
  refine lv_iadd hx hb dLAW_135 ?_
  obtain ⟨v2, ev2, hF⟩ := cp_bind hF
  refine lw_sld hx hb hX hbl hS ev2 dLAW_136 ?_
  obtain ⟨f3, ef3, hF⟩ := cp_bind hF
  obtain ⟨y4, ey4, hF⟩ := cp_bind hF
  refine lw_call (st1 := [.int y4.1]) hA (va_runV (As := [.int v1, .int v2]) (rest := []) ⟨hx, hb, hml, hown, htT⟩ (ct_X0_set l G L hJ q 0 v1 v2 D y4 ey4) ⟨callB_of 2 htT gdX0_set rfl rfl rfl (htT _ tw_1) (htT _ tw_147) hdX0_set ⟨Nat.le_of_ble_eq_true rfl, Nat.le_of_ble_eq_true rfl⟩, (htT _ tw_148), (htT _ tw_149)⟩ ⟨cp_blind, cp_recv hK hP rfl ef3, lw_pre hP hK hN hZ hA hS⟩ rfl rfl hl.1 rfl (lv_room (Nat.le_of_ble_eq_true rfl)) dLAW_137 ⟨by show _ ≤ 601024; omega, by show _ ≤ 7293000; omega⟩) hS (fun H locs hP hS => ?_)
  refine lv_aload_n hx hb dLAW_140 rfl (lv_at hl 2 rfl) ?_
  refine lv_aload_n hx hb dLAW_141 rfl (lv_at hl 4 rfl) ?_
  refine lv_iload hx hb dLAW_142 (lv_at hl 0 rfl) ?_
  refine lv_iconst (v := (1 : Int32)) hx hb dLAW_144 (by decide) ?_
  refine lv_iadd hx hb dLAW_145 ?_
  obtain ⟨v5, ev5, hF⟩ := cp_bind hF
  refine lw_sld hx hb hX hbl hS ev5 dLAW_146 ?_
  refine lv_aload_n hx hb dLAW_147 rfl (lv_at hl 4 rfl) ?_
  refine lv_iload hx hb dLAW_148 (lv_at hl 0 rfl) ?_
  refine lv_iconst (v := (2 : Int32)) hx hb dLAW_150 (by decide) ?_
  refine lv_iadd hx hb dLAW_151 ?_
  obtain ⟨v6, ev6, hF⟩ := cp_bind hF
  refine lw_sld hx hb hX hbl hS ev6 dLAW_152 ?_
  obtain ⟨f7, ef7, hF⟩ := cp_bind hF
  obtain ⟨y8, ey8, hF⟩ := cp_bind hF
  refine lw_call (st1 := [.int y8.1, .int y4.1]) hA (va_runV (As := [.int v5, .int v6]) (rest := [.int y4.1]) ⟨hx, hb, hml, hown, htT⟩ (ct_X6_set l G L hJ q 143 v5 v6 y4.2 y8 ey8) ⟨callB_of 2 htT gdX6_set rfl rfl rfl (htT _ tw_8) (htT _ tw_391) hdX6_set ⟨Nat.le_of_ble_eq_true rfl, Nat.le_of_ble_eq_true rfl⟩, (htT _ tw_392), (htT _ tw_393)⟩ ⟨cp_blind, cp_recv hK hP rfl ef7, lw_pre hP hK hN hZ hA hS⟩ rfl rfl hl.1 rfl (lv_room (Nat.le_of_ble_eq_true rfl)) dLAW_153 ⟨by show _ ≤ 601024; omega, by show _ ≤ 7293000; omega⟩) hS (fun H locs hP hS => ?_)
  refine lv_icmp_eq (tgt := 770) hx hb dLAW_156 (by decide) (fun hc9 => ?_) (fun hc9 => ?_)
  · rw [if_pos hc9] at hF
    cases hF
    exact W.widen (by omega) (by omega) (kk _ _ _ hP hS (lv_sub hl [0, 1, 2, 3, 4] rfl))
  · rw [if_neg hc9] at hF
    refine lv_iconst (v := (0 : Int32)) hx hb dLAW_159 (by decide) ?_
    cases hF
def lc_1 (L : cp_Lay) (q N : Nat) (xs : Nat → Int32) (i : Int32) (D : cp_Dt) : Option cp_Dt :=
  (cp_tb N xs (i + (1 : Int32))).bind fun v1 =>
  (cp_fl L 0 0).bind fun f2 =>
  (fn_X0_store L q 0 v1 D).bind fun y3 =>
  (cp_tb N xs (i + (1 : Int32))).bind fun v4 =>
  (cp_fl L 143 6).bind fun f5 =>
  (fn_X6_store L q 143 v4 y3.2).bind fun y6 =>
  if y3.1 = y6.1 then (some y6.2)
  else (none)
set_option maxHeartbeats 4000000 in
set_option maxRecDepth 100000 in
theorem lw_k1 (X : lw_C p l G L s m args c b N xs) (q : Nat) {i : Int32} {res : cp_Dt} (hF : lc_1 L q N xs i D = some res) (hce : cells + 1 ≤ 601024) (hsl : slots + 6 ≤ 7293000) (hP : va_P G vwCl (cp_ws L D) H) (hS : va_S (lw_A s) s.heap H locs) (hl : lv_has ls 7 [(4, .int i), (3, .ref (L.2.1 146)), (2, .ref (L.2.1 143)), (1, .ref (L.2.1 0)), (0, .ref b)]) (kk : ∀ (H : Heap) (locs : List Loc) (ls : Array Slot), va_P G vwCl (cp_ws L res) H → va_S (lw_A s) s.heap H locs → lv_has ls 7 [(4, .int i), (3, .ref (L.2.1 146)), (2, .ref (L.2.1 143)), (1, .ref (L.2.1 0)), (0, .ref b)] → W p l e room_1 s m args below meth c H locs (cells + 1) (slots + 6) Q (F0 m 770 ls [])) : W p l e room_1 s m args below meth c H locs cells slots Q (F0 m 161 ls []) := by
  obtain ⟨hx, hb, hml, hown, htT, hcw, hst, hJ, hA, hK, hN, hZ, hE, hNC, hX, hbl⟩ := X
  unfold lc_1 at hF
  refine lv_aload_n hx hb dLAW_161 rfl (lv_at hl 3 rfl) ?_
  refine lv_aload_n hx hb dLAW_162 rfl (lv_at hl 4 rfl) ?_
  refine lv_iload hx hb dLAW_163 (lv_at hl 0 rfl) ?_
  refine lv_iconst (v := (1 : Int32)) hx hb dLAW_165 (by decide) ?_
  refine lv_iadd hx hb dLAW_166 ?_
  obtain ⟨v1, ev1, hF⟩ := cp_bind hF
  refine lw_sld hx hb hX hbl hS ev1 dLAW_167 ?_
  obtain ⟨f2, ef2, hF⟩ := cp_bind hF
  obtain ⟨y3, ey3, hF⟩ := cp_bind hF
  refine lw_call (st1 := [.int y3.1]) hA (va_runV (As := [.int v1]) (rest := []) ⟨hx, hb, hml, hown, htT⟩ (ct_X0_store l G L hJ q 0 v1 D y3 ey3) ⟨callB_of 1 htT gdX0_store rfl rfl rfl (htT _ tw_1) (htT _ tw_151) hdX0_store ⟨Nat.le_of_ble_eq_true rfl, Nat.le_of_ble_eq_true rfl⟩, (htT _ tw_152), (htT _ tw_153)⟩ ⟨cp_blind, cp_recv hK hP rfl ef2, lw_pre hP hK hN hZ hA hS⟩ rfl rfl hl.1 rfl (lv_room (Nat.le_of_ble_eq_true rfl)) dLAW_168 ⟨by show _ ≤ 601024; omega, by show _ ≤ 7293000; omega⟩) hS (fun H locs hP hS => ?_)
  refine lv_aload_n hx hb dLAW_171 rfl (lv_at hl 2 rfl) ?_
  refine lv_aload_n hx hb dLAW_172 rfl (lv_at hl 4 rfl) ?_
  refine lv_iload hx hb dLAW_173 (lv_at hl 0 rfl) ?_
  refine lv_iconst (v := (1 : Int32)) hx hb dLAW_175 (by decide) ?_
  refine lv_iadd hx hb dLAW_176 ?_
  obtain ⟨v4, ev4, hF⟩ := cp_bind hF
  refine lw_sld hx hb hX hbl hS ev4 dLAW_177 ?_
  obtain ⟨f5, ef5, hF⟩ := cp_bind hF
  obtain ⟨y6, ey6, hF⟩ := cp_bind hF
  refine lw_call (st1 := [.int y6.1, .int y3.1]) hA (va_runV (As := [.int v4]) (rest := [.int y3.1]) ⟨hx, hb, hml, hown, htT⟩ (ct_X6_store l G L hJ q 143 v4 y3.2 y6 ey6) ⟨callB_of 1 htT gdX6_store rfl rfl rfl (htT _ tw_8) (htT _ tw_395) hdX6_store ⟨Nat.le_of_ble_eq_true rfl, Nat.le_of_ble_eq_true rfl⟩, (htT _ tw_396), (htT _ tw_397)⟩ ⟨cp_blind, cp_recv hK hP rfl ef5, lw_pre hP hK hN hZ hA hS⟩ rfl rfl hl.1 rfl (lv_room (Nat.le_of_ble_eq_true rfl)) dLAW_178 ⟨by show _ ≤ 601024; omega, by show _ ≤ 7293000; omega⟩) hS (fun H locs hP hS => ?_)
  refine lv_icmp_eq (tgt := 770) hx hb dLAW_181 (by decide) (fun hc7 => ?_) (fun hc7 => ?_)
  · rw [if_pos hc7] at hF
    cases hF
    exact W.widen (by omega) (by omega) (kk _ _ _ hP hS (lv_sub hl [0, 1, 2, 3, 4] rfl))
  · rw [if_neg hc7] at hF
    refine lv_iconst (v := (0 : Int32)) hx hb dLAW_184 (by decide) ?_
    cases hF
def lc_2 (L : cp_Lay) (q N : Nat) (xs : Nat → Int32) (i : Int32) (D : cp_Dt) : Option cp_Dt :=
  (cp_tb N xs (i + (1 : Int32))).bind fun v1 =>
  (cp_tb N xs (i + (2 : Int32))).bind fun v2 =>
  (cp_tb N xs (i + (3 : Int32))).bind fun v3 =>
  (cp_fl L 0 0).bind fun f4 =>
  (fn_X0_grain L q 0 v1 v2 v3 D).bind fun y5 =>
  (cp_tb N xs (i + (1 : Int32))).bind fun v6 =>
  (cp_tb N xs (i + (2 : Int32))).bind fun v7 =>
  (cp_tb N xs (i + (3 : Int32))).bind fun v8 =>
  (cp_fl L 143 6).bind fun f9 =>
  (fn_X6_grain L q 143 v6 v7 v8 y5.2).bind fun y10 =>
  if y5.1 = y10.1 then (some y10.2)
  else (none)
set_option maxHeartbeats 4000000 in
set_option maxRecDepth 100000 in
theorem lw_k2 (X : lw_C p l G L s m args c b N xs) (q : Nat) {i : Int32} {res : cp_Dt} (hF : lc_2 L q N xs i D = some res) (hce : cells + 1 ≤ 601024) (hsl : slots + 6 ≤ 7293000) (hP : va_P G vwCl (cp_ws L D) H) (hS : va_S (lw_A s) s.heap H locs) (hl : lv_has ls 7 [(4, .int i), (3, .ref (L.2.1 146)), (2, .ref (L.2.1 143)), (1, .ref (L.2.1 0)), (0, .ref b)]) (kk : ∀ (H : Heap) (locs : List Loc) (ls : Array Slot), va_P G vwCl (cp_ws L res) H → va_S (lw_A s) s.heap H locs → lv_has ls 7 [(4, .int i), (3, .ref (L.2.1 146)), (2, .ref (L.2.1 143)), (1, .ref (L.2.1 0)), (0, .ref b)] → W p l e room_1 s m args below meth c H locs (cells + 1) (slots + 6) Q (F0 m 770 ls [])) : W p l e room_1 s m args below meth c H locs cells slots Q (F0 m 186 ls []) := by
  obtain ⟨hx, hb, hml, hown, htT, hcw, hst, hJ, hA, hK, hN, hZ, hE, hNC, hX, hbl⟩ := X
  unfold lc_2 at hF
  refine lv_aload_n hx hb dLAW_186 rfl (lv_at hl 3 rfl) ?_
  refine lv_aload_n hx hb dLAW_187 rfl (lv_at hl 4 rfl) ?_
  refine lv_iload hx hb dLAW_188 (lv_at hl 0 rfl) ?_
  refine lv_iconst (v := (1 : Int32)) hx hb dLAW_190 (by decide) ?_
  refine lv_iadd hx hb dLAW_191 ?_
  obtain ⟨v1, ev1, hF⟩ := cp_bind hF
  refine lw_sld hx hb hX hbl hS ev1 dLAW_192 ?_
  refine lv_aload_n hx hb dLAW_193 rfl (lv_at hl 4 rfl) ?_
  refine lv_iload hx hb dLAW_194 (lv_at hl 0 rfl) ?_
  refine lv_iconst (v := (2 : Int32)) hx hb dLAW_196 (by decide) ?_
  refine lv_iadd hx hb dLAW_197 ?_
  obtain ⟨v2, ev2, hF⟩ := cp_bind hF
  refine lw_sld hx hb hX hbl hS ev2 dLAW_198 ?_
  refine lv_aload_n hx hb dLAW_199 rfl (lv_at hl 4 rfl) ?_
  refine lv_iload hx hb dLAW_200 (lv_at hl 0 rfl) ?_
  refine lv_iconst (v := (3 : Int32)) hx hb dLAW_202 (by decide) ?_
  refine lv_iadd hx hb dLAW_203 ?_
  obtain ⟨v3, ev3, hF⟩ := cp_bind hF
  refine lw_sld hx hb hX hbl hS ev3 dLAW_204 ?_
  obtain ⟨f4, ef4, hF⟩ := cp_bind hF
  obtain ⟨y5, ey5, hF⟩ := cp_bind hF
  refine lw_call (st1 := [.int y5.1]) hA (va_runV (As := [.int v1, .int v2, .int v3]) (rest := []) ⟨hx, hb, hml, hown, htT⟩ (ct_X0_grain l G L hJ q 0 v1 v2 v3 D y5 ey5) ⟨callB_of 3 htT gdX0_grain rfl rfl rfl (htT _ tw_1) (htT _ tw_156) hdX0_grain ⟨Nat.le_of_ble_eq_true rfl, Nat.le_of_ble_eq_true rfl⟩, (htT _ tw_157), (htT _ tw_158)⟩ ⟨cp_blind, cp_recv hK hP rfl ef4, lw_pre hP hK hN hZ hA hS⟩ rfl rfl hl.1 rfl (lv_room (Nat.le_of_ble_eq_true rfl)) dLAW_205 ⟨by show _ ≤ 601024; omega, by show _ ≤ 7293000; omega⟩) hS (fun H locs hP hS => ?_)
  refine lv_aload_n hx hb dLAW_208 rfl (lv_at hl 2 rfl) ?_
  refine lv_aload_n hx hb dLAW_209 rfl (lv_at hl 4 rfl) ?_
  refine lv_iload hx hb dLAW_210 (lv_at hl 0 rfl) ?_
  refine lv_iconst (v := (1 : Int32)) hx hb dLAW_212 (by decide) ?_
  refine lv_iadd hx hb dLAW_213 ?_
  obtain ⟨v6, ev6, hF⟩ := cp_bind hF
  refine lw_sld hx hb hX hbl hS ev6 dLAW_214 ?_
  refine lv_aload_n hx hb dLAW_215 rfl (lv_at hl 4 rfl) ?_
  refine lv_iload hx hb dLAW_216 (lv_at hl 0 rfl) ?_
  refine lv_iconst (v := (2 : Int32)) hx hb dLAW_218 (by decide) ?_
  refine lv_iadd hx hb dLAW_219 ?_
  obtain ⟨v7, ev7, hF⟩ := cp_bind hF
  refine lw_sld hx hb hX hbl hS ev7 dLAW_220 ?_
  refine lv_aload_n hx hb dLAW_221 rfl (lv_at hl 4 rfl) ?_
  refine lv_iload hx hb dLAW_222 (lv_at hl 0 rfl) ?_
  refine lv_iconst (v := (3 : Int32)) hx hb dLAW_224 (by decide) ?_
  refine lv_iadd hx hb dLAW_225 ?_
  obtain ⟨v8, ev8, hF⟩ := cp_bind hF
  refine lw_sld hx hb hX hbl hS ev8 dLAW_226 ?_
  obtain ⟨f9, ef9, hF⟩ := cp_bind hF
  obtain ⟨y10, ey10, hF⟩ := cp_bind hF
  refine lw_call (st1 := [.int y10.1, .int y5.1]) hA (va_runV (As := [.int v6, .int v7, .int v8]) (rest := [.int y5.1]) ⟨hx, hb, hml, hown, htT⟩ (ct_X6_grain l G L hJ q 143 v6 v7 v8 y5.2 y10 ey10) ⟨callB_of 3 htT gdX6_grain rfl rfl rfl (htT _ tw_8) (htT _ tw_400) hdX6_grain ⟨Nat.le_of_ble_eq_true rfl, Nat.le_of_ble_eq_true rfl⟩, (htT _ tw_401), (htT _ tw_402)⟩ ⟨cp_blind, cp_recv hK hP rfl ef9, lw_pre hP hK hN hZ hA hS⟩ rfl rfl hl.1 rfl (lv_room (Nat.le_of_ble_eq_true rfl)) dLAW_227 ⟨by show _ ≤ 601024; omega, by show _ ≤ 7293000; omega⟩) hS (fun H locs hP hS => ?_)
  refine lv_icmp_eq (tgt := 770) hx hb dLAW_230 (by decide) (fun hc11 => ?_) (fun hc11 => ?_)
  · rw [if_pos hc11] at hF
    cases hF
    exact W.widen (by omega) (by omega) (kk _ _ _ hP hS (lv_sub hl [0, 1, 2, 3, 4] rfl))
  · rw [if_neg hc11] at hF
    refine lv_iconst (v := (0 : Int32)) hx hb dLAW_233 (by decide) ?_
    cases hF
def lc_3 (L : cp_Lay) (q N : Nat) (xs : Nat → Int32) (i : Int32) (D : cp_Dt) : Option cp_Dt :=
  (cp_tb N xs (i + (1 : Int32))).bind fun v1 =>
  (cp_tb N xs (i + (2 : Int32))).bind fun v2 =>
  (cp_tb N xs (i + (3 : Int32))).bind fun v3 =>
  (cp_tb N xs (i + (4 : Int32))).bind fun v4 =>
  (hx_L_animal L q 0 v1 v2 v3 v4 146 D).bind fun y5 =>
  (cp_tb N xs (i + (1 : Int32))).bind fun v6 =>
  (cp_tb N xs (i + (2 : Int32))).bind fun v7 =>
  (cp_tb N xs (i + (3 : Int32))).bind fun v8 =>
  (cp_tb N xs (i + (4 : Int32))).bind fun v9 =>
  (cp_fl L 143 6).bind fun f10 =>
  (fn_X6_animal L q 143 v6 v7 v8 v9 y5.2).bind fun y11 =>
  (cp_fl L 143 6).bind fun f12 =>
  (fn_X6_thrown L q 143 y11.2).bind fun y13 =>
  if y13.1 = y5.1 then (if y5.1 = 0 then ((cp_aI L y13.2 3 146 (0 : Int32)).bind fun v16 =>
  if v16 = y11.1 then (some y13.2)
  else none)
  else (some y13.2))
  else (none)
set_option maxHeartbeats 4000000 in
set_option maxRecDepth 100000 in
theorem lw_k3 (X : lw_C p l G L s m args c b N xs) (q : Nat) {i : Int32} {res : cp_Dt} (hF : lc_3 L q N xs i D = some res) (hce : cells + 1 ≤ 601024) (hsl : slots + 6 ≤ 7293000) (hP : va_P G vwCl (cp_ws L D) H) (hS : va_S (lw_A s) s.heap H locs) (hl : lv_has ls 7 [(4, .int i), (3, .ref (L.2.1 146)), (2, .ref (L.2.1 143)), (1, .ref (L.2.1 0)), (0, .ref b)]) (kk : ∀ (H : Heap) (locs : List Loc) (ls : Array Slot), va_P G vwCl (cp_ws L res) H → va_S (lw_A s) s.heap H locs → lv_has ls 7 [(4, .int i), (3, .ref (L.2.1 146)), (2, .ref (L.2.1 143)), (1, .ref (L.2.1 0)), (0, .ref b)] → W p l e room_1 s m args below meth c H locs (cells + 1) (slots + 6) Q (F0 m 770 ls [])) : W p l e room_1 s m args below meth c H locs cells slots Q (F0 m 235 ls []) := by
  obtain ⟨hx, hb, hml, hown, htT, hcw, hst, hJ, hA, hK, hN, hZ, hE, hNC, hX, hbl⟩ := X
  unfold lc_3 at hF
  refine lv_aload_n hx hb dLAW_235 rfl (lv_at hl 3 rfl) ?_
  refine lv_aload_n hx hb dLAW_236 rfl (lv_at hl 4 rfl) ?_
  refine lv_iload hx hb dLAW_237 (lv_at hl 0 rfl) ?_
  refine lv_iconst (v := (1 : Int32)) hx hb dLAW_239 (by decide) ?_
  refine lv_iadd hx hb dLAW_240 ?_
  obtain ⟨v1, ev1, hF⟩ := cp_bind hF
  refine lw_sld hx hb hX hbl hS ev1 dLAW_241 ?_
  refine lv_aload_n hx hb dLAW_242 rfl (lv_at hl 4 rfl) ?_
  refine lv_iload hx hb dLAW_243 (lv_at hl 0 rfl) ?_
  refine lv_iconst (v := (2 : Int32)) hx hb dLAW_245 (by decide) ?_
  refine lv_iadd hx hb dLAW_246 ?_
  obtain ⟨v2, ev2, hF⟩ := cp_bind hF
  refine lw_sld hx hb hX hbl hS ev2 dLAW_247 ?_
  refine lv_aload_n hx hb dLAW_248 rfl (lv_at hl 4 rfl) ?_
  refine lv_iload hx hb dLAW_249 (lv_at hl 0 rfl) ?_
  refine lv_iconst (v := (3 : Int32)) hx hb dLAW_251 (by decide) ?_
  refine lv_iadd hx hb dLAW_252 ?_
  obtain ⟨v3, ev3, hF⟩ := cp_bind hF
  refine lw_sld hx hb hX hbl hS ev3 dLAW_253 ?_
  refine lv_aload_n hx hb dLAW_254 rfl (lv_at hl 4 rfl) ?_
  refine lv_iload hx hb dLAW_255 (lv_at hl 0 rfl) ?_
  refine lv_iconst (v := (4 : Int32)) hx hb dLAW_257 (by decide) ?_
  refine lv_iadd hx hb dLAW_258 ?_
  obtain ⟨v4, ev4, hF⟩ := cp_bind hF
  refine lw_sld hx hb hX hbl hS ev4 dLAW_259 ?_
  refine lv_aload_n hx hb dLAW_260 rfl (lv_at hl 1 rfl) ?_
  obtain ⟨y5, ey5, hF⟩ := cp_bind hF
  refine lw_callM (mc := 1) (ms := 6) (st1 := [.int y5.1]) hA (lw_runH (As := [.ref (L.2.1 0), .int v1, .int v2, .int v3, .int v4, .ref (L.2.1 146)]) (rest := []) ⟨hx, hb, hml, hown, htT⟩ (hc_L_animal l hst G L hJ q 0 v1 v2 v3 v4 146 D y5 ey5) hq_blind rfl rfl (Nat.le_of_ble_eq_true rfl) (Nat.le_of_ble_eq_true rfl) (lw_hws htT hcw (List.mem_of_getElem? (i := 0) rfl)) List.mem_cons_self (htT _ tw_0) (htT _ tw_201) (htT _ tw_202) hdL_animal (lw_preH hP hK hN hZ hE hNC hA hS) rfl rfl hl.1 rfl (lv_room (Nat.le_of_ble_eq_true rfl)) dLAW_261 ⟨by show _ ≤ 601024; omega, by show _ ≤ 7293000; omega⟩) hS (fun H locs hP hS => ?_)
  refine lv_istore (lv' := [(5, .int y5.1), (4, .int i), (3, .ref (L.2.1 146)), (2, .ref (L.2.1 143)), (1, .ref (L.2.1 0)), (0, .ref b)]) hx hb dLAW_264 hl (by decide) rfl (fun ls hl => ?_)
  refine lv_aload_n hx hb dLAW_266 rfl (lv_at hl 3 rfl) ?_
  refine lv_aload_n hx hb dLAW_267 rfl (lv_at hl 5 rfl) ?_
  refine lv_iload hx hb dLAW_268 (lv_at hl 1 rfl) ?_
  refine lv_iconst (v := (1 : Int32)) hx hb dLAW_270 (by decide) ?_
  refine lv_iadd hx hb dLAW_271 ?_
  obtain ⟨v6, ev6, hF⟩ := cp_bind hF
  refine lw_sld hx hb hX hbl hS ev6 dLAW_272 ?_
  refine lv_aload_n hx hb dLAW_273 rfl (lv_at hl 5 rfl) ?_
  refine lv_iload hx hb dLAW_274 (lv_at hl 1 rfl) ?_
  refine lv_iconst (v := (2 : Int32)) hx hb dLAW_276 (by decide) ?_
  refine lv_iadd hx hb dLAW_277 ?_
  obtain ⟨v7, ev7, hF⟩ := cp_bind hF
  refine lw_sld hx hb hX hbl hS ev7 dLAW_278 ?_
  refine lv_aload_n hx hb dLAW_279 rfl (lv_at hl 5 rfl) ?_
  refine lv_iload hx hb dLAW_280 (lv_at hl 1 rfl) ?_
  refine lv_iconst (v := (3 : Int32)) hx hb dLAW_282 (by decide) ?_
  refine lv_iadd hx hb dLAW_283 ?_
  obtain ⟨v8, ev8, hF⟩ := cp_bind hF
  refine lw_sld hx hb hX hbl hS ev8 dLAW_284 ?_
  refine lv_aload_n hx hb dLAW_285 rfl (lv_at hl 5 rfl) ?_
  refine lv_iload hx hb dLAW_286 (lv_at hl 1 rfl) ?_
  refine lv_iconst (v := (4 : Int32)) hx hb dLAW_288 (by decide) ?_
  refine lv_iadd hx hb dLAW_289 ?_
  obtain ⟨v9, ev9, hF⟩ := cp_bind hF
  refine lw_sld hx hb hX hbl hS ev9 dLAW_290 ?_
  obtain ⟨f10, ef10, hF⟩ := cp_bind hF
  obtain ⟨y11, ey11, hF⟩ := cp_bind hF
  refine lw_call (st1 := [.int y11.1]) hA (va_runV (As := [.int v6, .int v7, .int v8, .int v9]) (rest := []) ⟨hx, hb, hml, hown, htT⟩ (ct_X6_animal l G L hJ q 143 v6 v7 v8 v9 y5.2 y11 ey11) ⟨callB_of 4 htT gdX6_animal rfl rfl rfl (htT _ tw_8) (htT _ tw_410) hdX6_animal ⟨Nat.le_of_ble_eq_true rfl, Nat.le_of_ble_eq_true rfl⟩, (htT _ tw_411), (htT _ tw_412)⟩ ⟨cp_blind, cp_recv hK hP rfl ef10, lw_pre hP hK hN hZ hA hS⟩ rfl rfl hl.1 rfl (lv_room (Nat.le_of_ble_eq_true rfl)) dLAW_291 ⟨by show _ ≤ 601024; omega, by show _ ≤ 7293000; omega⟩) hS (fun H locs hP hS => ?_)
  refine lv_istore (lv' := [(6, .int y11.1), (5, .int y5.1), (4, .int i), (3, .ref (L.2.1 146)), (2, .ref (L.2.1 143)), (1, .ref (L.2.1 0)), (0, .ref b)]) hx hb dLAW_294 hl (by decide) rfl (fun ls hl => ?_)
  refine lv_aload_n hx hb dLAW_296 rfl (lv_at hl 4 rfl) ?_
  obtain ⟨f12, ef12, hF⟩ := cp_bind hF
  obtain ⟨y13, ey13, hF⟩ := cp_bind hF
  refine lw_call (st1 := [.int y13.1]) hA (va_runV (As := []) (rest := []) ⟨hx, hb, hml, hown, htT⟩ (ct_X6_thrown l G L hJ q 143 y11.2 y13 ey13) ⟨callB_of 0 htT gdX6_thrown rfl rfl rfl (htT _ tw_8) (htT _ tw_387) hdX6_thrown ⟨Nat.le_of_ble_eq_true rfl, Nat.le_of_ble_eq_true rfl⟩, (htT _ tw_388), (htT _ tw_389)⟩ ⟨cp_blind, cp_recv hK hP rfl ef12, lw_pre hP hK hN hZ hA hS⟩ rfl rfl hl.1 rfl (lv_room (Nat.le_of_ble_eq_true rfl)) dLAW_297 ⟨by show _ ≤ 601024; omega, by show _ ≤ 7293000; omega⟩) hS (fun H locs hP hS => ?_)
  refine lv_iload hx hb dLAW_300 (lv_at hl 1 rfl) ?_
  refine lv_icmp_eq (tgt := 307) hx hb dLAW_302 (by decide) (fun hc14 => ?_) (fun hc14 => ?_)
  · rw [if_pos hc14] at hF
    refine lv_iload hx hb dLAW_307 (lv_at hl 1 rfl) ?_
    refine lv_if_ne (tgt := 324) hx hb dLAW_309 (by decide) (fun hc15 => ?_) (fun hc15 => ?_)
    · rw [if_neg hc15] at hF
      refine lv_goto (tgt := 770) hx hb dLAW_324 (by decide) ?_
      cases hF
      exact W.widen (by omega) (by omega) (kk _ _ _ hP hS (lv_sub hl [2, 3, 4, 5, 6] rfl))
    · rw [if_pos hc15] at hF
      refine lv_aload_n hx hb dLAW_312 rfl (lv_at hl 3 rfl) ?_
      refine lv_iconst (v := (0 : Int32)) hx hb dLAW_313 (by decide) ?_
      obtain ⟨v16, ev16, hF⟩ := cp_bind hF
      refine cp_lald hx hb hK hP ev16 dLAW_314 ?_
      refine lv_iload hx hb dLAW_315 (lv_at hl 0 rfl) ?_
      refine lv_i2l hx hb dLAW_317 rfl ?_
      by_cases hc17 : v16 = y11.1
      · rw [if_pos hc17] at hF
        refine lw_lcmp hx hb hc17 dLAW_318 ?_
        refine lv_if_eq (tgt := 324) hx hb dLAW_319 (by decide) (fun _ => ?_) (fun hc => absurd hc (by decide))
        refine lv_goto (tgt := 770) hx hb dLAW_324 (by decide) ?_
        cases hF
        exact W.widen (by omega) (by omega) (kk _ _ _ hP hS (lv_sub hl [2, 3, 4, 5, 6] rfl))
      · rw [if_neg hc17] at hF
        cases hF
  · rw [if_neg hc14] at hF
    refine lv_iconst (v := (0 : Int32)) hx hb dLAW_305 (by decide) ?_
    cases hF
def lc_4 (L : cp_Lay) (q N : Nat) (xs : Nat → Int32) (i : Int32) (D : cp_Dt) : Option cp_Dt :=
  (cp_tb N xs (i + (1 : Int32))).bind fun v1 =>
  (cp_tb N xs (i + (2 : Int32))).bind fun v2 =>
  (cp_tb N xs (i + (3 : Int32))).bind fun v3 =>
  (cp_tb N xs (i + (4 : Int32))).bind fun v4 =>
  (hx_L_code L q 0 v1 v2 ((v3.toInt64 <<< ((32 : Int32).toInt64 &&& 63)) ||| (v4.toInt64 &&& (4294967295 : Int64))) 146 D).bind fun y5 =>
  (cp_tb N xs (i + (1 : Int32))).bind fun v6 =>
  (cp_tb N xs (i + (2 : Int32))).bind fun v7 =>
  (cp_tb N xs (i + (3 : Int32))).bind fun v8 =>
  (cp_tb N xs (i + (4 : Int32))).bind fun v9 =>
  (cp_fl L 143 6).bind fun f10 =>
  (fn_X6_code L q 143 v6 v7 ((v8.toInt64 <<< ((32 : Int32).toInt64 &&& 63)) ||| (v9.toInt64 &&& (4294967295 : Int64))) y5.2).bind fun y11 =>
  (cp_fl L 143 6).bind fun f12 =>
  (fn_X6_thrown L q 143 y11.2).bind fun y13 =>
  if y13.1 = y5.1 then (if y5.1 = 0 then ((cp_aI L y13.2 3 146 (0 : Int32)).bind fun v16 =>
  if v16 = y11.1 then (some y13.2)
  else none)
  else (some y13.2))
  else (none)
set_option maxHeartbeats 4000000 in
set_option maxRecDepth 100000 in
theorem lw_k4 (X : lw_C p l G L s m args c b N xs) (q : Nat) {i : Int32} {res : cp_Dt} (hF : lc_4 L q N xs i D = some res) (hce : cells + 1 ≤ 601024) (hsl : slots + 6 ≤ 7293000) (hP : va_P G vwCl (cp_ws L D) H) (hS : va_S (lw_A s) s.heap H locs) (hl : lv_has ls 7 [(4, .int i), (3, .ref (L.2.1 146)), (2, .ref (L.2.1 143)), (1, .ref (L.2.1 0)), (0, .ref b)]) (kk : ∀ (H : Heap) (locs : List Loc) (ls : Array Slot), va_P G vwCl (cp_ws L res) H → va_S (lw_A s) s.heap H locs → lv_has ls 7 [(4, .int i), (3, .ref (L.2.1 146)), (2, .ref (L.2.1 143)), (1, .ref (L.2.1 0)), (0, .ref b)] → W p l e room_1 s m args below meth c H locs (cells + 1) (slots + 6) Q (F0 m 770 ls [])) : W p l e room_1 s m args below meth c H locs cells slots Q (F0 m 327 ls []) := by
  obtain ⟨hx, hb, hml, hown, htT, hcw, hst, hJ, hA, hK, hN, hZ, hE, hNC, hX, hbl⟩ := X
  unfold lc_4 at hF
  refine lv_aload_n hx hb dLAW_327 rfl (lv_at hl 3 rfl) ?_
  refine lv_aload_n hx hb dLAW_328 rfl (lv_at hl 4 rfl) ?_
  refine lv_iload hx hb dLAW_329 (lv_at hl 0 rfl) ?_
  refine lv_iconst (v := (1 : Int32)) hx hb dLAW_331 (by decide) ?_
  refine lv_iadd hx hb dLAW_332 ?_
  obtain ⟨v1, ev1, hF⟩ := cp_bind hF
  refine lw_sld hx hb hX hbl hS ev1 dLAW_333 ?_
  refine lv_aload_n hx hb dLAW_334 rfl (lv_at hl 4 rfl) ?_
  refine lv_iload hx hb dLAW_335 (lv_at hl 0 rfl) ?_
  refine lv_iconst (v := (2 : Int32)) hx hb dLAW_337 (by decide) ?_
  refine lv_iadd hx hb dLAW_338 ?_
  obtain ⟨v2, ev2, hF⟩ := cp_bind hF
  refine lw_sld hx hb hX hbl hS ev2 dLAW_339 ?_
  refine lv_aload_n hx hb dLAW_340 rfl (lv_at hl 4 rfl) ?_
  refine lv_iload hx hb dLAW_341 (lv_at hl 0 rfl) ?_
  refine lv_iconst (v := (3 : Int32)) hx hb dLAW_343 (by decide) ?_
  refine lv_iadd hx hb dLAW_344 ?_
  obtain ⟨v3, ev3, hF⟩ := cp_bind hF
  refine lw_sld hx hb hX hbl hS ev3 dLAW_345 ?_
  refine lv_i2l hx hb dLAW_346 rfl ?_
  refine lv_bipush (v := (32 : Int32)) hx hb dLAW_347 (by decide) ?_
  refine lv_lshl hx hb dLAW_349 rfl ?_
  refine lv_aload_n hx hb dLAW_350 rfl (lv_at hl 4 rfl) ?_
  refine lv_iload hx hb dLAW_351 (lv_at hl 0 rfl) ?_
  refine lv_iconst (v := (4 : Int32)) hx hb dLAW_353 (by decide) ?_
  refine lv_iadd hx hb dLAW_354 ?_
  obtain ⟨v4, ev4, hF⟩ := cp_bind hF
  refine lw_sld hx hb hX hbl hS ev4 dLAW_355 ?_
  refine lv_i2l hx hb dLAW_356 rfl ?_
  refine lv_ldc2 (v := (4294967295 : Int64)) hx hb hown (htT _ tw_526) dLAW_357 ?_
  refine lv_land hx hb dLAW_360 ?_
  refine lv_lor hx hb dLAW_361 ?_
  refine lv_aload_n hx hb dLAW_362 rfl (lv_at hl 1 rfl) ?_
  obtain ⟨y5, ey5, hF⟩ := cp_bind hF
  refine lw_callM (mc := 1) (ms := 6) (st1 := [.int y5.1]) hA (lw_runH (As := [.ref (L.2.1 0), .int v1, .int v2, .long ((v3.toInt64 <<< ((32 : Int32).toInt64 &&& 63)) ||| (v4.toInt64 &&& (4294967295 : Int64))), .ref (L.2.1 146)]) (rest := []) ⟨hx, hb, hml, hown, htT⟩ (hc_L_code l hst G L hJ q 0 v1 v2 ((v3.toInt64 <<< ((32 : Int32).toInt64 &&& 63)) ||| (v4.toInt64 &&& (4294967295 : Int64))) 146 D y5 ey5) hq_blind rfl rfl (Nat.le_of_ble_eq_true rfl) (Nat.le_of_ble_eq_true rfl) (lw_hws htT hcw (List.mem_of_getElem? (i := 1) rfl)) List.mem_cons_self (htT _ tw_0) (htT _ tw_245) (htT _ tw_246) hdL_code (lw_preH hP hK hN hZ hE hNC hA hS) rfl rfl hl.1 rfl (lv_room (Nat.le_of_ble_eq_true rfl)) dLAW_363 ⟨by show _ ≤ 601024; omega, by show _ ≤ 7293000; omega⟩) hS (fun H locs hP hS => ?_)
  refine lv_istore (lv' := [(5, .int y5.1), (4, .int i), (3, .ref (L.2.1 146)), (2, .ref (L.2.1 143)), (1, .ref (L.2.1 0)), (0, .ref b)]) hx hb dLAW_366 hl (by decide) rfl (fun ls hl => ?_)
  refine lv_aload_n hx hb dLAW_368 rfl (lv_at hl 3 rfl) ?_
  refine lv_aload_n hx hb dLAW_369 rfl (lv_at hl 5 rfl) ?_
  refine lv_iload hx hb dLAW_370 (lv_at hl 1 rfl) ?_
  refine lv_iconst (v := (1 : Int32)) hx hb dLAW_372 (by decide) ?_
  refine lv_iadd hx hb dLAW_373 ?_
  obtain ⟨v6, ev6, hF⟩ := cp_bind hF
  refine lw_sld hx hb hX hbl hS ev6 dLAW_374 ?_
  refine lv_aload_n hx hb dLAW_375 rfl (lv_at hl 5 rfl) ?_
  refine lv_iload hx hb dLAW_376 (lv_at hl 1 rfl) ?_
  refine lv_iconst (v := (2 : Int32)) hx hb dLAW_378 (by decide) ?_
  refine lv_iadd hx hb dLAW_379 ?_
  obtain ⟨v7, ev7, hF⟩ := cp_bind hF
  refine lw_sld hx hb hX hbl hS ev7 dLAW_380 ?_
  refine lv_aload_n hx hb dLAW_381 rfl (lv_at hl 5 rfl) ?_
  refine lv_iload hx hb dLAW_382 (lv_at hl 1 rfl) ?_
  refine lv_iconst (v := (3 : Int32)) hx hb dLAW_384 (by decide) ?_
  refine lv_iadd hx hb dLAW_385 ?_
  obtain ⟨v8, ev8, hF⟩ := cp_bind hF
  refine lw_sld hx hb hX hbl hS ev8 dLAW_386 ?_
  refine lv_i2l hx hb dLAW_387 rfl ?_
  refine lv_bipush (v := (32 : Int32)) hx hb dLAW_388 (by decide) ?_
  refine lv_lshl hx hb dLAW_390 rfl ?_
  refine lv_aload_n hx hb dLAW_391 rfl (lv_at hl 5 rfl) ?_
  refine lv_iload hx hb dLAW_392 (lv_at hl 1 rfl) ?_
  refine lv_iconst (v := (4 : Int32)) hx hb dLAW_394 (by decide) ?_
  refine lv_iadd hx hb dLAW_395 ?_
  obtain ⟨v9, ev9, hF⟩ := cp_bind hF
  refine lw_sld hx hb hX hbl hS ev9 dLAW_396 ?_
  refine lv_i2l hx hb dLAW_397 rfl ?_
  refine lv_ldc2 (v := (4294967295 : Int64)) hx hb hown (htT _ tw_526) dLAW_398 ?_
  refine lv_land hx hb dLAW_401 ?_
  refine lv_lor hx hb dLAW_402 ?_
  obtain ⟨f10, ef10, hF⟩ := cp_bind hF
  obtain ⟨y11, ey11, hF⟩ := cp_bind hF
  refine lw_call (st1 := [.int y11.1]) hA (va_runV (As := [.int v6, .int v7, .long ((v8.toInt64 <<< ((32 : Int32).toInt64 &&& 63)) ||| (v9.toInt64 &&& (4294967295 : Int64)))]) (rest := []) ⟨hx, hb, hml, hown, htT⟩ (ct_X6_code l G L hJ q 143 v6 v7 ((v8.toInt64 <<< ((32 : Int32).toInt64 &&& 63)) ||| (v9.toInt64 &&& (4294967295 : Int64))) y5.2 y11 ey11) ⟨callB_of 3 htT gdX6_code rfl rfl rfl (htT _ tw_8) (htT _ tw_429) hdX6_code ⟨Nat.le_of_ble_eq_true rfl, Nat.le_of_ble_eq_true rfl⟩, (htT _ tw_430), (htT _ tw_431)⟩ ⟨cp_blind, cp_recv hK hP rfl ef10, lw_pre hP hK hN hZ hA hS⟩ rfl rfl hl.1 rfl (lv_room (Nat.le_of_ble_eq_true rfl)) dLAW_403 ⟨by show _ ≤ 601024; omega, by show _ ≤ 7293000; omega⟩) hS (fun H locs hP hS => ?_)
  refine lv_istore (lv' := [(6, .int y11.1), (5, .int y5.1), (4, .int i), (3, .ref (L.2.1 146)), (2, .ref (L.2.1 143)), (1, .ref (L.2.1 0)), (0, .ref b)]) hx hb dLAW_406 hl (by decide) rfl (fun ls hl => ?_)
  refine lv_aload_n hx hb dLAW_408 rfl (lv_at hl 4 rfl) ?_
  obtain ⟨f12, ef12, hF⟩ := cp_bind hF
  obtain ⟨y13, ey13, hF⟩ := cp_bind hF
  refine lw_call (st1 := [.int y13.1]) hA (va_runV (As := []) (rest := []) ⟨hx, hb, hml, hown, htT⟩ (ct_X6_thrown l G L hJ q 143 y11.2 y13 ey13) ⟨callB_of 0 htT gdX6_thrown rfl rfl rfl (htT _ tw_8) (htT _ tw_387) hdX6_thrown ⟨Nat.le_of_ble_eq_true rfl, Nat.le_of_ble_eq_true rfl⟩, (htT _ tw_388), (htT _ tw_389)⟩ ⟨cp_blind, cp_recv hK hP rfl ef12, lw_pre hP hK hN hZ hA hS⟩ rfl rfl hl.1 rfl (lv_room (Nat.le_of_ble_eq_true rfl)) dLAW_409 ⟨by show _ ≤ 601024; omega, by show _ ≤ 7293000; omega⟩) hS (fun H locs hP hS => ?_)
  refine lv_iload hx hb dLAW_412 (lv_at hl 1 rfl) ?_
  refine lv_icmp_eq (tgt := 419) hx hb dLAW_414 (by decide) (fun hc14 => ?_) (fun hc14 => ?_)
  · rw [if_pos hc14] at hF
    refine lv_iload hx hb dLAW_419 (lv_at hl 1 rfl) ?_
    refine lv_if_ne (tgt := 436) hx hb dLAW_421 (by decide) (fun hc15 => ?_) (fun hc15 => ?_)
    · rw [if_neg hc15] at hF
      refine lv_goto (tgt := 770) hx hb dLAW_436 (by decide) ?_
      cases hF
      exact W.widen (by omega) (by omega) (kk _ _ _ hP hS (lv_sub hl [2, 3, 4, 5, 6] rfl))
    · rw [if_pos hc15] at hF
      refine lv_aload_n hx hb dLAW_424 rfl (lv_at hl 3 rfl) ?_
      refine lv_iconst (v := (0 : Int32)) hx hb dLAW_425 (by decide) ?_
      obtain ⟨v16, ev16, hF⟩ := cp_bind hF
      refine cp_lald hx hb hK hP ev16 dLAW_426 ?_
      refine lv_iload hx hb dLAW_427 (lv_at hl 0 rfl) ?_
      refine lv_i2l hx hb dLAW_429 rfl ?_
      by_cases hc17 : v16 = y11.1
      · rw [if_pos hc17] at hF
        refine lw_lcmp hx hb hc17 dLAW_430 ?_
        refine lv_if_eq (tgt := 436) hx hb dLAW_431 (by decide) (fun _ => ?_) (fun hc => absurd hc (by decide))
        refine lv_goto (tgt := 770) hx hb dLAW_436 (by decide) ?_
        cases hF
        exact W.widen (by omega) (by omega) (kk _ _ _ hP hS (lv_sub hl [2, 3, 4, 5, 6] rfl))
      · rw [if_neg hc17] at hF
        cases hF
  · rw [if_neg hc14] at hF
    refine lv_iconst (v := (0 : Int32)) hx hb dLAW_417 (by decide) ?_
    cases hF
def lc_5 (L : cp_Lay) (q N : Nat) (xs : Nat → Int32) (i : Int32) (D : cp_Dt) : Option cp_Dt :=
  (cp_tb N xs (i + (1 : Int32))).bind fun v1 =>
  (hx_L_tick L q 0 v1 146 D).bind fun y2 =>
  (cp_tb N xs (i + (1 : Int32))).bind fun v3 =>
  (cp_fl L 143 6).bind fun f4 =>
  (fn_X6_tick L q 143 v3 y2.2).bind fun y5 =>
  (cp_fl L 143 6).bind fun f6 =>
  (fn_X6_thrown L q 143 y5.2).bind fun y7 =>
  if y7.1 = y2.1 then (if y2.1 = 0 then ((cp_aI L y7.2 3 146 (0 : Int32)).bind fun v10 =>
  if v10 = y5.1 then (some y7.2)
  else none)
  else (some y7.2))
  else (none)
set_option maxHeartbeats 4000000 in
set_option maxRecDepth 100000 in
theorem lw_k5 (X : lw_C p l G L s m args c b N xs) (q : Nat) {i : Int32} {res : cp_Dt} (hF : lc_5 L q N xs i D = some res) (hce : cells + 1 ≤ 601024) (hsl : slots + 6 ≤ 7293000) (hP : va_P G vwCl (cp_ws L D) H) (hS : va_S (lw_A s) s.heap H locs) (hl : lv_has ls 7 [(4, .int i), (3, .ref (L.2.1 146)), (2, .ref (L.2.1 143)), (1, .ref (L.2.1 0)), (0, .ref b)]) (kk : ∀ (H : Heap) (locs : List Loc) (ls : Array Slot), va_P G vwCl (cp_ws L res) H → va_S (lw_A s) s.heap H locs → lv_has ls 7 [(4, .int i), (3, .ref (L.2.1 146)), (2, .ref (L.2.1 143)), (1, .ref (L.2.1 0)), (0, .ref b)] → W p l e room_1 s m args below meth c H locs (cells + 1) (slots + 6) Q (F0 m 770 ls [])) : W p l e room_1 s m args below meth c H locs cells slots Q (F0 m 439 ls []) := by
  obtain ⟨hx, hb, hml, hown, htT, hcw, hst, hJ, hA, hK, hN, hZ, hE, hNC, hX, hbl⟩ := X
  unfold lc_5 at hF
  refine lv_aload_n hx hb dLAW_439 rfl (lv_at hl 3 rfl) ?_
  refine lv_aload_n hx hb dLAW_440 rfl (lv_at hl 4 rfl) ?_
  refine lv_iload hx hb dLAW_441 (lv_at hl 0 rfl) ?_
  refine lv_iconst (v := (1 : Int32)) hx hb dLAW_443 (by decide) ?_
  refine lv_iadd hx hb dLAW_444 ?_
  obtain ⟨v1, ev1, hF⟩ := cp_bind hF
  refine lw_sld hx hb hX hbl hS ev1 dLAW_445 ?_
  refine lv_aload_n hx hb dLAW_446 rfl (lv_at hl 1 rfl) ?_
  obtain ⟨y2, ey2, hF⟩ := cp_bind hF
  refine lw_callM (mc := 1) (ms := 6) (st1 := [.int y2.1]) hA (lw_runH (As := [.ref (L.2.1 0), .int v1, .ref (L.2.1 146)]) (rest := []) ⟨hx, hb, hml, hown, htT⟩ (hc_L_tick l hst G L hJ q 0 v1 146 D y2 ey2) hq_blind rfl rfl (Nat.le_of_ble_eq_true rfl) (Nat.le_of_ble_eq_true rfl) (lw_hws htT hcw (List.mem_of_getElem? (i := 2) rfl)) List.mem_cons_self (htT _ tw_0) (htT _ tw_253) (htT _ tw_254) hdL_tick (lw_preH hP hK hN hZ hE hNC hA hS) rfl rfl hl.1 rfl (lv_room (Nat.le_of_ble_eq_true rfl)) dLAW_447 ⟨by show _ ≤ 601024; omega, by show _ ≤ 7293000; omega⟩) hS (fun H locs hP hS => ?_)
  refine lv_istore (lv' := [(5, .int y2.1), (4, .int i), (3, .ref (L.2.1 146)), (2, .ref (L.2.1 143)), (1, .ref (L.2.1 0)), (0, .ref b)]) hx hb dLAW_450 hl (by decide) rfl (fun ls hl => ?_)
  refine lv_aload_n hx hb dLAW_452 rfl (lv_at hl 3 rfl) ?_
  refine lv_aload_n hx hb dLAW_453 rfl (lv_at hl 5 rfl) ?_
  refine lv_iload hx hb dLAW_454 (lv_at hl 1 rfl) ?_
  refine lv_iconst (v := (1 : Int32)) hx hb dLAW_456 (by decide) ?_
  refine lv_iadd hx hb dLAW_457 ?_
  obtain ⟨v3, ev3, hF⟩ := cp_bind hF
  refine lw_sld hx hb hX hbl hS ev3 dLAW_458 ?_
  obtain ⟨f4, ef4, hF⟩ := cp_bind hF
  obtain ⟨y5, ey5, hF⟩ := cp_bind hF
  refine lw_call (st1 := [.int y5.1]) hA (va_runV (As := [.int v3]) (rest := []) ⟨hx, hb, hml, hown, htT⟩ (ct_X6_tick l G L hJ q 143 v3 y2.2 y5 ey5) ⟨callB_of 1 htT gdX6_tick rfl rfl rfl (htT _ tw_8) (htT _ tw_433) hdX6_tick ⟨Nat.le_of_ble_eq_true rfl, Nat.le_of_ble_eq_true rfl⟩, (htT _ tw_434), (htT _ tw_435)⟩ ⟨cp_blind, cp_recv hK hP rfl ef4, lw_pre hP hK hN hZ hA hS⟩ rfl rfl hl.1 rfl (lv_room (Nat.le_of_ble_eq_true rfl)) dLAW_459 ⟨by show _ ≤ 601024; omega, by show _ ≤ 7293000; omega⟩) hS (fun H locs hP hS => ?_)
  refine lv_istore (lv' := [(6, .int y5.1), (5, .int y2.1), (4, .int i), (3, .ref (L.2.1 146)), (2, .ref (L.2.1 143)), (1, .ref (L.2.1 0)), (0, .ref b)]) hx hb dLAW_462 hl (by decide) rfl (fun ls hl => ?_)
  refine lv_aload_n hx hb dLAW_464 rfl (lv_at hl 4 rfl) ?_
  obtain ⟨f6, ef6, hF⟩ := cp_bind hF
  obtain ⟨y7, ey7, hF⟩ := cp_bind hF
  refine lw_call (st1 := [.int y7.1]) hA (va_runV (As := []) (rest := []) ⟨hx, hb, hml, hown, htT⟩ (ct_X6_thrown l G L hJ q 143 y5.2 y7 ey7) ⟨callB_of 0 htT gdX6_thrown rfl rfl rfl (htT _ tw_8) (htT _ tw_387) hdX6_thrown ⟨Nat.le_of_ble_eq_true rfl, Nat.le_of_ble_eq_true rfl⟩, (htT _ tw_388), (htT _ tw_389)⟩ ⟨cp_blind, cp_recv hK hP rfl ef6, lw_pre hP hK hN hZ hA hS⟩ rfl rfl hl.1 rfl (lv_room (Nat.le_of_ble_eq_true rfl)) dLAW_465 ⟨by show _ ≤ 601024; omega, by show _ ≤ 7293000; omega⟩) hS (fun H locs hP hS => ?_)
  refine lv_iload hx hb dLAW_468 (lv_at hl 1 rfl) ?_
  refine lv_icmp_eq (tgt := 475) hx hb dLAW_470 (by decide) (fun hc8 => ?_) (fun hc8 => ?_)
  · rw [if_pos hc8] at hF
    refine lv_iload hx hb dLAW_475 (lv_at hl 1 rfl) ?_
    refine lv_if_ne (tgt := 492) hx hb dLAW_477 (by decide) (fun hc9 => ?_) (fun hc9 => ?_)
    · rw [if_neg hc9] at hF
      refine lv_goto (tgt := 770) hx hb dLAW_492 (by decide) ?_
      cases hF
      exact W.widen (by omega) (by omega) (kk _ _ _ hP hS (lv_sub hl [2, 3, 4, 5, 6] rfl))
    · rw [if_pos hc9] at hF
      refine lv_aload_n hx hb dLAW_480 rfl (lv_at hl 3 rfl) ?_
      refine lv_iconst (v := (0 : Int32)) hx hb dLAW_481 (by decide) ?_
      obtain ⟨v10, ev10, hF⟩ := cp_bind hF
      refine cp_lald hx hb hK hP ev10 dLAW_482 ?_
      refine lv_iload hx hb dLAW_483 (lv_at hl 0 rfl) ?_
      refine lv_i2l hx hb dLAW_485 rfl ?_
      by_cases hc11 : v10 = y5.1
      · rw [if_pos hc11] at hF
        refine lw_lcmp hx hb hc11 dLAW_486 ?_
        refine lv_if_eq (tgt := 492) hx hb dLAW_487 (by decide) (fun _ => ?_) (fun hc => absurd hc (by decide))
        refine lv_goto (tgt := 770) hx hb dLAW_492 (by decide) ?_
        cases hF
        exact W.widen (by omega) (by omega) (kk _ _ _ hP hS (lv_sub hl [2, 3, 4, 5, 6] rfl))
      · rw [if_neg hc11] at hF
        cases hF
  · rw [if_neg hc8] at hF
    refine lv_iconst (v := (0 : Int32)) hx hb dLAW_473 (by decide) ?_
    cases hF
def lc_6 (L : cp_Lay) (q N : Nat) (xs : Nat → Int32) (i : Int32) (D : cp_Dt) : Option cp_Dt :=
  (cp_tb N xs (i + (1 : Int32))).bind fun v1 =>
  (cp_tb N xs (i + (2 : Int32))).bind fun v2 =>
  (cp_tb N xs (i + (3 : Int32))).bind fun v3 =>
  (cp_fl L 0 0).bind fun f4 =>
  (fn_X0_cell L q 0 v1 v2 v3 D).bind fun y5 =>
  (cp_tb N xs (i + (1 : Int32))).bind fun v6 =>
  (cp_tb N xs (i + (2 : Int32))).bind fun v7 =>
  (cp_tb N xs (i + (3 : Int32))).bind fun v8 =>
  (cp_fl L 143 6).bind fun f9 =>
  (fn_X6_cell L q 143 v6 v7 v8 y5.2).bind fun y10 =>
  if y5.1 = y10.1 then (some y10.2)
  else (none)
set_option maxHeartbeats 4000000 in
set_option maxRecDepth 100000 in
theorem lw_k6 (X : lw_C p l G L s m args c b N xs) (q : Nat) {i : Int32} {res : cp_Dt} (hF : lc_6 L q N xs i D = some res) (hce : cells + 1 ≤ 601024) (hsl : slots + 6 ≤ 7293000) (hP : va_P G vwCl (cp_ws L D) H) (hS : va_S (lw_A s) s.heap H locs) (hl : lv_has ls 7 [(4, .int i), (3, .ref (L.2.1 146)), (2, .ref (L.2.1 143)), (1, .ref (L.2.1 0)), (0, .ref b)]) (kk : ∀ (H : Heap) (locs : List Loc) (ls : Array Slot), va_P G vwCl (cp_ws L res) H → va_S (lw_A s) s.heap H locs → lv_has ls 7 [(4, .int i), (3, .ref (L.2.1 146)), (2, .ref (L.2.1 143)), (1, .ref (L.2.1 0)), (0, .ref b)] → W p l e room_1 s m args below meth c H locs (cells + 1) (slots + 6) Q (F0 m 770 ls [])) : W p l e room_1 s m args below meth c H locs cells slots Q (F0 m 495 ls []) := by
  obtain ⟨hx, hb, hml, hown, htT, hcw, hst, hJ, hA, hK, hN, hZ, hE, hNC, hX, hbl⟩ := X
  unfold lc_6 at hF
  refine lv_aload_n hx hb dLAW_495 rfl (lv_at hl 3 rfl) ?_
  refine lv_aload_n hx hb dLAW_496 rfl (lv_at hl 4 rfl) ?_
  refine lv_iload hx hb dLAW_497 (lv_at hl 0 rfl) ?_
  refine lv_iconst (v := (1 : Int32)) hx hb dLAW_499 (by decide) ?_
  refine lv_iadd hx hb dLAW_500 ?_
  obtain ⟨v1, ev1, hF⟩ := cp_bind hF
  refine lw_sld hx hb hX hbl hS ev1 dLAW_501 ?_
  refine lv_aload_n hx hb dLAW_502 rfl (lv_at hl 4 rfl) ?_
  refine lv_iload hx hb dLAW_503 (lv_at hl 0 rfl) ?_
  refine lv_iconst (v := (2 : Int32)) hx hb dLAW_505 (by decide) ?_
  refine lv_iadd hx hb dLAW_506 ?_
  obtain ⟨v2, ev2, hF⟩ := cp_bind hF
  refine lw_sld hx hb hX hbl hS ev2 dLAW_507 ?_
  refine lv_aload_n hx hb dLAW_508 rfl (lv_at hl 4 rfl) ?_
  refine lv_iload hx hb dLAW_509 (lv_at hl 0 rfl) ?_
  refine lv_iconst (v := (3 : Int32)) hx hb dLAW_511 (by decide) ?_
  refine lv_iadd hx hb dLAW_512 ?_
  obtain ⟨v3, ev3, hF⟩ := cp_bind hF
  refine lw_sld hx hb hX hbl hS ev3 dLAW_513 ?_
  obtain ⟨f4, ef4, hF⟩ := cp_bind hF
  obtain ⟨y5, ey5, hF⟩ := cp_bind hF
  refine lw_call (st1 := [.int y5.1]) hA (va_runV (As := [.int v1, .int v2, .int v3]) (rest := []) ⟨hx, hb, hml, hown, htT⟩ (ct_X0_cell l G L hJ q 0 v1 v2 v3 D y5 ey5) ⟨callB_of 3 htT gdX0_cell rfl rfl rfl (htT _ tw_1) (htT _ tw_160) hdX0_cell ⟨Nat.le_of_ble_eq_true rfl, Nat.le_of_ble_eq_true rfl⟩, (htT _ tw_161), (htT _ tw_162)⟩ ⟨cp_blind, cp_recv hK hP rfl ef4, lw_pre hP hK hN hZ hA hS⟩ rfl rfl hl.1 rfl (lv_room (Nat.le_of_ble_eq_true rfl)) dLAW_514 ⟨by show _ ≤ 601024; omega, by show _ ≤ 7293000; omega⟩) hS (fun H locs hP hS => ?_)
  refine lv_aload_n hx hb dLAW_517 rfl (lv_at hl 2 rfl) ?_
  refine lv_aload_n hx hb dLAW_518 rfl (lv_at hl 4 rfl) ?_
  refine lv_iload hx hb dLAW_519 (lv_at hl 0 rfl) ?_
  refine lv_iconst (v := (1 : Int32)) hx hb dLAW_521 (by decide) ?_
  refine lv_iadd hx hb dLAW_522 ?_
  obtain ⟨v6, ev6, hF⟩ := cp_bind hF
  refine lw_sld hx hb hX hbl hS ev6 dLAW_523 ?_
  refine lv_aload_n hx hb dLAW_524 rfl (lv_at hl 4 rfl) ?_
  refine lv_iload hx hb dLAW_525 (lv_at hl 0 rfl) ?_
  refine lv_iconst (v := (2 : Int32)) hx hb dLAW_527 (by decide) ?_
  refine lv_iadd hx hb dLAW_528 ?_
  obtain ⟨v7, ev7, hF⟩ := cp_bind hF
  refine lw_sld hx hb hX hbl hS ev7 dLAW_529 ?_
  refine lv_aload_n hx hb dLAW_530 rfl (lv_at hl 4 rfl) ?_
  refine lv_iload hx hb dLAW_531 (lv_at hl 0 rfl) ?_
  refine lv_iconst (v := (3 : Int32)) hx hb dLAW_533 (by decide) ?_
  refine lv_iadd hx hb dLAW_534 ?_
  obtain ⟨v8, ev8, hF⟩ := cp_bind hF
  refine lw_sld hx hb hX hbl hS ev8 dLAW_535 ?_
  obtain ⟨f9, ef9, hF⟩ := cp_bind hF
  obtain ⟨y10, ey10, hF⟩ := cp_bind hF
  refine lw_call (st1 := [.int y10.1, .int y5.1]) hA (va_runV (As := [.int v6, .int v7, .int v8]) (rest := [.int y5.1]) ⟨hx, hb, hml, hown, htT⟩ (ct_X6_cell l G L hJ q 143 v6 v7 v8 y5.2 y10 ey10) ⟨callB_of 3 htT gdX6_cell rfl rfl rfl (htT _ tw_8) (htT _ tw_495) hdX6_cell ⟨Nat.le_of_ble_eq_true rfl, Nat.le_of_ble_eq_true rfl⟩, (htT _ tw_496), (htT _ tw_497)⟩ ⟨cp_blind, cp_recv hK hP rfl ef9, lw_pre hP hK hN hZ hA hS⟩ rfl rfl hl.1 rfl (lv_room (Nat.le_of_ble_eq_true rfl)) dLAW_536 ⟨by show _ ≤ 601024; omega, by show _ ≤ 7293000; omega⟩) hS (fun H locs hP hS => ?_)
  refine lv_icmp_eq (tgt := 770) hx hb dLAW_539 (by decide) (fun hc11 => ?_) (fun hc11 => ?_)
  · rw [if_pos hc11] at hF
    cases hF
    exact W.widen (by omega) (by omega) (kk _ _ _ hP hS (lv_sub hl [0, 1, 2, 3, 4] rfl))
  · rw [if_neg hc11] at hF
    refine lv_iconst (v := (0 : Int32)) hx hb dLAW_542 (by decide) ?_
    cases hF
def lc_7 (L : cp_Lay) (q N : Nat) (xs : Nat → Int32) (i : Int32) (D : cp_Dt) : Option cp_Dt :=
  (cp_tb N xs (i + (1 : Int32))).bind fun v1 =>
  (cp_tb N xs (i + (2 : Int32))).bind fun v2 =>
  (cp_fl L 0 0).bind fun f3 =>
  (fn_X0_field L q 0 v1 v2 D).bind fun y4 =>
  (cp_tb N xs (i + (1 : Int32))).bind fun v5 =>
  (cp_tb N xs (i + (2 : Int32))).bind fun v6 =>
  (cp_fl L 143 6).bind fun f7 =>
  (fn_X6_field L q 143 v5 v6 y4.2).bind fun y8 =>
  if y4.1 = y8.1 then (some y8.2)
  else (none)
set_option maxHeartbeats 4000000 in
set_option maxRecDepth 100000 in
theorem lw_k7 (X : lw_C p l G L s m args c b N xs) (q : Nat) {i : Int32} {res : cp_Dt} (hF : lc_7 L q N xs i D = some res) (hce : cells + 1 ≤ 601024) (hsl : slots + 6 ≤ 7293000) (hP : va_P G vwCl (cp_ws L D) H) (hS : va_S (lw_A s) s.heap H locs) (hl : lv_has ls 7 [(4, .int i), (3, .ref (L.2.1 146)), (2, .ref (L.2.1 143)), (1, .ref (L.2.1 0)), (0, .ref b)]) (kk : ∀ (H : Heap) (locs : List Loc) (ls : Array Slot), va_P G vwCl (cp_ws L res) H → va_S (lw_A s) s.heap H locs → lv_has ls 7 [(4, .int i), (3, .ref (L.2.1 146)), (2, .ref (L.2.1 143)), (1, .ref (L.2.1 0)), (0, .ref b)] → W p l e room_1 s m args below meth c H locs (cells + 1) (slots + 6) Q (F0 m 770 ls [])) : W p l e room_1 s m args below meth c H locs cells slots Q (F0 m 544 ls []) := by
  obtain ⟨hx, hb, hml, hown, htT, hcw, hst, hJ, hA, hK, hN, hZ, hE, hNC, hX, hbl⟩ := X
  unfold lc_7 at hF
  refine lv_aload_n hx hb dLAW_544 rfl (lv_at hl 3 rfl) ?_
  refine lv_aload_n hx hb dLAW_545 rfl (lv_at hl 4 rfl) ?_
  refine lv_iload hx hb dLAW_546 (lv_at hl 0 rfl) ?_
  refine lv_iconst (v := (1 : Int32)) hx hb dLAW_548 (by decide) ?_
  refine lv_iadd hx hb dLAW_549 ?_
  obtain ⟨v1, ev1, hF⟩ := cp_bind hF
  refine lw_sld hx hb hX hbl hS ev1 dLAW_550 ?_
  refine lv_aload_n hx hb dLAW_551 rfl (lv_at hl 4 rfl) ?_
  refine lv_iload hx hb dLAW_552 (lv_at hl 0 rfl) ?_
  refine lv_iconst (v := (2 : Int32)) hx hb dLAW_554 (by decide) ?_
  refine lv_iadd hx hb dLAW_555 ?_
  obtain ⟨v2, ev2, hF⟩ := cp_bind hF
  refine lw_sld hx hb hX hbl hS ev2 dLAW_556 ?_
  obtain ⟨f3, ef3, hF⟩ := cp_bind hF
  obtain ⟨y4, ey4, hF⟩ := cp_bind hF
  refine lw_call (st1 := [.int y4.1]) hA (va_runV (As := [.int v1, .int v2]) (rest := []) ⟨hx, hb, hml, hown, htT⟩ (ct_X0_field l G L hJ q 0 v1 v2 D y4 ey4) ⟨callB_of 2 htT gdX0_field rfl rfl rfl (htT _ tw_1) (htT _ tw_164) hdX0_field ⟨Nat.le_of_ble_eq_true rfl, Nat.le_of_ble_eq_true rfl⟩, (htT _ tw_165), (htT _ tw_166)⟩ ⟨cp_blind, cp_recv hK hP rfl ef3, lw_pre hP hK hN hZ hA hS⟩ rfl rfl hl.1 rfl (lv_room (Nat.le_of_ble_eq_true rfl)) dLAW_557 ⟨by show _ ≤ 601024; omega, by show _ ≤ 7293000; omega⟩) hS (fun H locs hP hS => ?_)
  refine lv_aload_n hx hb dLAW_560 rfl (lv_at hl 2 rfl) ?_
  refine lv_aload_n hx hb dLAW_561 rfl (lv_at hl 4 rfl) ?_
  refine lv_iload hx hb dLAW_562 (lv_at hl 0 rfl) ?_
  refine lv_iconst (v := (1 : Int32)) hx hb dLAW_564 (by decide) ?_
  refine lv_iadd hx hb dLAW_565 ?_
  obtain ⟨v5, ev5, hF⟩ := cp_bind hF
  refine lw_sld hx hb hX hbl hS ev5 dLAW_566 ?_
  refine lv_aload_n hx hb dLAW_567 rfl (lv_at hl 4 rfl) ?_
  refine lv_iload hx hb dLAW_568 (lv_at hl 0 rfl) ?_
  refine lv_iconst (v := (2 : Int32)) hx hb dLAW_570 (by decide) ?_
  refine lv_iadd hx hb dLAW_571 ?_
  obtain ⟨v6, ev6, hF⟩ := cp_bind hF
  refine lw_sld hx hb hX hbl hS ev6 dLAW_572 ?_
  obtain ⟨f7, ef7, hF⟩ := cp_bind hF
  obtain ⟨y8, ey8, hF⟩ := cp_bind hF
  refine lw_call (st1 := [.int y8.1, .int y4.1]) hA (va_runV (As := [.int v5, .int v6]) (rest := [.int y4.1]) ⟨hx, hb, hml, hown, htT⟩ (ct_X6_field l G L hJ q 143 v5 v6 y4.2 y8 ey8) ⟨callB_of 2 htT gdX6_field rfl rfl rfl (htT _ tw_8) (htT _ tw_499) hdX6_field ⟨Nat.le_of_ble_eq_true rfl, Nat.le_of_ble_eq_true rfl⟩, (htT _ tw_500), (htT _ tw_501)⟩ ⟨cp_blind, cp_recv hK hP rfl ef7, lw_pre hP hK hN hZ hA hS⟩ rfl rfl hl.1 rfl (lv_room (Nat.le_of_ble_eq_true rfl)) dLAW_573 ⟨by show _ ≤ 601024; omega, by show _ ≤ 7293000; omega⟩) hS (fun H locs hP hS => ?_)
  refine lv_icmp_eq (tgt := 770) hx hb dLAW_576 (by decide) (fun hc9 => ?_) (fun hc9 => ?_)
  · rw [if_pos hc9] at hF
    cases hF
    exact W.widen (by omega) (by omega) (kk _ _ _ hP hS (lv_sub hl [0, 1, 2, 3, 4] rfl))
  · rw [if_neg hc9] at hF
    refine lv_iconst (v := (0 : Int32)) hx hb dLAW_579 (by decide) ?_
    cases hF
def lc_8 (L : cp_Lay) (q N : Nat) (xs : Nat → Int32) (i : Int32) (D : cp_Dt) : Option cp_Dt :=
  (cp_tb N xs (i + (1 : Int32))).bind fun v1 =>
  (cp_tb N xs (i + (2 : Int32))).bind fun v2 =>
  if v2 = 0 then ((cp_tb N xs (i + (3 : Int32))).bind fun v4 =>
  (hx_L_inner L q 0 v1 (0 : Int32) v4 146 D).bind fun y5 =>
  (cp_tb N xs (i + (1 : Int32))).bind fun v6 =>
  (cp_tb N xs (i + (2 : Int32))).bind fun v7 =>
  if v7 = 0 then ((cp_tb N xs (i + (3 : Int32))).bind fun v9 =>
  (cp_fl L 143 6).bind fun f10 =>
  (fn_X6_inner L q 143 v6 (0 : Int32) v9 y5.2).bind fun y11 =>
  (cp_fl L 143 6).bind fun f12 =>
  (fn_X6_thrown L q 143 y11.2).bind fun y13 =>
  if y13.1 = y5.1 then (if y5.1 = 0 then ((cp_aI L y13.2 3 146 (0 : Int32)).bind fun v16 =>
  if v16 = y11.1 then (some y13.2)
  else none)
  else (some y13.2))
  else (none))
  else ((cp_tb N xs (i + (3 : Int32))).bind fun v18 =>
  (cp_fl L 143 6).bind fun f19 =>
  (fn_X6_inner L q 143 v6 (1 : Int32) v18 y5.2).bind fun y20 =>
  (cp_fl L 143 6).bind fun f21 =>
  (fn_X6_thrown L q 143 y20.2).bind fun y22 =>
  if y22.1 = y5.1 then (if y5.1 = 0 then ((cp_aI L y22.2 3 146 (0 : Int32)).bind fun v25 =>
  if v25 = y20.1 then (some y22.2)
  else none)
  else (some y22.2))
  else (none)))
  else ((cp_tb N xs (i + (3 : Int32))).bind fun v27 =>
  (hx_L_inner L q 0 v1 (1 : Int32) v27 146 D).bind fun y28 =>
  (cp_tb N xs (i + (1 : Int32))).bind fun v29 =>
  (cp_tb N xs (i + (2 : Int32))).bind fun v30 =>
  if v30 = 0 then ((cp_tb N xs (i + (3 : Int32))).bind fun v32 =>
  (cp_fl L 143 6).bind fun f33 =>
  (fn_X6_inner L q 143 v29 (0 : Int32) v32 y28.2).bind fun y34 =>
  (cp_fl L 143 6).bind fun f35 =>
  (fn_X6_thrown L q 143 y34.2).bind fun y36 =>
  if y36.1 = y28.1 then (if y28.1 = 0 then ((cp_aI L y36.2 3 146 (0 : Int32)).bind fun v39 =>
  if v39 = y34.1 then (some y36.2)
  else none)
  else (some y36.2))
  else (none))
  else ((cp_tb N xs (i + (3 : Int32))).bind fun v41 =>
  (cp_fl L 143 6).bind fun f42 =>
  (fn_X6_inner L q 143 v29 (1 : Int32) v41 y28.2).bind fun y43 =>
  (cp_fl L 143 6).bind fun f44 =>
  (fn_X6_thrown L q 143 y43.2).bind fun y45 =>
  if y45.1 = y28.1 then (if y28.1 = 0 then ((cp_aI L y45.2 3 146 (0 : Int32)).bind fun v48 =>
  if v48 = y43.1 then (some y45.2)
  else none)
  else (some y45.2))
  else (none)))
set_option maxHeartbeats 4000000 in
set_option maxRecDepth 100000 in
theorem lw_k8 (X : lw_C p l G L s m args c b N xs) (q : Nat) {i : Int32} {res : cp_Dt} (hF : lc_8 L q N xs i D = some res) (hce : cells + 1 ≤ 601024) (hsl : slots + 6 ≤ 7293000) (hP : va_P G vwCl (cp_ws L D) H) (hS : va_S (lw_A s) s.heap H locs) (hl : lv_has ls 7 [(4, .int i), (3, .ref (L.2.1 146)), (2, .ref (L.2.1 143)), (1, .ref (L.2.1 0)), (0, .ref b)]) (kk : ∀ (H : Heap) (locs : List Loc) (ls : Array Slot), va_P G vwCl (cp_ws L res) H → va_S (lw_A s) s.heap H locs → lv_has ls 7 [(4, .int i), (3, .ref (L.2.1 146)), (2, .ref (L.2.1 143)), (1, .ref (L.2.1 0)), (0, .ref b)] → W p l e room_1 s m args below meth c H locs (cells + 1) (slots + 6) Q (F0 m 770 ls [])) : W p l e room_1 s m args below meth c H locs cells slots Q (F0 m 581 ls []) := by
  obtain ⟨hx, hb, hml, hown, htT, hcw, hst, hJ, hA, hK, hN, hZ, hE, hNC, hX, hbl⟩ := X
  unfold lc_8 at hF
  refine lv_aload_n hx hb dLAW_581 rfl (lv_at hl 3 rfl) ?_
  refine lv_aload_n hx hb dLAW_582 rfl (lv_at hl 4 rfl) ?_
  refine lv_iload hx hb dLAW_583 (lv_at hl 0 rfl) ?_
  refine lv_iconst (v := (1 : Int32)) hx hb dLAW_585 (by decide) ?_
  refine lv_iadd hx hb dLAW_586 ?_
  obtain ⟨v1, ev1, hF⟩ := cp_bind hF
  refine lw_sld hx hb hX hbl hS ev1 dLAW_587 ?_
  refine lv_aload_n hx hb dLAW_588 rfl (lv_at hl 4 rfl) ?_
  refine lv_iload hx hb dLAW_589 (lv_at hl 0 rfl) ?_
  refine lv_iconst (v := (2 : Int32)) hx hb dLAW_591 (by decide) ?_
  refine lv_iadd hx hb dLAW_592 ?_
  obtain ⟨v2, ev2, hF⟩ := cp_bind hF
  refine lw_sld hx hb hX hbl hS ev2 dLAW_593 ?_
  refine lv_if_eq (tgt := 601) hx hb dLAW_594 (by decide) (fun hc3 => ?_) (fun hc3 => ?_)
  · rw [if_pos hc3] at hF
    refine lv_iconst (v := (0 : Int32)) hx hb dLAW_601 (by decide) ?_
    refine lv_aload_n hx hb dLAW_602 rfl (lv_at hl 4 rfl) ?_
    refine lv_iload hx hb dLAW_603 (lv_at hl 0 rfl) ?_
    refine lv_iconst (v := (3 : Int32)) hx hb dLAW_605 (by decide) ?_
    refine lv_iadd hx hb dLAW_606 ?_
    obtain ⟨v4, ev4, hF⟩ := cp_bind hF
    refine lw_sld hx hb hX hbl hS ev4 dLAW_607 ?_
    refine lv_aload_n hx hb dLAW_608 rfl (lv_at hl 1 rfl) ?_
    obtain ⟨y5, ey5, hF⟩ := cp_bind hF
    refine lw_callM (mc := 1) (ms := 6) (st1 := [.int y5.1]) hA (lw_runH (As := [.ref (L.2.1 0), .int v1, .int (0 : Int32), .int v4, .ref (L.2.1 146)]) (rest := []) ⟨hx, hb, hml, hown, htT⟩ (hc_L_inner l hst G L hJ q 0 v1 (0 : Int32) v4 146 D y5 ey5) hq_blind rfl rfl (Nat.le_of_ble_eq_true rfl) (Nat.le_of_ble_eq_true rfl) (lw_hws htT hcw (List.mem_of_getElem? (i := 3) rfl)) List.mem_cons_self (htT _ tw_0) (htT _ tw_343) (htT _ tw_344) hdL_inner (lw_preH hP hK hN hZ hE hNC hA hS) rfl rfl hl.1 rfl (lv_room (Nat.le_of_ble_eq_true rfl)) dLAW_609 ⟨by show _ ≤ 601024; omega, by show _ ≤ 7293000; omega⟩) hS (fun H locs hP hS => ?_)
    refine lv_istore (lv' := [(5, .int y5.1), (4, .int i), (3, .ref (L.2.1 146)), (2, .ref (L.2.1 143)), (1, .ref (L.2.1 0)), (0, .ref b)]) hx hb dLAW_612 hl (by decide) rfl (fun ls hl => ?_)
    refine lv_aload_n hx hb dLAW_614 rfl (lv_at hl 3 rfl) ?_
    refine lv_aload_n hx hb dLAW_615 rfl (lv_at hl 5 rfl) ?_
    refine lv_iload hx hb dLAW_616 (lv_at hl 1 rfl) ?_
    refine lv_iconst (v := (1 : Int32)) hx hb dLAW_618 (by decide) ?_
    refine lv_iadd hx hb dLAW_619 ?_
    obtain ⟨v6, ev6, hF⟩ := cp_bind hF
    refine lw_sld hx hb hX hbl hS ev6 dLAW_620 ?_
    refine lv_aload_n hx hb dLAW_621 rfl (lv_at hl 5 rfl) ?_
    refine lv_iload hx hb dLAW_622 (lv_at hl 1 rfl) ?_
    refine lv_iconst (v := (2 : Int32)) hx hb dLAW_624 (by decide) ?_
    refine lv_iadd hx hb dLAW_625 ?_
    obtain ⟨v7, ev7, hF⟩ := cp_bind hF
    refine lw_sld hx hb hX hbl hS ev7 dLAW_626 ?_
    refine lv_if_eq (tgt := 634) hx hb dLAW_627 (by decide) (fun hc8 => ?_) (fun hc8 => ?_)
    · rw [if_pos hc8] at hF
      refine lv_iconst (v := (0 : Int32)) hx hb dLAW_634 (by decide) ?_
      refine lv_aload_n hx hb dLAW_635 rfl (lv_at hl 5 rfl) ?_
      refine lv_iload hx hb dLAW_636 (lv_at hl 1 rfl) ?_
      refine lv_iconst (v := (3 : Int32)) hx hb dLAW_638 (by decide) ?_
      refine lv_iadd hx hb dLAW_639 ?_
      obtain ⟨v9, ev9, hF⟩ := cp_bind hF
      refine lw_sld hx hb hX hbl hS ev9 dLAW_640 ?_
      obtain ⟨f10, ef10, hF⟩ := cp_bind hF
      obtain ⟨y11, ey11, hF⟩ := cp_bind hF
      refine lw_call (st1 := [.int y11.1]) hA (va_runV (As := [.int v6, .int (0 : Int32), .int v9]) (rest := []) ⟨hx, hb, hml, hown, htT⟩ (ct_X6_inner l G L hJ q 143 v6 (0 : Int32) v9 y5.2 y11 ey11) ⟨callB_of 3 htT gdX6_inner rfl rfl rfl (htT _ tw_8) (htT _ tw_503) hdX6_inner ⟨Nat.le_of_ble_eq_true rfl, Nat.le_of_ble_eq_true rfl⟩, (htT _ tw_504), (htT _ tw_505)⟩ ⟨cp_blind, cp_recv hK hP rfl ef10, lw_pre hP hK hN hZ hA hS⟩ rfl rfl hl.1 rfl (lv_room (Nat.le_of_ble_eq_true rfl)) dLAW_641 ⟨by show _ ≤ 601024; omega, by show _ ≤ 7293000; omega⟩) hS (fun H locs hP hS => ?_)
      refine lv_istore (lv' := [(6, .int y11.1), (5, .int y5.1), (4, .int i), (3, .ref (L.2.1 146)), (2, .ref (L.2.1 143)), (1, .ref (L.2.1 0)), (0, .ref b)]) hx hb dLAW_644 hl (by decide) rfl (fun ls hl => ?_)
      refine lv_aload_n hx hb dLAW_646 rfl (lv_at hl 4 rfl) ?_
      obtain ⟨f12, ef12, hF⟩ := cp_bind hF
      obtain ⟨y13, ey13, hF⟩ := cp_bind hF
      refine lw_call (st1 := [.int y13.1]) hA (va_runV (As := []) (rest := []) ⟨hx, hb, hml, hown, htT⟩ (ct_X6_thrown l G L hJ q 143 y11.2 y13 ey13) ⟨callB_of 0 htT gdX6_thrown rfl rfl rfl (htT _ tw_8) (htT _ tw_387) hdX6_thrown ⟨Nat.le_of_ble_eq_true rfl, Nat.le_of_ble_eq_true rfl⟩, (htT _ tw_388), (htT _ tw_389)⟩ ⟨cp_blind, cp_recv hK hP rfl ef12, lw_pre hP hK hN hZ hA hS⟩ rfl rfl hl.1 rfl (lv_room (Nat.le_of_ble_eq_true rfl)) dLAW_647 ⟨by show _ ≤ 601024; omega, by show _ ≤ 7293000; omega⟩) hS (fun H locs hP hS => ?_)
      refine lv_iload hx hb dLAW_650 (lv_at hl 1 rfl) ?_
      refine lv_icmp_eq (tgt := 657) hx hb dLAW_652 (by decide) (fun hc14 => ?_) (fun hc14 => ?_)
      · rw [if_pos hc14] at hF
        refine lv_iload hx hb dLAW_657 (lv_at hl 1 rfl) ?_
        refine lv_if_ne (tgt := 674) hx hb dLAW_659 (by decide) (fun hc15 => ?_) (fun hc15 => ?_)
        · rw [if_neg hc15] at hF
          refine lv_goto (tgt := 770) hx hb dLAW_674 (by decide) ?_
          cases hF
          exact W.widen (by omega) (by omega) (kk _ _ _ hP hS (lv_sub hl [2, 3, 4, 5, 6] rfl))
        · rw [if_pos hc15] at hF
          refine lv_aload_n hx hb dLAW_662 rfl (lv_at hl 3 rfl) ?_
          refine lv_iconst (v := (0 : Int32)) hx hb dLAW_663 (by decide) ?_
          obtain ⟨v16, ev16, hF⟩ := cp_bind hF
          refine cp_lald hx hb hK hP ev16 dLAW_664 ?_
          refine lv_iload hx hb dLAW_665 (lv_at hl 0 rfl) ?_
          refine lv_i2l hx hb dLAW_667 rfl ?_
          by_cases hc17 : v16 = y11.1
          · rw [if_pos hc17] at hF
            refine lw_lcmp hx hb hc17 dLAW_668 ?_
            refine lv_if_eq (tgt := 674) hx hb dLAW_669 (by decide) (fun _ => ?_) (fun hc => absurd hc (by decide))
            refine lv_goto (tgt := 770) hx hb dLAW_674 (by decide) ?_
            cases hF
            exact W.widen (by omega) (by omega) (kk _ _ _ hP hS (lv_sub hl [2, 3, 4, 5, 6] rfl))
          · rw [if_neg hc17] at hF
            cases hF
      · rw [if_neg hc14] at hF
        refine lv_iconst (v := (0 : Int32)) hx hb dLAW_655 (by decide) ?_
        cases hF
    · rw [if_neg hc8] at hF
      refine lv_iconst (v := (1 : Int32)) hx hb dLAW_630 (by decide) ?_
      refine lv_goto (tgt := 635) hx hb dLAW_631 (by decide) ?_
      refine lv_aload_n hx hb dLAW_635 rfl (lv_at hl 5 rfl) ?_
      refine lv_iload hx hb dLAW_636 (lv_at hl 1 rfl) ?_
      refine lv_iconst (v := (3 : Int32)) hx hb dLAW_638 (by decide) ?_
      refine lv_iadd hx hb dLAW_639 ?_
      obtain ⟨v18, ev18, hF⟩ := cp_bind hF
      refine lw_sld hx hb hX hbl hS ev18 dLAW_640 ?_
      obtain ⟨f19, ef19, hF⟩ := cp_bind hF
      obtain ⟨y20, ey20, hF⟩ := cp_bind hF
      refine lw_call (st1 := [.int y20.1]) hA (va_runV (As := [.int v6, .int (1 : Int32), .int v18]) (rest := []) ⟨hx, hb, hml, hown, htT⟩ (ct_X6_inner l G L hJ q 143 v6 (1 : Int32) v18 y5.2 y20 ey20) ⟨callB_of 3 htT gdX6_inner rfl rfl rfl (htT _ tw_8) (htT _ tw_503) hdX6_inner ⟨Nat.le_of_ble_eq_true rfl, Nat.le_of_ble_eq_true rfl⟩, (htT _ tw_504), (htT _ tw_505)⟩ ⟨cp_blind, cp_recv hK hP rfl ef19, lw_pre hP hK hN hZ hA hS⟩ rfl rfl hl.1 rfl (lv_room (Nat.le_of_ble_eq_true rfl)) dLAW_641 ⟨by show _ ≤ 601024; omega, by show _ ≤ 7293000; omega⟩) hS (fun H locs hP hS => ?_)
      refine lv_istore (lv' := [(6, .int y20.1), (5, .int y5.1), (4, .int i), (3, .ref (L.2.1 146)), (2, .ref (L.2.1 143)), (1, .ref (L.2.1 0)), (0, .ref b)]) hx hb dLAW_644 hl (by decide) rfl (fun ls hl => ?_)
      refine lv_aload_n hx hb dLAW_646 rfl (lv_at hl 4 rfl) ?_
      obtain ⟨f21, ef21, hF⟩ := cp_bind hF
      obtain ⟨y22, ey22, hF⟩ := cp_bind hF
      refine lw_call (st1 := [.int y22.1]) hA (va_runV (As := []) (rest := []) ⟨hx, hb, hml, hown, htT⟩ (ct_X6_thrown l G L hJ q 143 y20.2 y22 ey22) ⟨callB_of 0 htT gdX6_thrown rfl rfl rfl (htT _ tw_8) (htT _ tw_387) hdX6_thrown ⟨Nat.le_of_ble_eq_true rfl, Nat.le_of_ble_eq_true rfl⟩, (htT _ tw_388), (htT _ tw_389)⟩ ⟨cp_blind, cp_recv hK hP rfl ef21, lw_pre hP hK hN hZ hA hS⟩ rfl rfl hl.1 rfl (lv_room (Nat.le_of_ble_eq_true rfl)) dLAW_647 ⟨by show _ ≤ 601024; omega, by show _ ≤ 7293000; omega⟩) hS (fun H locs hP hS => ?_)
      refine lv_iload hx hb dLAW_650 (lv_at hl 1 rfl) ?_
      refine lv_icmp_eq (tgt := 657) hx hb dLAW_652 (by decide) (fun hc23 => ?_) (fun hc23 => ?_)
      · rw [if_pos hc23] at hF
        refine lv_iload hx hb dLAW_657 (lv_at hl 1 rfl) ?_
        refine lv_if_ne (tgt := 674) hx hb dLAW_659 (by decide) (fun hc24 => ?_) (fun hc24 => ?_)
        · rw [if_neg hc24] at hF
          refine lv_goto (tgt := 770) hx hb dLAW_674 (by decide) ?_
          cases hF
          exact W.widen (by omega) (by omega) (kk _ _ _ hP hS (lv_sub hl [2, 3, 4, 5, 6] rfl))
        · rw [if_pos hc24] at hF
          refine lv_aload_n hx hb dLAW_662 rfl (lv_at hl 3 rfl) ?_
          refine lv_iconst (v := (0 : Int32)) hx hb dLAW_663 (by decide) ?_
          obtain ⟨v25, ev25, hF⟩ := cp_bind hF
          refine cp_lald hx hb hK hP ev25 dLAW_664 ?_
          refine lv_iload hx hb dLAW_665 (lv_at hl 0 rfl) ?_
          refine lv_i2l hx hb dLAW_667 rfl ?_
          by_cases hc26 : v25 = y20.1
          · rw [if_pos hc26] at hF
            refine lw_lcmp hx hb hc26 dLAW_668 ?_
            refine lv_if_eq (tgt := 674) hx hb dLAW_669 (by decide) (fun _ => ?_) (fun hc => absurd hc (by decide))
            refine lv_goto (tgt := 770) hx hb dLAW_674 (by decide) ?_
            cases hF
            exact W.widen (by omega) (by omega) (kk _ _ _ hP hS (lv_sub hl [2, 3, 4, 5, 6] rfl))
          · rw [if_neg hc26] at hF
            cases hF
      · rw [if_neg hc23] at hF
        refine lv_iconst (v := (0 : Int32)) hx hb dLAW_655 (by decide) ?_
        cases hF
  · rw [if_neg hc3] at hF
    refine lv_iconst (v := (1 : Int32)) hx hb dLAW_597 (by decide) ?_
    refine lv_goto (tgt := 602) hx hb dLAW_598 (by decide) ?_
    refine lv_aload_n hx hb dLAW_602 rfl (lv_at hl 4 rfl) ?_
    refine lv_iload hx hb dLAW_603 (lv_at hl 0 rfl) ?_
    refine lv_iconst (v := (3 : Int32)) hx hb dLAW_605 (by decide) ?_
    refine lv_iadd hx hb dLAW_606 ?_
    obtain ⟨v27, ev27, hF⟩ := cp_bind hF
    refine lw_sld hx hb hX hbl hS ev27 dLAW_607 ?_
    refine lv_aload_n hx hb dLAW_608 rfl (lv_at hl 1 rfl) ?_
    obtain ⟨y28, ey28, hF⟩ := cp_bind hF
    refine lw_callM (mc := 1) (ms := 6) (st1 := [.int y28.1]) hA (lw_runH (As := [.ref (L.2.1 0), .int v1, .int (1 : Int32), .int v27, .ref (L.2.1 146)]) (rest := []) ⟨hx, hb, hml, hown, htT⟩ (hc_L_inner l hst G L hJ q 0 v1 (1 : Int32) v27 146 D y28 ey28) hq_blind rfl rfl (Nat.le_of_ble_eq_true rfl) (Nat.le_of_ble_eq_true rfl) (lw_hws htT hcw (List.mem_of_getElem? (i := 3) rfl)) List.mem_cons_self (htT _ tw_0) (htT _ tw_343) (htT _ tw_344) hdL_inner (lw_preH hP hK hN hZ hE hNC hA hS) rfl rfl hl.1 rfl (lv_room (Nat.le_of_ble_eq_true rfl)) dLAW_609 ⟨by show _ ≤ 601024; omega, by show _ ≤ 7293000; omega⟩) hS (fun H locs hP hS => ?_)
    refine lv_istore (lv' := [(5, .int y28.1), (4, .int i), (3, .ref (L.2.1 146)), (2, .ref (L.2.1 143)), (1, .ref (L.2.1 0)), (0, .ref b)]) hx hb dLAW_612 hl (by decide) rfl (fun ls hl => ?_)
    refine lv_aload_n hx hb dLAW_614 rfl (lv_at hl 3 rfl) ?_
    refine lv_aload_n hx hb dLAW_615 rfl (lv_at hl 5 rfl) ?_
    refine lv_iload hx hb dLAW_616 (lv_at hl 1 rfl) ?_
    refine lv_iconst (v := (1 : Int32)) hx hb dLAW_618 (by decide) ?_
    refine lv_iadd hx hb dLAW_619 ?_
    obtain ⟨v29, ev29, hF⟩ := cp_bind hF
    refine lw_sld hx hb hX hbl hS ev29 dLAW_620 ?_
    refine lv_aload_n hx hb dLAW_621 rfl (lv_at hl 5 rfl) ?_
    refine lv_iload hx hb dLAW_622 (lv_at hl 1 rfl) ?_
    refine lv_iconst (v := (2 : Int32)) hx hb dLAW_624 (by decide) ?_
    refine lv_iadd hx hb dLAW_625 ?_
    obtain ⟨v30, ev30, hF⟩ := cp_bind hF
    refine lw_sld hx hb hX hbl hS ev30 dLAW_626 ?_
    refine lv_if_eq (tgt := 634) hx hb dLAW_627 (by decide) (fun hc31 => ?_) (fun hc31 => ?_)
    · rw [if_pos hc31] at hF
      refine lv_iconst (v := (0 : Int32)) hx hb dLAW_634 (by decide) ?_
      refine lv_aload_n hx hb dLAW_635 rfl (lv_at hl 5 rfl) ?_
      refine lv_iload hx hb dLAW_636 (lv_at hl 1 rfl) ?_
      refine lv_iconst (v := (3 : Int32)) hx hb dLAW_638 (by decide) ?_
      refine lv_iadd hx hb dLAW_639 ?_
      obtain ⟨v32, ev32, hF⟩ := cp_bind hF
      refine lw_sld hx hb hX hbl hS ev32 dLAW_640 ?_
      obtain ⟨f33, ef33, hF⟩ := cp_bind hF
      obtain ⟨y34, ey34, hF⟩ := cp_bind hF
      refine lw_call (st1 := [.int y34.1]) hA (va_runV (As := [.int v29, .int (0 : Int32), .int v32]) (rest := []) ⟨hx, hb, hml, hown, htT⟩ (ct_X6_inner l G L hJ q 143 v29 (0 : Int32) v32 y28.2 y34 ey34) ⟨callB_of 3 htT gdX6_inner rfl rfl rfl (htT _ tw_8) (htT _ tw_503) hdX6_inner ⟨Nat.le_of_ble_eq_true rfl, Nat.le_of_ble_eq_true rfl⟩, (htT _ tw_504), (htT _ tw_505)⟩ ⟨cp_blind, cp_recv hK hP rfl ef33, lw_pre hP hK hN hZ hA hS⟩ rfl rfl hl.1 rfl (lv_room (Nat.le_of_ble_eq_true rfl)) dLAW_641 ⟨by show _ ≤ 601024; omega, by show _ ≤ 7293000; omega⟩) hS (fun H locs hP hS => ?_)
      refine lv_istore (lv' := [(6, .int y34.1), (5, .int y28.1), (4, .int i), (3, .ref (L.2.1 146)), (2, .ref (L.2.1 143)), (1, .ref (L.2.1 0)), (0, .ref b)]) hx hb dLAW_644 hl (by decide) rfl (fun ls hl => ?_)
      refine lv_aload_n hx hb dLAW_646 rfl (lv_at hl 4 rfl) ?_
      obtain ⟨f35, ef35, hF⟩ := cp_bind hF
      obtain ⟨y36, ey36, hF⟩ := cp_bind hF
      refine lw_call (st1 := [.int y36.1]) hA (va_runV (As := []) (rest := []) ⟨hx, hb, hml, hown, htT⟩ (ct_X6_thrown l G L hJ q 143 y34.2 y36 ey36) ⟨callB_of 0 htT gdX6_thrown rfl rfl rfl (htT _ tw_8) (htT _ tw_387) hdX6_thrown ⟨Nat.le_of_ble_eq_true rfl, Nat.le_of_ble_eq_true rfl⟩, (htT _ tw_388), (htT _ tw_389)⟩ ⟨cp_blind, cp_recv hK hP rfl ef35, lw_pre hP hK hN hZ hA hS⟩ rfl rfl hl.1 rfl (lv_room (Nat.le_of_ble_eq_true rfl)) dLAW_647 ⟨by show _ ≤ 601024; omega, by show _ ≤ 7293000; omega⟩) hS (fun H locs hP hS => ?_)
      refine lv_iload hx hb dLAW_650 (lv_at hl 1 rfl) ?_
      refine lv_icmp_eq (tgt := 657) hx hb dLAW_652 (by decide) (fun hc37 => ?_) (fun hc37 => ?_)
      · rw [if_pos hc37] at hF
        refine lv_iload hx hb dLAW_657 (lv_at hl 1 rfl) ?_
        refine lv_if_ne (tgt := 674) hx hb dLAW_659 (by decide) (fun hc38 => ?_) (fun hc38 => ?_)
        · rw [if_neg hc38] at hF
          refine lv_goto (tgt := 770) hx hb dLAW_674 (by decide) ?_
          cases hF
          exact W.widen (by omega) (by omega) (kk _ _ _ hP hS (lv_sub hl [2, 3, 4, 5, 6] rfl))
        · rw [if_pos hc38] at hF
          refine lv_aload_n hx hb dLAW_662 rfl (lv_at hl 3 rfl) ?_
          refine lv_iconst (v := (0 : Int32)) hx hb dLAW_663 (by decide) ?_
          obtain ⟨v39, ev39, hF⟩ := cp_bind hF
          refine cp_lald hx hb hK hP ev39 dLAW_664 ?_
          refine lv_iload hx hb dLAW_665 (lv_at hl 0 rfl) ?_
          refine lv_i2l hx hb dLAW_667 rfl ?_
          by_cases hc40 : v39 = y34.1
          · rw [if_pos hc40] at hF
            refine lw_lcmp hx hb hc40 dLAW_668 ?_
            refine lv_if_eq (tgt := 674) hx hb dLAW_669 (by decide) (fun _ => ?_) (fun hc => absurd hc (by decide))
            refine lv_goto (tgt := 770) hx hb dLAW_674 (by decide) ?_
            cases hF
            exact W.widen (by omega) (by omega) (kk _ _ _ hP hS (lv_sub hl [2, 3, 4, 5, 6] rfl))
          · rw [if_neg hc40] at hF
            cases hF
      · rw [if_neg hc37] at hF
        refine lv_iconst (v := (0 : Int32)) hx hb dLAW_655 (by decide) ?_
        cases hF
    · rw [if_neg hc31] at hF
      refine lv_iconst (v := (1 : Int32)) hx hb dLAW_630 (by decide) ?_
      refine lv_goto (tgt := 635) hx hb dLAW_631 (by decide) ?_
      refine lv_aload_n hx hb dLAW_635 rfl (lv_at hl 5 rfl) ?_
      refine lv_iload hx hb dLAW_636 (lv_at hl 1 rfl) ?_
      refine lv_iconst (v := (3 : Int32)) hx hb dLAW_638 (by decide) ?_
      refine lv_iadd hx hb dLAW_639 ?_
      obtain ⟨v41, ev41, hF⟩ := cp_bind hF
      refine lw_sld hx hb hX hbl hS ev41 dLAW_640 ?_
      obtain ⟨f42, ef42, hF⟩ := cp_bind hF
      obtain ⟨y43, ey43, hF⟩ := cp_bind hF
      refine lw_call (st1 := [.int y43.1]) hA (va_runV (As := [.int v29, .int (1 : Int32), .int v41]) (rest := []) ⟨hx, hb, hml, hown, htT⟩ (ct_X6_inner l G L hJ q 143 v29 (1 : Int32) v41 y28.2 y43 ey43) ⟨callB_of 3 htT gdX6_inner rfl rfl rfl (htT _ tw_8) (htT _ tw_503) hdX6_inner ⟨Nat.le_of_ble_eq_true rfl, Nat.le_of_ble_eq_true rfl⟩, (htT _ tw_504), (htT _ tw_505)⟩ ⟨cp_blind, cp_recv hK hP rfl ef42, lw_pre hP hK hN hZ hA hS⟩ rfl rfl hl.1 rfl (lv_room (Nat.le_of_ble_eq_true rfl)) dLAW_641 ⟨by show _ ≤ 601024; omega, by show _ ≤ 7293000; omega⟩) hS (fun H locs hP hS => ?_)
      refine lv_istore (lv' := [(6, .int y43.1), (5, .int y28.1), (4, .int i), (3, .ref (L.2.1 146)), (2, .ref (L.2.1 143)), (1, .ref (L.2.1 0)), (0, .ref b)]) hx hb dLAW_644 hl (by decide) rfl (fun ls hl => ?_)
      refine lv_aload_n hx hb dLAW_646 rfl (lv_at hl 4 rfl) ?_
      obtain ⟨f44, ef44, hF⟩ := cp_bind hF
      obtain ⟨y45, ey45, hF⟩ := cp_bind hF
      refine lw_call (st1 := [.int y45.1]) hA (va_runV (As := []) (rest := []) ⟨hx, hb, hml, hown, htT⟩ (ct_X6_thrown l G L hJ q 143 y43.2 y45 ey45) ⟨callB_of 0 htT gdX6_thrown rfl rfl rfl (htT _ tw_8) (htT _ tw_387) hdX6_thrown ⟨Nat.le_of_ble_eq_true rfl, Nat.le_of_ble_eq_true rfl⟩, (htT _ tw_388), (htT _ tw_389)⟩ ⟨cp_blind, cp_recv hK hP rfl ef44, lw_pre hP hK hN hZ hA hS⟩ rfl rfl hl.1 rfl (lv_room (Nat.le_of_ble_eq_true rfl)) dLAW_647 ⟨by show _ ≤ 601024; omega, by show _ ≤ 7293000; omega⟩) hS (fun H locs hP hS => ?_)
      refine lv_iload hx hb dLAW_650 (lv_at hl 1 rfl) ?_
      refine lv_icmp_eq (tgt := 657) hx hb dLAW_652 (by decide) (fun hc46 => ?_) (fun hc46 => ?_)
      · rw [if_pos hc46] at hF
        refine lv_iload hx hb dLAW_657 (lv_at hl 1 rfl) ?_
        refine lv_if_ne (tgt := 674) hx hb dLAW_659 (by decide) (fun hc47 => ?_) (fun hc47 => ?_)
        · rw [if_neg hc47] at hF
          refine lv_goto (tgt := 770) hx hb dLAW_674 (by decide) ?_
          cases hF
          exact W.widen (by omega) (by omega) (kk _ _ _ hP hS (lv_sub hl [2, 3, 4, 5, 6] rfl))
        · rw [if_pos hc47] at hF
          refine lv_aload_n hx hb dLAW_662 rfl (lv_at hl 3 rfl) ?_
          refine lv_iconst (v := (0 : Int32)) hx hb dLAW_663 (by decide) ?_
          obtain ⟨v48, ev48, hF⟩ := cp_bind hF
          refine cp_lald hx hb hK hP ev48 dLAW_664 ?_
          refine lv_iload hx hb dLAW_665 (lv_at hl 0 rfl) ?_
          refine lv_i2l hx hb dLAW_667 rfl ?_
          by_cases hc49 : v48 = y43.1
          · rw [if_pos hc49] at hF
            refine lw_lcmp hx hb hc49 dLAW_668 ?_
            refine lv_if_eq (tgt := 674) hx hb dLAW_669 (by decide) (fun _ => ?_) (fun hc => absurd hc (by decide))
            refine lv_goto (tgt := 770) hx hb dLAW_674 (by decide) ?_
            cases hF
            exact W.widen (by omega) (by omega) (kk _ _ _ hP hS (lv_sub hl [2, 3, 4, 5, 6] rfl))
          · rw [if_neg hc49] at hF
            cases hF
      · rw [if_neg hc46] at hF
        refine lv_iconst (v := (0 : Int32)) hx hb dLAW_655 (by decide) ?_
        cases hF
def lc_9 (L : cp_Lay) (q N : Nat) (xs : Nat → Int32) (i : Int32) (D : cp_Dt) : Option cp_Dt :=
  (cp_tb N xs (i + (1 : Int32))).bind fun v1 =>
  (cp_fl L 0 0).bind fun f2 =>
  (fn_X0_total L q 0 v1 D).bind fun y3 =>
  (cp_tb N xs (i + (1 : Int32))).bind fun v4 =>
  (cp_fl L 143 6).bind fun f5 =>
  (fn_X6_total L q 143 v4 y3.2).bind fun y6 =>
  if y3.1 = y6.1 then (some y6.2)
  else (none)
set_option maxHeartbeats 4000000 in
set_option maxRecDepth 100000 in
theorem lw_k9 (X : lw_C p l G L s m args c b N xs) (q : Nat) {i : Int32} {res : cp_Dt} (hF : lc_9 L q N xs i D = some res) (hce : cells + 1 ≤ 601024) (hsl : slots + 6 ≤ 7293000) (hP : va_P G vwCl (cp_ws L D) H) (hS : va_S (lw_A s) s.heap H locs) (hl : lv_has ls 7 [(4, .int i), (3, .ref (L.2.1 146)), (2, .ref (L.2.1 143)), (1, .ref (L.2.1 0)), (0, .ref b)]) (kk : ∀ (H : Heap) (locs : List Loc) (ls : Array Slot), va_P G vwCl (cp_ws L res) H → va_S (lw_A s) s.heap H locs → lv_has ls 7 [(4, .int i), (3, .ref (L.2.1 146)), (2, .ref (L.2.1 143)), (1, .ref (L.2.1 0)), (0, .ref b)] → W p l e room_1 s m args below meth c H locs (cells + 1) (slots + 6) Q (F0 m 770 ls [])) : W p l e room_1 s m args below meth c H locs cells slots Q (F0 m 677 ls []) := by
  obtain ⟨hx, hb, hml, hown, htT, hcw, hst, hJ, hA, hK, hN, hZ, hE, hNC, hX, hbl⟩ := X
  unfold lc_9 at hF
  refine lv_aload_n hx hb dLAW_677 rfl (lv_at hl 3 rfl) ?_
  refine lv_aload_n hx hb dLAW_678 rfl (lv_at hl 4 rfl) ?_
  refine lv_iload hx hb dLAW_679 (lv_at hl 0 rfl) ?_
  refine lv_iconst (v := (1 : Int32)) hx hb dLAW_681 (by decide) ?_
  refine lv_iadd hx hb dLAW_682 ?_
  obtain ⟨v1, ev1, hF⟩ := cp_bind hF
  refine lw_sld hx hb hX hbl hS ev1 dLAW_683 ?_
  obtain ⟨f2, ef2, hF⟩ := cp_bind hF
  obtain ⟨y3, ey3, hF⟩ := cp_bind hF
  refine lw_call (st1 := [.int y3.1]) hA (va_runV (As := [.int v1]) (rest := []) ⟨hx, hb, hml, hown, htT⟩ (ct_X0_total l G L hJ q 0 v1 D y3 ey3) ⟨callB_of 1 htT gdX0_total rfl rfl rfl (htT _ tw_1) (htT _ tw_172) hdX0_total ⟨Nat.le_of_ble_eq_true rfl, Nat.le_of_ble_eq_true rfl⟩, (htT _ tw_173), (htT _ tw_174)⟩ ⟨cp_blind, cp_recv hK hP rfl ef2, lw_pre hP hK hN hZ hA hS⟩ rfl rfl hl.1 rfl (lv_room (Nat.le_of_ble_eq_true rfl)) dLAW_684 ⟨by show _ ≤ 601024; omega, by show _ ≤ 7293000; omega⟩) hS (fun H locs hP hS => ?_)
  refine lv_aload_n hx hb dLAW_687 rfl (lv_at hl 2 rfl) ?_
  refine lv_aload_n hx hb dLAW_688 rfl (lv_at hl 4 rfl) ?_
  refine lv_iload hx hb dLAW_689 (lv_at hl 0 rfl) ?_
  refine lv_iconst (v := (1 : Int32)) hx hb dLAW_691 (by decide) ?_
  refine lv_iadd hx hb dLAW_692 ?_
  obtain ⟨v4, ev4, hF⟩ := cp_bind hF
  refine lw_sld hx hb hX hbl hS ev4 dLAW_693 ?_
  obtain ⟨f5, ef5, hF⟩ := cp_bind hF
  obtain ⟨y6, ey6, hF⟩ := cp_bind hF
  refine lw_call (st1 := [.int y6.1, .int y3.1]) hA (va_runV (As := [.int v4]) (rest := [.int y3.1]) ⟨hx, hb, hml, hown, htT⟩ (ct_X6_total l G L hJ q 143 v4 y3.2 y6 ey6) ⟨callB_of 1 htT gdX6_total rfl rfl rfl (htT _ tw_8) (htT _ tw_507) hdX6_total ⟨Nat.le_of_ble_eq_true rfl, Nat.le_of_ble_eq_true rfl⟩, (htT _ tw_508), (htT _ tw_509)⟩ ⟨cp_blind, cp_recv hK hP rfl ef5, lw_pre hP hK hN hZ hA hS⟩ rfl rfl hl.1 rfl (lv_room (Nat.le_of_ble_eq_true rfl)) dLAW_694 ⟨by show _ ≤ 601024; omega, by show _ ≤ 7293000; omega⟩) hS (fun H locs hP hS => ?_)
  refine lv_icmp_eq (tgt := 770) hx hb dLAW_697 (by decide) (fun hc7 => ?_) (fun hc7 => ?_)
  · rw [if_pos hc7] at hF
    cases hF
    exact W.widen (by omega) (by omega) (kk _ _ _ hP hS (lv_sub hl [0, 1, 2, 3, 4] rfl))
  · rw [if_neg hc7] at hF
    refine lv_iconst (v := (0 : Int32)) hx hb dLAW_700 (by decide) ?_
    cases hF
def lc_10 (L : cp_Lay) (q N : Nat) (xs : Nat → Int32) (i : Int32) (D : cp_Dt) : Option cp_Dt :=
  (cp_fl L 0 0).bind fun f1 =>
  (fn_X0_keep L q 0 D).bind fun D2 =>
  (cp_fl L 143 6).bind fun f3 =>
  (fn_X6_keep L q 143 D2).bind fun D4 =>
  some D4
set_option maxHeartbeats 4000000 in
set_option maxRecDepth 100000 in
theorem lw_k10 (X : lw_C p l G L s m args c b N xs) (q : Nat) {i : Int32} {res : cp_Dt} (hF : lc_10 L q N xs i D = some res) (hce : cells + 1 ≤ 601024) (hsl : slots + 6 ≤ 7293000) (hP : va_P G vwCl (cp_ws L D) H) (hS : va_S (lw_A s) s.heap H locs) (hl : lv_has ls 7 [(4, .int i), (3, .ref (L.2.1 146)), (2, .ref (L.2.1 143)), (1, .ref (L.2.1 0)), (0, .ref b)]) (kk : ∀ (H : Heap) (locs : List Loc) (ls : Array Slot), va_P G vwCl (cp_ws L res) H → va_S (lw_A s) s.heap H locs → lv_has ls 7 [(4, .int i), (3, .ref (L.2.1 146)), (2, .ref (L.2.1 143)), (1, .ref (L.2.1 0)), (0, .ref b)] → W p l e room_1 s m args below meth c H locs (cells + 1) (slots + 6) Q (F0 m 770 ls [])) : W p l e room_1 s m args below meth c H locs cells slots Q (F0 m 702 ls []) := by
  obtain ⟨hx, hb, hml, hown, htT, hcw, hst, hJ, hA, hK, hN, hZ, hE, hNC, hX, hbl⟩ := X
  unfold lc_10 at hF
  refine lv_aload_n hx hb dLAW_702 rfl (lv_at hl 3 rfl) ?_
  obtain ⟨f1, ef1, hF⟩ := cp_bind hF
  obtain ⟨D2, eD2, hF⟩ := cp_bind hF
  refine lw_call (st1 := []) hA (va_runV (As := []) (rest := []) ⟨hx, hb, hml, hown, htT⟩ (ct_X0_keep l G L hJ q 0 D D2 eD2) ⟨callB_of 0 htT gdX0_keep rfl rfl rfl (htT _ tw_1) (htT _ tw_182) hdX0_keep ⟨Nat.le_of_ble_eq_true rfl, Nat.le_of_ble_eq_true rfl⟩, (htT _ tw_183), (htT _ tw_184)⟩ ⟨cp_blind, cp_recv hK hP rfl ef1, lw_pre hP hK hN hZ hA hS⟩ rfl rfl hl.1 rfl (lv_room (Nat.le_of_ble_eq_true rfl)) dLAW_703 ⟨by show _ ≤ 601024; omega, by show _ ≤ 7293000; omega⟩) hS (fun H locs hP hS => ?_)
  refine lv_aload_n hx hb dLAW_706 rfl (lv_at hl 2 rfl) ?_
  obtain ⟨f3, ef3, hF⟩ := cp_bind hF
  obtain ⟨D4, eD4, hF⟩ := cp_bind hF
  refine lw_call (st1 := []) hA (va_runV (As := []) (rest := []) ⟨hx, hb, hml, hown, htT⟩ (ct_X6_keep l G L hJ q 143 D2 D4 eD4) ⟨callB_of 0 htT gdX6_keep rfl rfl rfl (htT _ tw_8) (htT _ tw_511) hdX6_keep ⟨Nat.le_of_ble_eq_true rfl, Nat.le_of_ble_eq_true rfl⟩, (htT _ tw_512), (htT _ tw_513)⟩ ⟨cp_blind, cp_recv hK hP rfl ef3, lw_pre hP hK hN hZ hA hS⟩ rfl rfl hl.1 rfl (lv_room (Nat.le_of_ble_eq_true rfl)) dLAW_707 ⟨by show _ ≤ 601024; omega, by show _ ≤ 7293000; omega⟩) hS (fun H locs hP hS => ?_)
  refine lv_goto (tgt := 770) hx hb dLAW_710 (by decide) ?_
  cases hF
  exact W.widen (by omega) (by omega) (kk _ _ _ hP hS (lv_sub hl [0, 1, 2, 3, 4] rfl))
def lc_11 (L : cp_Lay) (q N : Nat) (xs : Nat → Int32) (i : Int32) (D : cp_Dt) : Option cp_Dt :=
  (hx_L_differ L q 0 146 D).bind fun y1 =>
  (cp_fl L 143 6).bind fun f2 =>
  (fn_X6_differ L q 143 y1.2).bind fun y3 =>
  (cp_fl L 143 6).bind fun f4 =>
  (fn_X6_thrown L q 143 y3.2).bind fun y5 =>
  if y5.1 = y1.1 then (if y1.1 = 0 then ((cp_aI L y5.2 3 146 (0 : Int32)).bind fun v8 =>
  if v8 = y3.1 then (some y5.2)
  else none)
  else (some y5.2))
  else (none)
set_option maxHeartbeats 4000000 in
set_option maxRecDepth 100000 in
theorem lw_k11 (X : lw_C p l G L s m args c b N xs) (q : Nat) {i : Int32} {res : cp_Dt} (hF : lc_11 L q N xs i D = some res) (hce : cells + 1 ≤ 601024) (hsl : slots + 6 ≤ 7293000) (hP : va_P G vwCl (cp_ws L D) H) (hS : va_S (lw_A s) s.heap H locs) (hl : lv_has ls 7 [(4, .int i), (3, .ref (L.2.1 146)), (2, .ref (L.2.1 143)), (1, .ref (L.2.1 0)), (0, .ref b)]) (kk : ∀ (H : Heap) (locs : List Loc) (ls : Array Slot), va_P G vwCl (cp_ws L res) H → va_S (lw_A s) s.heap H locs → lv_has ls 7 [(4, .int i), (3, .ref (L.2.1 146)), (2, .ref (L.2.1 143)), (1, .ref (L.2.1 0)), (0, .ref b)] → W p l e room_1 s m args below meth c H locs (cells + 1) (slots + 6) Q (F0 m 770 ls [])) : W p l e room_1 s m args below meth c H locs cells slots Q (F0 m 713 ls []) := by
  obtain ⟨hx, hb, hml, hown, htT, hcw, hst, hJ, hA, hK, hN, hZ, hE, hNC, hX, hbl⟩ := X
  unfold lc_11 at hF
  refine lv_aload_n hx hb dLAW_713 rfl (lv_at hl 3 rfl) ?_
  refine lv_aload_n hx hb dLAW_714 rfl (lv_at hl 1 rfl) ?_
  obtain ⟨y1, ey1, hF⟩ := cp_bind hF
  refine lw_callM (mc := 1) (ms := 6) (st1 := [.int y1.1]) hA (lw_runH (As := [.ref (L.2.1 0), .ref (L.2.1 146)]) (rest := []) ⟨hx, hb, hml, hown, htT⟩ (hc_L_differ l hst G L hJ q 0 146 D y1 ey1) hq_blind rfl rfl (Nat.le_of_ble_eq_true rfl) (Nat.le_of_ble_eq_true rfl) (lw_hws htT hcw (List.mem_of_getElem? (i := 4) rfl)) List.mem_cons_self (htT _ tw_0) (htT _ tw_358) (htT _ tw_359) hdL_differ (lw_preH hP hK hN hZ hE hNC hA hS) rfl rfl hl.1 rfl (lv_room (Nat.le_of_ble_eq_true rfl)) dLAW_715 ⟨by show _ ≤ 601024; omega, by show _ ≤ 7293000; omega⟩) hS (fun H locs hP hS => ?_)
  refine lv_istore (lv' := [(5, .int y1.1), (4, .int i), (3, .ref (L.2.1 146)), (2, .ref (L.2.1 143)), (1, .ref (L.2.1 0)), (0, .ref b)]) hx hb dLAW_718 hl (by decide) rfl (fun ls hl => ?_)
  refine lv_aload_n hx hb dLAW_720 rfl (lv_at hl 3 rfl) ?_
  obtain ⟨f2, ef2, hF⟩ := cp_bind hF
  obtain ⟨y3, ey3, hF⟩ := cp_bind hF
  refine lw_call (st1 := [.int y3.1]) hA (va_runV (As := []) (rest := []) ⟨hx, hb, hml, hown, htT⟩ (ct_X6_differ l G L hJ q 143 y1.2 y3 ey3) ⟨callB_of 0 htT gdX6_differ rfl rfl rfl (htT _ tw_8) (htT _ tw_515) hdX6_differ ⟨Nat.le_of_ble_eq_true rfl, Nat.le_of_ble_eq_true rfl⟩, (htT _ tw_516), (htT _ tw_517)⟩ ⟨cp_blind, cp_recv hK hP rfl ef2, lw_pre hP hK hN hZ hA hS⟩ rfl rfl hl.1 rfl (lv_room (Nat.le_of_ble_eq_true rfl)) dLAW_721 ⟨by show _ ≤ 601024; omega, by show _ ≤ 7293000; omega⟩) hS (fun H locs hP hS => ?_)
  refine lv_istore (lv' := [(6, .int y3.1), (5, .int y1.1), (4, .int i), (3, .ref (L.2.1 146)), (2, .ref (L.2.1 143)), (1, .ref (L.2.1 0)), (0, .ref b)]) hx hb dLAW_724 hl (by decide) rfl (fun ls hl => ?_)
  refine lv_aload_n hx hb dLAW_726 rfl (lv_at hl 4 rfl) ?_
  obtain ⟨f4, ef4, hF⟩ := cp_bind hF
  obtain ⟨y5, ey5, hF⟩ := cp_bind hF
  refine lw_call (st1 := [.int y5.1]) hA (va_runV (As := []) (rest := []) ⟨hx, hb, hml, hown, htT⟩ (ct_X6_thrown l G L hJ q 143 y3.2 y5 ey5) ⟨callB_of 0 htT gdX6_thrown rfl rfl rfl (htT _ tw_8) (htT _ tw_387) hdX6_thrown ⟨Nat.le_of_ble_eq_true rfl, Nat.le_of_ble_eq_true rfl⟩, (htT _ tw_388), (htT _ tw_389)⟩ ⟨cp_blind, cp_recv hK hP rfl ef4, lw_pre hP hK hN hZ hA hS⟩ rfl rfl hl.1 rfl (lv_room (Nat.le_of_ble_eq_true rfl)) dLAW_727 ⟨by show _ ≤ 601024; omega, by show _ ≤ 7293000; omega⟩) hS (fun H locs hP hS => ?_)
  refine lv_iload hx hb dLAW_730 (lv_at hl 1 rfl) ?_
  refine lv_icmp_eq (tgt := 737) hx hb dLAW_732 (by decide) (fun hc6 => ?_) (fun hc6 => ?_)
  · rw [if_pos hc6] at hF
    refine lv_iload hx hb dLAW_737 (lv_at hl 1 rfl) ?_
    refine lv_if_ne (tgt := 754) hx hb dLAW_739 (by decide) (fun hc7 => ?_) (fun hc7 => ?_)
    · rw [if_neg hc7] at hF
      refine lv_goto (tgt := 770) hx hb dLAW_754 (by decide) ?_
      cases hF
      exact W.widen (by omega) (by omega) (kk _ _ _ hP hS (lv_sub hl [2, 3, 4, 5, 6] rfl))
    · rw [if_pos hc7] at hF
      refine lv_aload_n hx hb dLAW_742 rfl (lv_at hl 3 rfl) ?_
      refine lv_iconst (v := (0 : Int32)) hx hb dLAW_743 (by decide) ?_
      obtain ⟨v8, ev8, hF⟩ := cp_bind hF
      refine cp_lald hx hb hK hP ev8 dLAW_744 ?_
      refine lv_iload hx hb dLAW_745 (lv_at hl 0 rfl) ?_
      refine lv_i2l hx hb dLAW_747 rfl ?_
      by_cases hc9 : v8 = y3.1
      · rw [if_pos hc9] at hF
        refine lw_lcmp hx hb hc9 dLAW_748 ?_
        refine lv_if_eq (tgt := 754) hx hb dLAW_749 (by decide) (fun _ => ?_) (fun hc => absurd hc (by decide))
        refine lv_goto (tgt := 770) hx hb dLAW_754 (by decide) ?_
        cases hF
        exact W.widen (by omega) (by omega) (kk _ _ _ hP hS (lv_sub hl [2, 3, 4, 5, 6] rfl))
      · rw [if_neg hc9] at hF
        cases hF
  · rw [if_neg hc6] at hF
    refine lv_iconst (v := (0 : Int32)) hx hb dLAW_735 (by decide) ?_
    cases hF
def lc_12 (L : cp_Lay) (q N : Nat) (xs : Nat → Int32) (i : Int32) (D : cp_Dt) : Option cp_Dt :=
  (cp_fl L 0 0).bind fun f1 =>
  (fn_X0_back L q 0 D).bind fun y2 =>
  (cp_fl L 143 6).bind fun f3 =>
  (fn_X6_back L q 143 y2.2).bind fun y4 =>
  if y2.1 = y4.1 then (some y4.2)
  else (none)
set_option maxHeartbeats 4000000 in
set_option maxRecDepth 100000 in
theorem lw_k12 (X : lw_C p l G L s m args c b N xs) (q : Nat) {i : Int32} {res : cp_Dt} (hF : lc_12 L q N xs i D = some res) (hce : cells + 1 ≤ 601024) (hsl : slots + 6 ≤ 7293000) (hP : va_P G vwCl (cp_ws L D) H) (hS : va_S (lw_A s) s.heap H locs) (hl : lv_has ls 7 [(4, .int i), (3, .ref (L.2.1 146)), (2, .ref (L.2.1 143)), (1, .ref (L.2.1 0)), (0, .ref b)]) (kk : ∀ (H : Heap) (locs : List Loc) (ls : Array Slot), va_P G vwCl (cp_ws L res) H → va_S (lw_A s) s.heap H locs → lv_has ls 7 [(4, .int i), (3, .ref (L.2.1 146)), (2, .ref (L.2.1 143)), (1, .ref (L.2.1 0)), (0, .ref b)] → W p l e room_1 s m args below meth c H locs (cells + 1) (slots + 6) Q (F0 m 770 ls [])) : W p l e room_1 s m args below meth c H locs cells slots Q (F0 m 757 ls []) := by
  obtain ⟨hx, hb, hml, hown, htT, hcw, hst, hJ, hA, hK, hN, hZ, hE, hNC, hX, hbl⟩ := X
  unfold lc_12 at hF
  refine lv_aload_n hx hb dLAW_757 rfl (lv_at hl 3 rfl) ?_
  obtain ⟨f1, ef1, hF⟩ := cp_bind hF
  obtain ⟨y2, ey2, hF⟩ := cp_bind hF
  refine lw_call (st1 := [.int y2.1]) hA (va_runV (As := []) (rest := []) ⟨hx, hb, hml, hown, htT⟩ (ct_X0_back l G L hJ q 0 D y2 ey2) ⟨callB_of 0 htT gdX0_back rfl rfl rfl (htT _ tw_1) (htT _ tw_194) hdX0_back ⟨Nat.le_of_ble_eq_true rfl, Nat.le_of_ble_eq_true rfl⟩, (htT _ tw_195), (htT _ tw_196)⟩ ⟨cp_blind, cp_recv hK hP rfl ef1, lw_pre hP hK hN hZ hA hS⟩ rfl rfl hl.1 rfl (lv_room (Nat.le_of_ble_eq_true rfl)) dLAW_758 ⟨by show _ ≤ 601024; omega, by show _ ≤ 7293000; omega⟩) hS (fun H locs hP hS => ?_)
  refine lv_aload_n hx hb dLAW_761 rfl (lv_at hl 2 rfl) ?_
  obtain ⟨f3, ef3, hF⟩ := cp_bind hF
  obtain ⟨y4, ey4, hF⟩ := cp_bind hF
  refine lw_call (st1 := [.int y4.1, .int y2.1]) hA (va_runV (As := []) (rest := [.int y2.1]) ⟨hx, hb, hml, hown, htT⟩ (ct_X6_back l G L hJ q 143 y2.2 y4 ey4) ⟨callB_of 0 htT gdX6_back rfl rfl rfl (htT _ tw_8) (htT _ tw_522) hdX6_back ⟨Nat.le_of_ble_eq_true rfl, Nat.le_of_ble_eq_true rfl⟩, (htT _ tw_523), (htT _ tw_524)⟩ ⟨cp_blind, cp_recv hK hP rfl ef3, lw_pre hP hK hN hZ hA hS⟩ rfl rfl hl.1 rfl (lv_room (Nat.le_of_ble_eq_true rfl)) dLAW_762 ⟨by show _ ≤ 601024; omega, by show _ ≤ 7293000; omega⟩) hS (fun H locs hP hS => ?_)
  refine lv_icmp_eq (tgt := 770) hx hb dLAW_765 (by decide) (fun hc5 => ?_) (fun hc5 => ?_)
  · rw [if_pos hc5] at hF
    cases hF
    exact W.widen (by omega) (by omega) (kk _ _ _ hP hS (lv_sub hl [0, 1, 2, 3, 4] rfl))
  · rw [if_neg hc5] at hF
    refine lv_iconst (v := (0 : Int32)) hx hb dLAW_768 (by decide) ?_
    cases hF
def lc_turn (L : cp_Lay) (q N : Nat) (xs : Nat → Int32) (i : Int32) (D : cp_Dt) : Option cp_Dt :=
  (cp_tb N xs i).bind fun v =>
  if v &&& 15 = (0 : Int32) then lc_0 L q N xs i D
  else if v &&& 15 = (1 : Int32) then lc_1 L q N xs i D
  else if v &&& 15 = (2 : Int32) then lc_2 L q N xs i D
  else if v &&& 15 = (3 : Int32) then lc_3 L q N xs i D
  else if v &&& 15 = (4 : Int32) then lc_4 L q N xs i D
  else if v &&& 15 = (5 : Int32) then lc_5 L q N xs i D
  else if v &&& 15 = (6 : Int32) then lc_6 L q N xs i D
  else if v &&& 15 = (7 : Int32) then lc_7 L q N xs i D
  else if v &&& 15 = (8 : Int32) then lc_8 L q N xs i D
  else if v &&& 15 = (9 : Int32) then lc_9 L q N xs i D
  else if v &&& 15 = (10 : Int32) then lc_10 L q N xs i D
  else if v &&& 15 = (11 : Int32) then lc_11 L q N xs i D
  else if v &&& 15 = (12 : Int32) then lc_12 L q N xs i D
  else some D
set_option maxHeartbeats 4000000 in
set_option maxRecDepth 100000 in
theorem lw_turn (X0 : lw_C p l G L s m args c b N xs) (q : Nat) {i : Int32} {res : cp_Dt} (hF : lc_turn L q N xs i D = some res) (hce : cells + 1 ≤ 601024) (hsl : slots + 6 ≤ 7293000) (hP : va_P G vwCl (cp_ws L D) H) (hS : va_S (lw_A s) s.heap H locs) (hl : lv_has ls 7 [(4, .int i), (3, .ref (L.2.1 146)), (2, .ref (L.2.1 143)), (1, .ref (L.2.1 0)), (0, .ref b)]) (kk : ∀ (H : Heap) (locs : List Loc) (ls : Array Slot), va_P G vwCl (cp_ws L res) H → va_S (lw_A s) s.heap H locs → lv_has ls 7 [(4, .int i), (3, .ref (L.2.1 146)), (2, .ref (L.2.1 143)), (1, .ref (L.2.1 0)), (0, .ref b)] → W p l e room_1 s m args below meth c H locs (cells + 1) (slots + 6) Q (F0 m 770 ls [])) : W p l e room_1 s m args below meth c H locs cells slots Q (F0 m 52 ls []) := by
  have X := X0
  obtain ⟨hx, hb, hml, hown, htT, hcw, hst, hJ, hA, hK, hN, hZ, hE, hNC, hX, hbl⟩ := X
  unfold lc_turn at hF
  refine lv_aload_n hx hb dLAW_52 rfl (lv_at hl 4 rfl) ?_
  refine lv_iload hx hb dLAW_53 (lv_at hl 0 rfl) ?_
  obtain ⟨v, ev, hF⟩ := cp_bind hF
  refine lw_sld hx hb hX hbl hS ev dLAW_55 ?_
  refine lv_bipush (v := (15 : Int32)) hx hb dLAW_56 (by decide) ?_
  refine lv_iand hx hb dLAW_58 ?_
  by_cases hc0 : v &&& 15 = (0 : Int32)
  · rw [if_pos hc0] at hF
    refine lv_tableIn (tgt := 124) hx hb dLAW_59 (by rw [hc0]; decide) (by rw [hc0]; decide) (by rw [hc0]; rfl) (by decide) ?_
    exact lw_k0 X0 q hF hce hsl hP hS hl kk
  · rw [if_neg hc0] at hF
    by_cases hc1 : v &&& 15 = (1 : Int32)
    · rw [if_pos hc1] at hF
      refine lv_tableIn (tgt := 161) hx hb dLAW_59 (by rw [hc1]; decide) (by rw [hc1]; decide) (by rw [hc1]; rfl) (by decide) ?_
      exact lw_k1 X0 q hF hce hsl hP hS hl kk
    · rw [if_neg hc1] at hF
      by_cases hc2 : v &&& 15 = (2 : Int32)
      · rw [if_pos hc2] at hF
        refine lv_tableIn (tgt := 186) hx hb dLAW_59 (by rw [hc2]; decide) (by rw [hc2]; decide) (by rw [hc2]; rfl) (by decide) ?_
        exact lw_k2 X0 q hF hce hsl hP hS hl kk
      · rw [if_neg hc2] at hF
        by_cases hc3 : v &&& 15 = (3 : Int32)
        · rw [if_pos hc3] at hF
          refine lv_tableIn (tgt := 235) hx hb dLAW_59 (by rw [hc3]; decide) (by rw [hc3]; decide) (by rw [hc3]; rfl) (by decide) ?_
          exact lw_k3 X0 q hF hce hsl hP hS hl kk
        · rw [if_neg hc3] at hF
          by_cases hc4 : v &&& 15 = (4 : Int32)
          · rw [if_pos hc4] at hF
            refine lv_tableIn (tgt := 327) hx hb dLAW_59 (by rw [hc4]; decide) (by rw [hc4]; decide) (by rw [hc4]; rfl) (by decide) ?_
            exact lw_k4 X0 q hF hce hsl hP hS hl kk
          · rw [if_neg hc4] at hF
            by_cases hc5 : v &&& 15 = (5 : Int32)
            · rw [if_pos hc5] at hF
              refine lv_tableIn (tgt := 439) hx hb dLAW_59 (by rw [hc5]; decide) (by rw [hc5]; decide) (by rw [hc5]; rfl) (by decide) ?_
              exact lw_k5 X0 q hF hce hsl hP hS hl kk
            · rw [if_neg hc5] at hF
              by_cases hc6 : v &&& 15 = (6 : Int32)
              · rw [if_pos hc6] at hF
                refine lv_tableIn (tgt := 495) hx hb dLAW_59 (by rw [hc6]; decide) (by rw [hc6]; decide) (by rw [hc6]; rfl) (by decide) ?_
                exact lw_k6 X0 q hF hce hsl hP hS hl kk
              · rw [if_neg hc6] at hF
                by_cases hc7 : v &&& 15 = (7 : Int32)
                · rw [if_pos hc7] at hF
                  refine lv_tableIn (tgt := 544) hx hb dLAW_59 (by rw [hc7]; decide) (by rw [hc7]; decide) (by rw [hc7]; rfl) (by decide) ?_
                  exact lw_k7 X0 q hF hce hsl hP hS hl kk
                · rw [if_neg hc7] at hF
                  by_cases hc8 : v &&& 15 = (8 : Int32)
                  · rw [if_pos hc8] at hF
                    refine lv_tableIn (tgt := 581) hx hb dLAW_59 (by rw [hc8]; decide) (by rw [hc8]; decide) (by rw [hc8]; rfl) (by decide) ?_
                    exact lw_k8 X0 q hF hce hsl hP hS hl kk
                  · rw [if_neg hc8] at hF
                    by_cases hc9 : v &&& 15 = (9 : Int32)
                    · rw [if_pos hc9] at hF
                      refine lv_tableIn (tgt := 677) hx hb dLAW_59 (by rw [hc9]; decide) (by rw [hc9]; decide) (by rw [hc9]; rfl) (by decide) ?_
                      exact lw_k9 X0 q hF hce hsl hP hS hl kk
                    · rw [if_neg hc9] at hF
                      by_cases hc10 : v &&& 15 = (10 : Int32)
                      · rw [if_pos hc10] at hF
                        refine lv_tableIn (tgt := 702) hx hb dLAW_59 (by rw [hc10]; decide) (by rw [hc10]; decide) (by rw [hc10]; rfl) (by decide) ?_
                        exact lw_k10 X0 q hF hce hsl hP hS hl kk
                      · rw [if_neg hc10] at hF
                        by_cases hc11 : v &&& 15 = (11 : Int32)
                        · rw [if_pos hc11] at hF
                          refine lv_tableIn (tgt := 713) hx hb dLAW_59 (by rw [hc11]; decide) (by rw [hc11]; decide) (by rw [hc11]; rfl) (by decide) ?_
                          exact lw_k11 X0 q hF hce hsl hP hS hl kk
                        · rw [if_neg hc11] at hF
                          by_cases hc12 : v &&& 15 = (12 : Int32)
                          · rw [if_pos hc12] at hF
                            refine lv_tableIn (tgt := 757) hx hb dLAW_59 (by rw [hc12]; decide) (by rw [hc12]; decide) (by rw [hc12]; rfl) (by decide) ?_
                            exact lw_k12 X0 q hF hce hsl hP hS hl kk
                          · rw [if_neg hc12] at hF
                            have z0 := lv_neT (a := 0) hc0 (by decide)
                            have z1 := lv_neT (a := 1) hc1 (by decide)
                            have z2 := lv_neT (a := 2) hc2 (by decide)
                            have z3 := lv_neT (a := 3) hc3 (by decide)
                            have z4 := lv_neT (a := 4) hc4 (by decide)
                            have z5 := lv_neT (a := 5) hc5 (by decide)
                            have z6 := lv_neT (a := 6) hc6 (by decide)
                            have z7 := lv_neT (a := 7) hc7 (by decide)
                            have z8 := lv_neT (a := 8) hc8 (by decide)
                            have z9 := lv_neT (a := 9) hc9 (by decide)
                            have z10 := lv_neT (a := 10) hc10 (by decide)
                            have z11 := lv_neT (a := 11) hc11 (by decide)
                            have z12 := lv_neT (a := 12) hc12 (by decide)
                            refine lv_tableOut (tgt := 770) hx hb dLAW_59 (by omega) (by decide) ?_
                            cases hF
                            exact W.widen (by omega) (by omega) (kk _ _ _ hP hS hl)
end LWK
