/-! The cell ahead; the next number; the bytes of a code -/
def nbv (w h c d : Nat) : Int32 := cellv w h (nI c - nI c / nI w * nI w + cp_sx d) (nI c / nI w + cp_sy d)
def rSh (w h : Nat) (C R : cp_Dt) : Prop := (C 1 0 = nI w ∧ C 1 1 = nI h ∧ C 1 2 = nI (w * h)) ∧ (∀ c d, c < w * h → d < 4 → C 2 (4 * c + d) = nbv w h c d) ∧ R 143 1 = nI w ∧ R 143 2 = nI h
theorem rSh.mv {w h : Nat} {C R C' R' : cp_Dt} (S : rSh w h C R) (h1 : Fr 3 C C') (h2 : FrR 144 R R') : rSh w h C' R' := by
  obtain ⟨⟨s1, s2, s3⟩, s4, s5, s6⟩ := S
  refine ⟨⟨?_, ?_, ?_⟩, fun c d hc hd => ?_, ?_, ?_⟩
  · rw [h1 1 (by omega)]; exact s1
  · rw [h1 1 (by omega)]; exact s2
  · rw [h1 1 (by omega)]; exact s3
  · rw [h1 2 (by omega)]; exact s4 c d hc hd
  · rw [h2 143 (by omega)]; exact s5
  · rw [h2 143 (by omega)]; exact s6
theorem iN_of (y : Int32) : y = nI y.toBitVec.toNat := by
  refine Int32.toBitVec_inj.mp (BitVec.eq_of_toNat_eq ?_)
  rw [pk_tn y.toBitVec.isLt]
section AH
variable {L : cp_Lay} {w h B q a : Nat} {C R : cp_Dt}
theorem re_beside (O : cp_ok L w h) (S : rSh w h C R) {c d : Nat} (hd : d < 4) : fn_X6_beside L q 143 (nI c) (nI d) R = some (nbv w h c d, R) := by
  obtain ⟨⟨w1, w2, w3, w4⟩, -⟩ := id O
  obtain ⟨-, -, s5, s6⟩ := S
  unfold fn_X6_beside nbv
  simp only [re_gI O 1 (by decide), Option.bind_some, s5, nz_nI (n := w) (by omega) (by omega), re_fl O, re_cellAt O s5 s6]
  match d, hd with
  | 0, _ =>
    rw [if_pos (show nI 0 = 0 from rfl), show cp_sx 0 = 0 from rfl, show cp_sy 0 = -1 from rfl, Int32.add_zero, Int32.sub_eq_add_neg (a := nI c / nI w)]
  | 1, _ =>
    rw [if_neg (by decide), if_pos (show nI 1 = 1 from rfl), show cp_sx 1 = 1 from rfl, show cp_sy 1 = 0 from rfl, Int32.add_zero]
  | 2, _ =>
    rw [if_neg (by decide), if_neg (by decide), if_pos (show nI 2 = 2 from rfl), show cp_sx 2 = 0 from rfl, show cp_sy 2 = 1 from rfl, Int32.add_zero]
  | 3, _ =>
    rw [if_neg (by decide), if_neg (by decide), if_neg (by decide), show cp_sx 3 = -1 from rfl, show cp_sy 3 = 0 from rfl, Int32.add_zero, Int32.sub_eq_add_neg (a := nI c - nI c / nI w * nI w)]
theorem nbv_in (O : cp_ok L w h) (c d : Nat) : ∃ c', c' < w * h ∧ nbv w h c d = nI c' := cellv_in _ _ O.1
theorem nei_I (O : cp_ok L w h) {i : Nat} (hi : i < w * h * 4) : cp_aI L C 0 2 (nI i) = some (C 2 i) := by
  obtain ⟨t, ht⟩ := O.2.2.2.1
  exact cp_aI_of ht hi (by have := N_le O.1; omega)
theorem sim_ahead (O : cp_ok L w h) (P : cp_okP L (w * h) 3) (S : rSh w h C R) (H : Rel (w * h) 3 144 B C R) (ha : a < 16) (hl : C (pA 3 a) 3 = 1) : ∃ c', c' < w * h ∧ fn_X4_aheadOf L q 3 (pA 3 a) C = some (nI c', C) ∧ fn_X6_ahead L q 143 (nI a) R = some (nI c', R) := by
  obtain ⟨⟨k1, k2, -⟩, ⟨c, c1, c2, c3⟩, ⟨d, d1, d2⟩, -⟩ := rel_liv H ha hl
  obtain ⟨c', n1, n2⟩ := nbv_in O c d
  have r0 : R 144 (200 + 64 * a) = nI c := k1.trans c2
  have r1 : R 144 (200 + 64 * a + 1) = nI d := (k2 6 (by omega) (by omega) (by omega)).symm.trans d2
  refine ⟨c', n1, ?_, ?_⟩
  · unfold fn_X4_aheadOf
    simp only [po_sh P, Option.bind_some, cp_gR_of (L := L) (k := 1) (t := 5) (i := 3) (r := 2) O.2.2.1 rfl, an_gI P ha 5 (by decide), an_gI P ha 6 (by decide), c2, d2]
    rw [show (4 : Int32) = nI 4 from rfl, pk_mul, nI_add, nei_I O (by omega), show c * 4 + d = 4 * c + d by omega, S.2.1 c d c1 d1, n2]
    rfl
  · unfold fn_X6_ahead
    simp (disch := omega) only [re_now O, Option.bind_some, fn_X6_at, at_eq, nk_1, re_I O, r0, r1, re_fl O, re_beside O S d1, n2]
theorem sim_next {N : Nat} {C0 R0 : cp_Dt} (O : cp_ok L w h) (P : cp_okP L N 3) (hN : N ≤ 100) (H : Sm N B C0 R0 C R) : ∃ (u : Nat) (C' R' : cp_Dt), u < 65536 ∧ fn_X4_nextNumber L q 3 C = some (nI u, C') ∧ fn_X6_next L q 143 R = some (nI u, R') ∧ Sm N B C0 R0 C' R' := by
  have p7 : R 144 1226 = C 3 7 := (H.1.2.2.2.2.2.2.1 7 (by omega) (by omega)).symm
  have hu := pk_ushr (C 3 7) 16 16 (by decide)
  have hlt := (C 3 7).toBitVec.isLt
  refine ⟨(C 3 7).toBitVec.toNat / 2 ^ 16, cp_up C 3 7 ((C 3 7 * 134775813) + 1), cp_up R 144 1226 ((C 3 7 * 134775813) + 1), by omega, ?_, ?_, ?_⟩
  · unfold fn_X4_nextNumber
    simp only [po_gI P 7 (by decide), Option.bind_some, po_pI P 7 _ (by decide)]
    rw [iN_of ((C 3 7).toUInt32 >>> ((16 : Int32).toUInt32 &&& Int32.toUInt32 31)).toInt32, hu]
  · unfold fn_X6_next
    simp (disch := omega) only [re_now O, Option.bind_some, kk_1226, re_I O, re_S O, p7]
    rw [iN_of ((C 3 7).toUInt32 >>> ((16 : Int32).toUInt32 &&& Int32.toUInt32 31)).toInt32, hu]
  · exact sm_po H hN (j := 7) (by omega) ⟨by omega, by omega⟩
theorem wr_eq {N l x : Nat} (P : cp_okP L N 3) (ha : a < 16) (hl : C (pA 3 a) 9 = nI l) (h0 : 0 < l) (h1 : l ≤ 20) (hx : x < 2 ^ 31) : fn_X1_wrapped L q (pA 3 a) (nI x) C = some (nI (x % l), C) := by
  unfold fn_X1_wrapped
  simp only [an_gI P ha 9 (by decide), Option.bind_some, hl, nz_nI (n := l) h0 (by omega)]
  rw [if_neg (nI_nle h0 (by omega)), pk_rem hx h0 (by omega)]
theorem sim_gene {N l p d : Nat} (O : cp_ok L w h) (P : cp_okP L N 3) (H : Rel N 3 144 B C R) (ha : a < 16) (hv : C (pA 3 a) 3 = 1) (hl : C (pA 3 a) 9 = nI l) (h0 : 0 < l) (h1 : l ≤ 20) (hp : C (pA 3 a) 10 = nI p) (hp1 : p < 20) (hd : d < 3) :
    fn_X1_geneBehindPlace L q (pA 3 a) (nI d) C = some (C (pG 3 a) ((p + d) % l), C) ∧ fn_X6_codeAt L q 143 (nI a) (nI (p + d)) R = some (C (pG 3 a) ((p + d) % l), R) ∧ cp_by (C (pG 3 a) ((p + d) % l)) := by
  obtain ⟨⟨k1, k2, -, -, k5⟩, -⟩ := rel_liv H ha hv
  have hm : (p + d) % l < l := Nat.mod_lt _ h0
  have hb : cp_by (C (pG 3 a) ((p + d) % l)) := (H.2.2.2.2.1 a ha).2.2.2 _ (by omega)
  have r5 : R 144 (200 + 64 * a + 5) = nI l := (k2 9 (by omega) (by omega) (by omega)).symm.trans hl
  have rg := k5 _ l hl h1 hm
  refine ⟨?_, ?_, hb⟩
  · unfold fn_X1_geneBehindPlace
    simp only [an_ge P ha, Option.bind_some, an_gI P ha 10 (by decide), hp, an_fl P ha, nI_add, wr_eq P ha hl h0 h1 (show p + d < 2 ^ 31 by omega), an_geI P ha (show (p + d) % l < 20 by omega)]
    rw [show cp_gby (C (pG 3 a) ((p + d) % l)) = some () from if_pos hb]
    rfl
  · unfold fn_X6_codeAt
    simp (disch := omega) only [re_now O, Option.bind_some, fn_X6_at, at_eq, nk_5, nk_34, re_I O, r5, nz_nI, pk_rem, nI_add]
    rw [rg]
end AH
