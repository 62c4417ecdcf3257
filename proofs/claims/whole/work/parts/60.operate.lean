/-! One operation; a life's tick; all of them -/
theorem by_of (z : Int32) : cp_by z.toInt8.toInt32 := (vp_nar_byte _).symm.trans (pk_vb z)
section OPE
variable {L : cp_Lay} {w h B q a N : Nat} {C0 R0 C R : cp_Dt}
theorem sim_jump {l : Nat} (O : cp_ok L w h) (P : cp_okP L N 3) (hN : N ≤ 100) (H : Sm N B C0 R0 C R) (ha : a < 16) (h9 : C (pA 3 a) 9 = nI l) (h0 : 0 < l) (h1 : l ≤ 20) (x : Int32) : ∃ p', p' < l ∧ fn_X3_jump L q 141 (pA 3 a) x C = some (cp_up C (pA 3 a) 10 (nI p')) ∧ ((x &&& 255) - (x &&& 255) / nI l * nI l) = nI p' ∧ Sm N B C0 R0 (cp_up C (pA 3 a) 10 (nI p')) (cp_up R 144 (200 + 64 * a + 4) (nI p')) := by
  obtain ⟨g, g1, g2⟩ := and255 x
  have hm : g % l < l := Nat.mod_lt _ h0
  refine ⟨g % l, hm, ?_, ?_, sm_an H (Nat.le_refl _) hN ha (j := 10) (by omega) ⟨by omega, by omega, by omega, fun _ => ⟨g % l, by omega, rfl⟩, by omega⟩⟩
  · unfold fn_X3_jump
    rw [bind_of (an_fl P ha), g2, bind_of (wr_eq P ha h9 h0 h1 (by omega)), bind_of (an_pI P ha 10 _ (by decide))]
  · rw [g2, pk_rem (by omega) h0 (by omega)]
set_option maxHeartbeats 4000000 in
theorem sim_operate {l : Nat} (hNe : N = w * h) (O : cp_ok L w h) (P : cp_okP L N 3) (hq : 2000 ≤ q) (hB : B < 2 ^ 30) (S : rSh w h C0 R0) (H : Sm N B C0 R0 C R) (ha : a < 16) (hl : C (pA 3 a) 3 = 1) (h9 : C (pA 3 a) 9 = nI l) (h0 : 0 < l) (h1 : l ≤ 20) :
    ∃ z C' R', fn_X3_operate L q 141 (pA 3 a) C = some (z, C') ∧ fn_X6_operate L q 143 (nI a) R = some (z, R') ∧ ((z = 0 ∧ Sm N B C0 R0 C' R' ∧ C' (pA 3 a) 7 = C (pA 3 a) 7 ∧ C' (pA 3 a) 9 = nI l) ∨ (z = 1 ∧ Sm N (B + 63) C0 R0 C' R')) := by
  have hN : N ≤ 100 := by rw [hNe]; exact N_le O.1
  obtain ⟨⟨k1, k2, k3, k4, k5⟩, -, -, -, ⟨p, p1, p2⟩, -⟩ := rel_liv H.1 ha hl
  obtain ⟨a0, b0, y0⟩ := sim_gene (q := q) (d := 0) O P H.1 ha hl h9 h0 h1 p2 p1 (by omega)
  obtain ⟨a1, b1, y1⟩ := sim_gene (q := q) (d := 1) O P H.1 ha hl h9 h0 h1 p2 p1 (by omega)
  obtain ⟨a2, b2, y2⟩ := sim_gene (q := q) (d := 2) O P H.1 ha hl h9 h0 h1 p2 p1 (by omega)
  rw [Nat.add_zero] at a0 b0 y0
  generalize C (pG 3 a) (p % l) = g0 at a0 b0 y0
  generalize C (pG 3 a) ((p + 1) % l) = g1 at a1 b1 y1
  generalize C (pG 3 a) ((p + 2) % l) = g2 at a2 b2 y2
  obtain ⟨G, G1, G2⟩ := and255 g0
  have hG : (nI G - nI G / 22 * 22) = nI (G % 22) := pk_rem (d := 22) (by omega) (by omega) (by omega)
  have ho : G % 22 < 22 := Nat.mod_lt _ (by omega)
  generalize G % 22 = o at hG ho
  obtain ⟨t1, m, m1, m2⟩ := ops_in ho
  obtain ⟨i, i1, i2⟩ := and7 g1
  obtain ⟨j, j1, j2⟩ := and7 g2
  have r4 : R 144 (200 + 64 * a + 4) = nI p := (k2 10 (by omega) (by omega) (by omega)).symm.trans p2
  have r5 : R 144 (200 + 64 * a + 5) = nI l := (k2 9 (by omega) (by omega) (by omega)).symm.trans h9
  have ri := (k3 i i1).symm
  have hp' : (p + 1 + m) % l < l := Nat.mod_lt _ h0
  have H1 : Sm N B C0 R0 (cp_up C (pA 3 a) 10 (nI ((p + 1 + m) % l))) (cp_up R 144 (200 + 64 * a + 4) (nI ((p + 1 + m) % l))) := sm_an H (Nat.le_refl _) hN ha (j := 10) (by omega) ⟨by omega, by omega, by omega, fun _ => ⟨(p + 1 + m) % l, by omega, rfl⟩, by omega⟩
  have l1 : cp_up C (pA 3 a) 10 (nI ((p + 1 + m) % l)) (pA 3 a) 3 = 1 := by rw [up_AA, if_pos rfl, upd_ne (by omega)]; exact hl
  have l7 : cp_up C (pA 3 a) 10 (nI ((p + 1 + m) % l)) (pA 3 a) 7 = C (pA 3 a) 7 := by rw [up_AA, if_pos rfl, upd_ne (by omega)]
  have l9 : cp_up C (pA 3 a) 10 (nI ((p + 1 + m) % l)) (pA 3 a) 9 = nI l := by rw [up_AA, if_pos rfl, upd_ne (by omega)]; exact h9
  have lR : cp_up C (pA 3 a) 10 (nI ((p + 1 + m) % l)) (pR 3 a) = C (pR 3 a) := up_AR
  have q4 : cp_up R 144 (200 + 64 * a + 4) (nI ((p + 1 + m) % l)) 144 (200 + 64 * a + 4) = nI ((p + 1 + m) % l) := by rw [cp_up_eq, upd_eq]
  have t0 : (0 : Int32) = nI 0 := rfl
  have t1' : (1 : Int32) = nI 1 := rfl
  have t2' : (2 : Int32) = nI 2 := rfl
  have eC : (((nI p + (1 : Int32)) + nI m)) = nI (p + 1 + m) := by rw [nk_1, nI_add]
  unfold fn_X3_operate fn_X6_operate
  rw [bind_of (an_fl P ha), show fn_X1_geneBehindPlace L q (pA 3 a) 0 C = _ from a0, bind_of rfl]
  dsimp only
  rw [bind_of (an_fl P ha), show fn_X1_geneBehindPlace L q (pA 3 a) 1 C = _ from a1, bind_of rfl]
  dsimp only
  rw [bind_of (an_fl P ha), show fn_X1_geneBehindPlace L q (pA 3 a) 2 C = _ from a2, bind_of rfl]
  dsimp only
  rw [bind_of (an_gI P ha 10 (by decide)), G2, hG, bind_of t1, bind_of (an_fl P ha), p2, m2, eC, bind_of (wr_eq P ha h9 h0 h1 (by omega))]
  dsimp only
  rw [bind_of (an_pI P ha 10 _ (by decide)), fn_X6_at, bind_of rfl, re_now O, bind_of rfl, at_eq]
  dsimp only
  rw [nk_5, bind_of (re_I O (by omega)), bind_of rfl, nk_4, bind_of (re_I O (by omega)), r4, r5, bind_of (re_fl O), bind_of b0]
  dsimp only
  rw [G2, hG, bind_of (ops_eq ho), m2]
  dsimp only
  rw [bind_of (re_fl O), nk_1, bind_of b1]
  dsimp only
  rw [bind_of (re_fl O), nk_2, bind_of b2]
  dsimp only
  rw [bind_of rfl, nk_10, i2, nI_add, bind_of (re_I O (by omega)), ri, bind_of rfl, bind_of (nz_nI h0 (by omega)), nI_add, pk_rem (by omega) h0 (by omega), bind_of (re_S O (by omega))]
  generalize cp_up C (pA 3 a) 10 (nI ((p + 1 + m) % l)) = C1 at H1 l1 l7 l9 lR ⊢
  generalize cp_up R 144 (200 + 64 * a + 4) (nI ((p + 1 + m) % l)) = R1 at H1 q4 ⊢
  have S1 : rSh w h C1 R1 := S.mv H1.2.1 H1.2.2.1
  have hbi : cp_by (C (pR 3 a) i) := (H.1.2.2.2.2.1 a ha).2.1 i i1
  match o, ho with
  | 0, _ =>
    simp only [cd_0, ↓reduceIte]
    exact ⟨_, _, _, rfl, rfl, Or.inl ⟨rfl, H1, l7, l9⟩⟩
  | 1, _ =>
    obtain ⟨z, z1, z2⟩ := sim_reckon (q := q) (o := 1) hNe O P hq hB S1 H1.1 ha l1 g1 g2 (by omega)
    simp only [cd_1, ↓reduceIte]
    rw [bind_of (an_rg P ha), bind_of (mi_fl O), bind_of z1]
    dsimp only
    rw [by_of z, bind_of (an_rgS P ha i1), bind_of (re_fl O), bind_of z2]
    dsimp only
    rw [bind_of rfl, bind_of (re_S O (by omega))]
    exact ⟨_, _, _, rfl, rfl, Or.inl ⟨rfl, sm_rg H1 hN ha i1 (by_of z), by rw [up_RA]; exact l7, by rw [up_RA]; exact l9⟩⟩
  | 2, _ =>
    obtain ⟨z, z1, z2⟩ := sim_reckon (q := q) (o := 2) hNe O P hq hB S1 H1.1 ha l1 g1 g2 (by omega)
    simp only [cd_2, ↓reduceIte]
    rw [bind_of (an_rg P ha), bind_of (mi_fl O), bind_of z1]
    dsimp only
    rw [by_of z, bind_of (an_rgS P ha i1), bind_of (re_fl O), bind_of z2]
    dsimp only
    rw [bind_of rfl, bind_of (re_S O (by omega))]
    exact ⟨_, _, _, rfl, rfl, Or.inl ⟨rfl, sm_rg H1 hN ha i1 (by_of z), by rw [up_RA]; exact l7, by rw [up_RA]; exact l9⟩⟩
  | 3, _ =>
    obtain ⟨z, z1, z2⟩ := sim_reckon (q := q) (o := 3) hNe O P hq hB S1 H1.1 ha l1 g1 g2 (by omega)
    simp only [cd_3, ↓reduceIte]
    rw [bind_of (an_rg P ha), bind_of (mi_fl O), bind_of z1]
    dsimp only
    rw [by_of z, bind_of (an_rgS P ha i1), bind_of (re_fl O), bind_of z2]
    dsimp only
    rw [bind_of rfl, bind_of (re_S O (by omega))]
    exact ⟨_, _, _, rfl, rfl, Or.inl ⟨rfl, sm_rg H1 hN ha i1 (by_of z), by rw [up_RA]; exact l7, by rw [up_RA]; exact l9⟩⟩
  | 4, _ =>
    obtain ⟨z, z1, z2⟩ := sim_reckon (q := q) (o := 4) hNe O P hq hB S1 H1.1 ha l1 g1 g2 (by omega)
    simp only [cd_4, ↓reduceIte]
    rw [bind_of (an_rg P ha), bind_of (mi_fl O), bind_of z1]
    dsimp only
    rw [by_of z, bind_of (an_rgS P ha i1), bind_of (re_fl O), bind_of z2]
    dsimp only
    rw [bind_of rfl, bind_of (re_S O (by omega))]
    exact ⟨_, _, _, rfl, rfl, Or.inl ⟨rfl, sm_rg H1 hN ha i1 (by_of z), by rw [up_RA]; exact l7, by rw [up_RA]; exact l9⟩⟩
  | 5, _ =>
    obtain ⟨z, z1, z2⟩ := sim_reckon (q := q) (o := 5) hNe O P hq hB S1 H1.1 ha l1 g1 g2 (by omega)
    simp only [cd_5, ↓reduceIte]
    rw [bind_of (an_rg P ha), bind_of (mi_fl O), bind_of z1]
    dsimp only
    rw [by_of z, bind_of (an_rgS P ha i1), bind_of (re_fl O), bind_of z2]
    dsimp only
    rw [bind_of rfl, bind_of (re_S O (by omega))]
    exact ⟨_, _, _, rfl, rfl, Or.inl ⟨rfl, sm_rg H1 hN ha i1 (by_of z), by rw [up_RA]; exact l7, by rw [up_RA]; exact l9⟩⟩
  | 6, _ =>
    obtain ⟨z, z1, z2⟩ := sim_reckon (q := q) (o := 6) hNe O P hq hB S1 H1.1 ha l1 g1 g2 (by omega)
    simp only [cd_6, ↓reduceIte]
    rw [bind_of (an_rg P ha), bind_of (mi_fl O), bind_of z1]
    dsimp only
    rw [by_of z, bind_of (an_rgS P ha i1), bind_of (re_fl O), bind_of z2]
    dsimp only
    rw [bind_of rfl, bind_of (re_S O (by omega))]
    exact ⟨_, _, _, rfl, rfl, Or.inl ⟨rfl, sm_rg H1 hN ha i1 (by_of z), by rw [up_RA]; exact l7, by rw [up_RA]; exact l9⟩⟩
  | 7, _ =>
    obtain ⟨z, z1, z2⟩ := sim_reckon (q := q) (o := 7) hNe O P hq hB S1 H1.1 ha l1 g1 g2 (by omega)
    simp only [cd_7, ↓reduceIte]
    rw [bind_of (an_rg P ha), bind_of (mi_fl O), bind_of z1]
    dsimp only
    rw [by_of z, bind_of (an_rgS P ha i1), bind_of (re_fl O), bind_of z2]
    dsimp only
    rw [bind_of rfl, bind_of (re_S O (by omega))]
    exact ⟨_, _, _, rfl, rfl, Or.inl ⟨rfl, sm_rg H1 hN ha i1 (by_of z), by rw [up_RA]; exact l7, by rw [up_RA]; exact l9⟩⟩
  | 8, _ =>
    obtain ⟨z, z1, z2⟩ := sim_reckon (q := q) (o := 8) hNe O P hq hB S1 H1.1 ha l1 g1 g2 (by omega)
    simp only [cd_8, ↓reduceIte]
    rw [bind_of (an_rg P ha), bind_of (mi_fl O), bind_of z1]
    dsimp only
    rw [by_of z, bind_of (an_rgS P ha i1), bind_of (re_fl O), bind_of z2]
    dsimp only
    rw [bind_of rfl, bind_of (re_S O (by omega))]
    exact ⟨_, _, _, rfl, rfl, Or.inl ⟨rfl, sm_rg H1 hN ha i1 (by_of z), by rw [up_RA]; exact l7, by rw [up_RA]; exact l9⟩⟩
  | 9, _ =>
    obtain ⟨z, z1, z2⟩ := sim_reckon (q := q) (o := 9) hNe O P hq hB S1 H1.1 ha l1 g1 g2 (by omega)
    simp only [cd_9, ↓reduceIte]
    rw [bind_of (an_rg P ha), bind_of (mi_fl O), bind_of z1]
    dsimp only
    rw [by_of z, bind_of (an_rgS P ha i1), bind_of (re_fl O), bind_of z2]
    dsimp only
    rw [bind_of rfl, bind_of (re_S O (by omega))]
    exact ⟨_, _, _, rfl, rfl, Or.inl ⟨rfl, sm_rg H1 hN ha i1 (by_of z), by rw [up_RA]; exact l7, by rw [up_RA]; exact l9⟩⟩
  | 14, _ =>
    obtain ⟨z, z1, z2⟩ := sim_reckon (q := q) (o := 14) hNe O P hq hB S1 H1.1 ha l1 g1 g2 (by omega)
    simp only [cd_14, ↓reduceIte]
    rw [bind_of (an_rg P ha), bind_of (mi_fl O), bind_of z1]
    dsimp only
    rw [by_of z, bind_of (an_rgS P ha i1), bind_of (re_fl O), bind_of z2]
    dsimp only
    rw [bind_of rfl, bind_of (re_S O (by omega))]
    exact ⟨_, _, _, rfl, rfl, Or.inl ⟨rfl, sm_rg H1 hN ha i1 (by_of z), by rw [up_RA]; exact l7, by rw [up_RA]; exact l9⟩⟩
  | 15, _ =>
    obtain ⟨z, z1, z2⟩ := sim_reckon (q := q) (o := 15) hNe O P hq hB S1 H1.1 ha l1 g1 g2 (by omega)
    simp only [cd_15, ↓reduceIte]
    rw [bind_of (an_rg P ha), bind_of (mi_fl O), bind_of z1]
    dsimp only
    rw [by_of z, bind_of (an_rgS P ha i1), bind_of (re_fl O), bind_of z2]
    dsimp only
    rw [bind_of rfl, bind_of (re_S O (by omega))]
    exact ⟨_, _, _, rfl, rfl, Or.inl ⟨rfl, sm_rg H1 hN ha i1 (by_of z), by rw [up_RA]; exact l7, by rw [up_RA]; exact l9⟩⟩
  | 10, _ =>
    obtain ⟨⟨-, -, k3', -, -⟩, -⟩ := rel_liv H1.1 ha l1
    have rj := (k3' j j1).symm
    obtain ⟨n, n1, n2⟩ := and15 (C1 (pR 3 a) j)
    simp only [cd_10, ↓reduceIte]
    rw [bind_of (an_me P ha), bind_of (mi_fl O), fn_X3_memoryIndex, an_rg P ha, bind_of rfl, j2, bind_of (an_rgI P ha j1), n2, bind_of rfl]
    dsimp only
    rw [bind_of rfl, bind_of (an_rgI P ha i1), lR, hbi, bind_of (an_meS P ha n1), bind_of rfl, bind_of rfl, nI_add, bind_of (re_I O (by omega)), rj, n2, nk_18, nI_add, bind_of (re_S O (by omega))]
    exact ⟨_, _, _, rfl, rfl, Or.inl ⟨rfl, sm_me H1 hN ha n1 hbi, by rw [up_MA]; exact l7, by rw [up_MA]; exact l9⟩⟩
  | 11, _ =>
    obtain ⟨p', f1, f2, f3, f4⟩ := sim_jump (q := q) O P hN H1 ha l9 h0 h1 g1
    simp only [cd_11, ↓reduceIte]
    rw [bind_of (mi_fl O), bind_of f2, bind_of rfl, bind_of (nz_nI h0 (by omega)), f3, bind_of (re_S O (by omega))]
    exact ⟨_, _, _, rfl, rfl, Or.inl ⟨rfl, f4, by rw [up_AA, if_pos rfl, upd_ne (by omega)]; exact l7, by rw [up_AA, if_pos rfl, upd_ne (by omega)]; exact l9⟩⟩
  | 12, _ =>
    obtain ⟨p', f1, f2, f3, f4⟩ := sim_jump (q := q) O P hN H1 ha l9 h0 h1 g2
    simp only [cd_12, ↓reduceIte]
    rw [bind_of (an_rg P ha), bind_of (an_rgI P ha i1), lR]
    by_cases hz : C (pR 3 a) i = 0
    · rw [if_pos hz, if_pos hz, bind_of (mi_fl O), bind_of f2, bind_of rfl, bind_of (nz_nI h0 (by omega)), f3, bind_of (re_S O (by omega))]
      exact ⟨_, _, _, rfl, rfl, Or.inl ⟨rfl, f4, by rw [up_AA, if_pos rfl, upd_ne (by omega)]; exact l7, by rw [up_AA, if_pos rfl, upd_ne (by omega)]; exact l9⟩⟩
    · rw [if_neg hz, if_neg hz, bind_of rfl, bind_of rfl, bind_of (re_I O (by omega)), bind_of (re_S O (by omega)), cp_up_same rfl]
      exact ⟨_, _, _, rfl, rfl, Or.inl ⟨rfl, H1, l7, l9⟩⟩
  | 13, _ =>
    obtain ⟨p', f1, f2, f3, f4⟩ := sim_jump (q := q) O P hN H1 ha l9 h0 h1 g2
    simp only [cd_13, ↓reduceIte]
    rw [bind_of (an_rg P ha), bind_of (an_rgI P ha i1), lR]
    by_cases hz : 0 ≤ C (pR 3 a) i
    · rw [if_pos hz, if_pos hz, bind_of rfl, bind_of rfl, bind_of (re_I O (by omega)), bind_of (re_S O (by omega)), cp_up_same rfl]
      exact ⟨_, _, _, rfl, rfl, Or.inl ⟨rfl, H1, l7, l9⟩⟩
    · rw [if_neg hz, if_neg hz, bind_of (mi_fl O), bind_of f2, bind_of rfl, bind_of (nz_nI h0 (by omega)), f3, bind_of (re_S O (by omega))]
      exact ⟨_, _, _, rfl, rfl, Or.inl ⟨rfl, f4, by rw [up_AA, if_pos rfl, upd_ne (by omega)]; exact l7, by rw [up_AA, if_pos rfl, upd_ne (by omega)]; exact l9⟩⟩
  | 16, _ =>
    obtain ⟨C2, R2, z1, z2, z3⟩ := sim_act (q := q) (o := 16) hNe O P hq hB S H1 ha l1 g1 (by omega)
    simp only [cd_16, ↓reduceIte]
    rw [bind_of (mi_fl O), bind_of z1, bind_of (re_fl O), bind_of z2]
    exact ⟨_, _, _, rfl, rfl, Or.inr ⟨rfl, z3⟩⟩
  | 17, _ =>
    obtain ⟨C2, R2, z1, z2, z3⟩ := sim_act (q := q) (o := 17) hNe O P hq hB S H1 ha l1 g1 (by omega)
    simp only [cd_17, ↓reduceIte]
    rw [bind_of (mi_fl O), bind_of z1, bind_of (re_fl O), bind_of z2]
    exact ⟨_, _, _, rfl, rfl, Or.inr ⟨rfl, z3⟩⟩
  | 18, _ =>
    obtain ⟨C2, R2, z1, z2, z3⟩ := sim_act (q := q) (o := 18) hNe O P hq hB S H1 ha l1 g1 (by omega)
    simp only [cd_18, ↓reduceIte]
    rw [bind_of (mi_fl O), bind_of z1, bind_of (re_fl O), bind_of z2]
    exact ⟨_, _, _, rfl, rfl, Or.inr ⟨rfl, z3⟩⟩
  | 19, _ =>
    obtain ⟨C2, R2, z1, z2, z3⟩ := sim_act (q := q) (o := 19) hNe O P hq hB S H1 ha l1 g1 (by omega)
    simp only [cd_19, ↓reduceIte]
    rw [bind_of (mi_fl O), bind_of z1, bind_of (re_fl O), bind_of z2]
    exact ⟨_, _, _, rfl, rfl, Or.inr ⟨rfl, z3⟩⟩
  | 20, _ =>
    obtain ⟨C2, R2, z1, z2, z3⟩ := sim_act (q := q) (o := 20) hNe O P hq hB S H1 ha l1 g1 (by omega)
    simp only [cd_20, ↓reduceIte]
    rw [bind_of (mi_fl O), bind_of z1, bind_of (re_fl O), bind_of z2]
    exact ⟨_, _, _, rfl, rfl, Or.inr ⟨rfl, z3⟩⟩
  | 21, _ =>
    obtain ⟨C2, R2, z1, z2, z3⟩ := sim_act (q := q) (o := 21) hNe O P hq hB S H1 ha l1 g1 (by omega)
    simp only [cd_21, ↓reduceIte]
    rw [bind_of (mi_fl O), bind_of z1, bind_of (re_fl O), bind_of z2]
    exact ⟨_, _, _, rfl, rfl, Or.inr ⟨rfl, z3⟩⟩
  | o + 22, h => omega
end OPE
