/-! The acts -/
theorem sim_pay' {L : cp_Lay} {w h N B q a x : Nat} {C0 R0 C R : cp_Dt} (O : cp_ok L w h) (P : cp_okP L N 3) (hN : N ≤ 100) (hB : B < 2 ^ 30) (hx : x < 2 ^ 30) (H : Sm N B C0 R0 C R) (ha : a < 16) (hl : C (pA 3 a) 3 = 1) :
    ∃ C' R', fn_X4_pay L q 3 (pA 3 a) (nI x) C = some C' ∧ fn_X6_pay L q 143 (nI a) (nI x) R = some R' ∧ Sm N B C0 R0 C' R' ∧ (∀ c j, j ≠ 7 → C' (pA 3 c) j = C (pA 3 c) j) ∧ (∀ c, c ≠ a → C' (pA 3 c) = C (pA 3 c)) ∧ (∀ c, C' (pG 3 c) = C (pG 3 c)) ∧ C' (pDw 3) = C (pDw 3) := by
  obtain ⟨⟨k1, k2, k3, k4, k5⟩, v1, v2, ⟨e, e1, e2⟩, v4, v5, v6⟩ := rel_liv H.1 ha hl
  have r2 : R 144 (200 + 64 * a + 2) = nI e := (k2 7 (by omega) (by omega) (by omega)).symm.trans e2
  have p5 : R 144 1224 = C 3 5 := (H.1.2.2.2.2.2.2.1 5 (by omega) (by omega)).symm
  refine ⟨cp_up (cp_up C (pA 3 a) 7 (nI (e - min x e))) 3 5 (C 3 5 + nI (min x e)), cp_up (cp_up R 144 (200 + 64 * a + 2) (nI (e - min x e))) 144 1224 (C 3 5 + nI (min x e)), ?_, ?_, ?_, ?_, ?_, ?_, ?_⟩
  · simp only [fn_X4_pay, an_gI P ha 7 (by decide), Option.bind_some, an_pI P ha 7 _ (by decide), po_gI P 5 (by decide), po_pI P 5 _ (by decide), up_Ao, e2]
    rw [cp_mn_nI (by omega) (by omega), pk_sub (by omega)]
  · simp (disch := omega) only [fn_X6_pay, re_now O, Option.bind_some, fn_X6_at, at_eq, nk_2, kk_1224, re_I O, re_S O, r2, least_nI]
    rw [pk_sub (by omega), cp_up_eq, upd_ne (by omega), p5]
  · exact sm_po (sm_an H (Nat.le_refl _) hN ha (j := 7) (by omega) ⟨by omega, by omega, fun _ => ⟨e - min x e, by omega, rfl⟩, by omega, by omega⟩) hN (j := 5) (by omega) ⟨by omega, by omega⟩
  · intro c j hj
    rw [up_oA, up_AA]
    by_cases hca : c = a
    · subst hca
      rw [if_pos rfl, upd_ne hj]
    · rw [if_neg hca]
  · intro c hca
    rw [up_oA, up_AA, if_neg hca]
  · intro c
    rw [up_oG, up_AG]
  · rw [up_od, up_Ad]
section DO
variable {L : cp_Lay} {w h B q a N : Nat} {C0 R0 C R : cp_Dt}
theorem sim_turn (O : cp_ok L w h) (P : cp_okP L N 3) (hN : N ≤ 100) (H : Sm N B C0 R0 C R) (ha : a < 16) (hl : C (pA 3 a) 3 = 1) (x3 : Int32) : ∃ C' R', fn_X3_act L q 141 (pA 3 a) (nI 16) x3 C = some C' ∧ fn_X6_act L q 143 (nI a) (nI 16) x3 R = some R' ∧ Sm N B C0 R0 C' R' := by
  obtain ⟨⟨k1, k2, -⟩, -⟩ := rel_liv H.1 ha hl
  have r1 : R 144 (200 + 64 * a + 1) = C (pA 3 a) 6 := (k2 6 (by omega) (by omega) (by omega)).symm
  obtain ⟨k, m1, m2⟩ := and3 (C (pA 3 a) 6 + x3)
  refine ⟨cp_up C (pA 3 a) 6 (nI k), cp_up R 144 (200 + 64 * a + 1) (nI k), ?_, ?_, sm_an H (Nat.le_refl _) hN ha (j := 6) (by omega) ⟨by omega, fun _ => ⟨k, m1, rfl⟩, by omega, by omega, by omega⟩⟩
  · unfold fn_X3_act
    simp only [cd_16, ↓reduceIte]
    rw [bind_of (an_gI P ha 6 (by decide)), bind_of (an_pI P ha 6 _ (by decide)), m2]
  · unfold fn_X6_act
    rw [fn_X6_at, bind_of rfl, re_now O, bind_of rfl, at_eq, bind_of (re_I O (by omega))]
    simp only [cd_16, ↓reduceIte]
    rw [bind_of rfl, bind_of rfl, nk_1, bind_of (re_I O (by omega)), bind_of (re_S O (by omega)), r1, m2]
theorem sim_ask (O : cp_ok L w h) (P : cp_okP L N 3) (hN : N ≤ 100) (H : Sm N B C0 R0 C R) (ha : a < 16) (x3 : Int32) : ∃ C' R', fn_X3_act L q 141 (pA 3 a) (nI 21) x3 C = some C' ∧ fn_X6_act L q 143 (nI a) (nI 21) x3 R = some R' ∧ Sm N B C0 R0 C' R' := by
  refine ⟨cp_up C (pA 3 a) 4 1, cp_up R 144 (200 + 64 * a + 9) 1, ?_, ?_, sm_an H (Nat.le_refl _) hN ha (j := 4) (by omega) ⟨fun _ => Or.inr rfl, by omega, by omega, by omega, by omega⟩⟩
  · unfold fn_X3_act
    simp only [cd_21, ↓reduceIte]
    rw [bind_of (an_pZ P ha 4 _ (Or.inr rfl) (by decide))]
  · unfold fn_X6_act
    rw [fn_X6_at, bind_of rfl, re_now O, bind_of rfl, at_eq, bind_of (re_I O (by omega))]
    simp only [cd_21, ↓reduceIte]
    rw [bind_of rfl, nk_9, bind_of (re_S O (by omega))]
theorem sim_mark (O : cp_ok L w h) (P : cp_okP L N 3) (hN : N ≤ 100) (H : Sm N B C0 R0 C R) (ha : a < 16) (hl : C (pA 3 a) 3 = 1) (x3 : Int32) : ∃ C' R', fn_X3_act L q 141 (pA 3 a) (nI 20) x3 C = some C' ∧ fn_X6_act L q 143 (nI a) (nI 20) x3 R = some R' ∧ Sm N B C0 R0 C' R' := by
  obtain ⟨⟨k1, k2, k3, -⟩, ⟨c, c1, c2, c3⟩, -⟩ := rel_liv H.1 ha hl
  obtain ⟨i, i1, i2⟩ := and7 x3
  have r0 : R 144 (200 + 64 * a) = nI c := k1.trans c2
  have ri := (k3 i i1).symm
  have hb : cp_by (C (pR 3 a) i) := (H.1.2.2.2.2.1 a ha).2.1 i i1
  refine ⟨cp_up C (pMk 3) c (C (pR 3 a) i), cp_up R 144 (100 + c) (C (pR 3 a) i), ?_, ?_, sm_mk H hN c1 hb⟩
  · unfold fn_X3_act
    simp only [cd_20, ↓reduceIte]
    rw [mi_po O, bind_of rfl, bind_of (po_mk P), bind_of (an_gI P ha 5 (by decide)), bind_of (an_rg P ha), i2, bind_of (an_rgI P ha i1), c2, hb, bind_of (po_mkS P (by omega) c1)]
  · unfold fn_X6_act
    rw [fn_X6_at, bind_of rfl, re_now O, bind_of rfl, at_eq, bind_of (re_I O (by omega))]
    simp only [cd_20, ↓reduceIte]
    rw [bind_of rfl, bind_of rfl, nk_10, i2, nI_add, bind_of (re_I O (by omega)), r0, k100, bind_of (re_S O (by omega)), ri]
theorem sim_eat (O : cp_ok L w h) (P : cp_okP L N 3) (hN : N ≤ 100) (hB : B < 2 ^ 30) (H : Sm N B C0 R0 C R) (ha : a < 16) (hl : C (pA 3 a) 3 = 1) (x3 : Int32) : ∃ C' R', fn_X3_act L q 141 (pA 3 a) (nI 18) x3 C = some C' ∧ fn_X6_act L q 143 (nI a) (nI 18) x3 R = some R' ∧ Sm N (B + 63) C0 R0 C' R' := by
  obtain ⟨⟨k1, k2, k3, -⟩, ⟨c, c1, c2, c3⟩, -, ⟨e, e1, e2⟩, -⟩ := rel_liv H.1 ha hl
  obtain ⟨g1, g, g2, g3⟩ := H.1.1 c c1
  have r0 : R 144 (200 + 64 * a) = nI c := k1.trans c2
  have r2 : R 144 (200 + 64 * a + 2) = nI e := (k2 7 (by omega) (by omega) (by omega)).symm.trans e2
  have rg : R 144 c = nI g := g1.symm.trans g3
  have t30 : (30 : Int32) = nI 30 := rfl
  refine ⟨cp_up (cp_up C (pGr 3) c (nI (g - min 30 g))) (pA 3 a) 7 (nI (e + min 30 g)), cp_up (cp_up R 144 c (nI (g - min 30 g))) 144 (200 + 64 * a + 2) (nI (e + min 30 g)), ?_, ?_, ?_⟩
  · unfold fn_X3_act
    simp only [cd_18, ↓reduceIte]
    rw [bind_of (mi_fl O), fn_X3_eat, mi_po O, bind_of rfl, bind_of (po_gr P), bind_of (an_gI P ha 5 (by decide)), c2, bind_of (po_grI P (by omega) c1), bind_of rfl, bind_of (po_gr P), bind_of (an_gI P ha 5 (by decide)), c2, bind_of (po_grI P (by omega) c1), bind_of (po_grS P (by omega) c1), bind_of (an_gI P ha 7 (by decide)), bind_of (an_pI P ha 7 _ (by decide)), up_gA, g3, e2, t30, cp_mn_nI (by omega) (by omega), pk_sub (by omega), nI_add]
    rfl
  · unfold fn_X6_act
    rw [fn_X6_at, bind_of rfl, re_now O, bind_of rfl, at_eq, bind_of (re_I O (by omega))]
    simp only [cd_18, ↓reduceIte]
    rw [bind_of rfl, r0, bind_of (re_I O (by omega)), rg, t30, bind_of (least_nI (by omega) (by omega)), bind_of rfl]
    dsimp only
    rw [bind_of (re_I O (by omega)), rg, pk_sub (by omega), bind_of (re_S O (by omega)), bind_of rfl, nk_2, bind_of (re_I O (by omega)), bind_of (re_S O (by omega)), cp_up_eq, upd_ne (by omega), r2, nI_add]
  · exact sm_an (sm_gr H hN c1 (g := g - min 30 g) (by omega) rfl) (by omega) hN ha (j := 7) (by omega) ⟨by omega, by omega, fun _ => ⟨e + min 30 g, by omega, rfl⟩, by omega, by omega⟩
theorem sim_step (hNe : N = w * h) (O : cp_ok L w h) (P : cp_okP L N 3) (hq : 2000 ≤ q) (hB : B < 2 ^ 30) (S : rSh w h C0 R0) (H : Sm N B C0 R0 C R) (ha : a < 16) (hl : C (pA 3 a) 3 = 1) (x3 : Int32) : ∃ C' R', fn_X3_act L q 141 (pA 3 a) (nI 17) x3 C = some C' ∧ fn_X6_act L q 143 (nI a) (nI 17) x3 R = some R' ∧ Sm N B C0 R0 C' R' := by
  have hN : N ≤ 100 := by rw [hNe]; exact N_le O.1
  obtain ⟨⟨k1, k2, k3, -⟩, ⟨c, c1, c2, c3⟩, -⟩ := rel_liv H.1 ha hl
  have r0 : R 144 (200 + 64 * a) = nI c := k1.trans c2
  obtain ⟨C1, R1, p1, p2, H1, p3, -, -, -⟩ := sim_pay' (q := q) (x := 2) O P hN hB (by omega) H ha hl
  have hl1 : C1 (pA 3 a) 3 = 1 := (p3 a 3 (by omega)).trans hl
  have hh1 : C1 (pA 3 a) 5 = nI c := (p3 a 5 (by omega)).trans c2
  have S1 : rSh w h C1 R1 := S.mv H1.2.1 H1.2.2.1
  have Hr := H1.1
  subst hNe
  obtain ⟨c', c1', a1, a2⟩ := sim_ahead (q := q) O P S1 Hr ha hl1
  have t2 : (2 : Int32) = nI 2 := rfl
  have e3 : fn_X3_act L q 141 (pA 3 a) (nI 17) x3 C = fn_X3_goAhead L q 141 (pA 3 a) C1 := by
    unfold fn_X3_act
    simp only [cd_17, ↓reduceIte]
    rw [bind_of (mi_po O), bind_of (po_fl P), t2, bind_of p1, bind_of (mi_fl O)]
    cases fn_X3_goAhead L q 141 (pA 3 a) C1 <;> rfl
  have e4 : fn_X6_act L q 143 (nI a) (nI 17) x3 R = if 0 ≤ C1 (pDw 3) c' then some (cp_up R1 144 (200 + 64 * a) (nI c)) else some (cp_up R1 144 (200 + 64 * a) (nI c')) := by
    unfold fn_X6_act
    rw [fn_X6_at, bind_of rfl, re_now O, bind_of rfl, at_eq, bind_of (re_I O (by omega))]
    simp only [cd_17, ↓reduceIte]
    rw [re_fl O, bind_of rfl, t2, bind_of p2, bind_of rfl, bind_of a2, bind_of rfl, bind_of rfl, bind_of (ref_inCell O hN hq Hr c1'), r0, bind_of (re_S O (by omega)), bind_of (re_S O (by omega))]
  have e5 : fn_X3_goAhead L q 141 (pA 3 a) C1 = if C1 (pDw 3) c' = -1 then some (cp_up (cp_up (cp_up C1 (pDw 3) c' (C1 (pDw 3) c)) (pDw 3) c (-1)) (pA 3 a) 5 (nI c')) else some C1 := by
    unfold fn_X3_goAhead
    rw [mi_po O, bind_of rfl, bind_of (po_fl P), bind_of a1]
    dsimp only
    rw [bind_of rfl, bind_of (po_dw P), bind_of (po_dwI P (by omega) c1'), bind_of rfl, bind_of (po_dw P), bind_of rfl, bind_of (po_dw P), bind_of (an_gI P ha 5 (by decide)), hh1, bind_of (po_dwI P (by omega) c1), bind_of (po_dwS P (by omega) c1'), bind_of rfl, bind_of (po_dw P), bind_of (an_gI P ha 5 (by decide)), up_dA, hh1, bind_of (po_dwS P (by omega) c1), bind_of (an_pI P ha 5 _ (by decide))]
  rw [e3, e4, e5]
  rcases dw_or Hr c1' with g | ⟨x, x1, x2, -⟩
  · have hd : C1 (pDw 3) c = nI a := by
      obtain ⟨-, ⟨cc, v1, v2, v3⟩, -⟩ := rel_liv Hr ha hl1
      have : cc = c := nI_inj (by omega) (by omega) (v2.symm.trans hh1)
      rw [← this]
      exact v3
    rw [g, if_pos rfl, if_neg (by decide), hd]
    exact ⟨_, _, rfl, rfl, sm_mv H1 hN ha hl1 c1 hh1 c1' g⟩
  · rw [x2, if_neg (nI_m1 (by omega)), if_pos (nI_pos' (by omega))]
    refine ⟨_, _, rfl, rfl, ?_⟩
    obtain ⟨⟨g1, -⟩, -⟩ := rel_liv Hr ha hl1
    rw [cp_up_same (g1.trans hh1)]
    exact H1
theorem sim_give (hNe : N = w * h) (O : cp_ok L w h) (P : cp_okP L N 3) (hq : 2000 ≤ q) (hB : B < 2 ^ 30) (S : rSh w h C0 R0) (H : Sm N B C0 R0 C R) (ha : a < 16) (hl : C (pA 3 a) 3 = 1) (x3 : Int32) : ∃ C' R', fn_X3_act L q 141 (pA 3 a) (nI 19) x3 C = some C' ∧ fn_X6_act L q 143 (nI a) (nI 19) x3 R = some R' ∧ Sm N (B + 63) C0 R0 C' R' := by
  have hN : N ≤ 100 := by rw [hNe]; exact N_le O.1
  obtain ⟨⟨k1, k2, k3, -⟩, -, -, ⟨e, e1, e2⟩, -⟩ := rel_liv H.1 ha hl
  have r2 : R 144 (200 + 64 * a + 2) = nI e := (k2 7 (by omega) (by omega) (by omega)).symm.trans e2
  obtain ⟨i, i1, i2⟩ := and63 x3
  have S1 : rSh w h C R := S.mv H.2.1 H.2.2.1
  have Hr := H.1
  subst hNe
  obtain ⟨c', c1', a1, a2⟩ := sim_ahead (q := q) O P S1 Hr ha hl
  have e3 : fn_X3_act L q 141 (pA 3 a) (nI 19) x3 C = fn_X3_give L q 141 (pA 3 a) (nI i) C := by
    unfold fn_X3_act
    simp only [cd_19, ↓reduceIte]
    rw [bind_of (mi_fl O), i2]
    cases fn_X3_give L q 141 (pA 3 a) (nI i) C <;> rfl
  rw [e3]
  unfold fn_X3_give fn_X6_act
  rw [mi_po O, bind_of rfl, bind_of (po_dw P), bind_of rfl, bind_of (po_fl P), bind_of a1, bind_of (po_dwI P (by omega) c1'), fn_X6_at, bind_of rfl, re_now O, bind_of rfl, at_eq, bind_of (re_I O (by omega))]
  simp only [cd_19, ↓reduceIte]
  rw [re_fl O, bind_of rfl, bind_of a2, bind_of rfl, bind_of (ref_inCell O hN hq Hr c1')]
  dsimp only
  rcases dw_or Hr c1' with g | ⟨x, x1, x2, x3', x4⟩
  · rw [g, if_pos rfl, if_neg (show ¬ (0 : Int32) ≤ -1 by decide), bind_of rfl, nk_2, bind_of (re_I O (by omega)), Int32.sub_zero, bind_of (re_S O (by omega)), if_pos (show (-1 : Int32) < 0 by decide), cp_up_same rfl]
    exact ⟨_, _, rfl, rfl, H.more (by omega)⟩
  · rw [x2, if_neg (nI_m1 (by omega)), if_pos (nI_pos' (by omega)), bind_of (an_gI P ha 7 (by decide)), bind_of (an_gI P ha 7 (by decide)), e2, cp_mn_nI (by omega) (by omega), pk_sub (by omega), bind_of (an_pI P ha 7 _ (by decide)), bind_of rfl, bind_of (po_ar P), bind_of (po_an P x1), bind_of (an_gI P x1 7 (by decide)), bind_of (an_pI P x1 7 _ (by decide)), bind_of rfl, nk_2, bind_of (re_I O (by omega)), r2, i2, bind_of (least_nI (by omega) (by omega)), bind_of rfl]
    dsimp only
    rw [bind_of (re_I O (by omega)), r2, pk_sub (by omega), bind_of (re_S O (by omega)), if_neg (nI_pos (by omega)), bind_of rfl, fn_X6_at, bind_of rfl]
    dsimp only
    rw [at_eq, nk_2, bind_of (re_I O (by omega)), bind_of (re_S O (by omega))]
    have H1 : Sm (w * h) B C0 R0 (cp_up C (pA 3 a) 7 (nI (e - min i e))) (cp_up R 144 (200 + 64 * a + 2) (nI (e - min i e))) := sm_an H (Nat.le_refl _) hN ha (j := 7) (by omega) ⟨by omega, by omega, fun _ => ⟨e - min i e, by omega, rfl⟩, by omega, by omega⟩
    have hx1 : cp_up C (pA 3 a) 7 (nI (e - min i e)) (pA 3 x) 3 = 1 := by
      rw [up_AA]
      by_cases hxa : x = a
      · subst hxa
        rw [if_pos rfl, upd_ne (by omega)]
        exact x3'
      · rw [if_neg hxa]
        exact x3'
    obtain ⟨⟨-, m2, -⟩, -, -, ⟨ex, f1, f2⟩, -⟩ := rel_liv H1.1 x1 hx1
    have m7 := (m2 7 (by omega) (by omega) (by omega)).symm.trans f2
    rw [show ro 7 = 2 from rfl] at m7
    rw [f2, m7, nI_add]
    exact ⟨_, _, rfl, rfl, sm_an H1 (by omega) hN x1 (j := 7) (by omega) ⟨by omega, by omega, fun _ => ⟨ex + min i e, by omega, rfl⟩, by omega, by omega⟩⟩
theorem sim_act {o : Nat} (hNe : N = w * h) (O : cp_ok L w h) (P : cp_okP L N 3) (hq : 2000 ≤ q) (hB : B < 2 ^ 30) (S : rSh w h C0 R0) (H : Sm N B C0 R0 C R) (ha : a < 16) (hl : C (pA 3 a) 3 = 1) (x3 : Int32) (ho : 16 ≤ o ∧ o < 22) : ∃ C' R', fn_X3_act L q 141 (pA 3 a) (nI o) x3 C = some C' ∧ fn_X6_act L q 143 (nI a) (nI o) x3 R = some R' ∧ Sm N (B + 63) C0 R0 C' R' := by
  have hN : N ≤ 100 := by rw [hNe]; exact N_le O.1
  obtain ⟨h1, h2⟩ := ho
  have up : (∃ C' R', fn_X3_act L q 141 (pA 3 a) (nI o) x3 C = some C' ∧ fn_X6_act L q 143 (nI a) (nI o) x3 R = some R' ∧ Sm N B C0 R0 C' R') → ∃ C' R', fn_X3_act L q 141 (pA 3 a) (nI o) x3 C = some C' ∧ fn_X6_act L q 143 (nI a) (nI o) x3 R = some R' ∧ Sm N (B + 63) C0 R0 C' R' := by
    rintro ⟨C', R', z1, z2, z3⟩
    exact ⟨C', R', z1, z2, z3.more (by omega)⟩
  match o, h1, h2 with
  | 16, _, _ => exact up (sim_turn O P hN H ha hl x3)
  | 17, _, _ => exact up (sim_step hNe O P hq hB S H ha hl x3)
  | 18, _, _ => exact sim_eat O P hN hB H ha hl x3
  | 19, _, _ => exact sim_give hNe O P hq hB S H ha hl x3
  | 20, _, _ => exact up (sim_mark O P hN H ha hl x3)
  | 21, _, _ => exact up (sim_ask O P hN H ha x3)
  | o + 22, _, h => omega
end DO
