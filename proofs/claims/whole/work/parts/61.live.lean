/-! A life's tick, all lives, the sun -/
theorem cp_up_comm {D : cp_Dt} {k i j : Nat} {u v : Int32} (h : i ≠ j) : cp_up (cp_up D k i u) k j v = cp_up (cp_up D k j v) k i u := by
  funext x
  by_cases hx : x = k
  · subst hx
    rw [cp_up_eq, cp_up_eq, cp_up_eq, cp_up_eq]
    funext n
    by_cases h1 : n = i
    · subst h1
      rw [upd_ne h, upd_eq, upd_eq]
    · by_cases h2 : n = j
      · subst h2
        rw [upd_eq, upd_ne h1, upd_eq]
      · rw [upd_ne h2, upd_ne h1, upd_ne h1, upd_ne h2]
  · rw [cp_up_ne hx, cp_up_ne hx, cp_up_ne hx, cp_up_ne hx]
theorem i8 {k : Nat} (hk : k < 8) : ¬ (8 : Int32) ≤ nI k := nI_ge (b := 8) hk (by decide)
section LV9
variable {L : cp_Lay} {w h B q a N : Nat} {C0 R0 C R : cp_Dt}
theorem mv_stop {k n : Nat} (hk : k ≤ 8) : fn_X3_move_L43 L q (n + 1) 141 (pA 3 a) 1 (nI k) C = some C ∧ fn_X6_live_L53 L q (n + 1) 143 (nI a) (nI (200 + 64 * a)) 1 (nI k) R = some R := by
  rw [fn_X3_move_L43, fn_X6_live_L53]
  by_cases h8 : k < 8
  · rw [if_neg (i8 h8), if_neg (by decide), if_neg (i8 h8), if_neg (by decide)]
    exact ⟨rfl, rfl⟩
  · have : k = 8 := by omega
    subst this
    rw [if_pos (show (8 : Int32) ≤ nI 8 by decide), if_pos (show (8 : Int32) ≤ nI 8 by decide)]
    exact ⟨rfl, rfl⟩
theorem sim_live_L {l e : Nat} (hNe : N = w * h) (O : cp_ok L w h) (P : cp_okP L N 3) (hq : 2000 ≤ q) (hB : B < 2 ^ 30) (S : rSh w h C0 R0) (ha : a < 16) (h0 : 0 < l) (h1 : l ≤ 20) (he : 0 < e) (he2 : e < 2 ^ 30) : ∀ (m k n : Nat) (C R : cp_Dt), k + m = 8 → m < n → Sm N B C0 R0 C R → C (pA 3 a) 3 = 1 → C (pA 3 a) 9 = nI l → C (pA 3 a) 7 = nI e →
    ∃ C' R', fn_X3_move_L43 L q n 141 (pA 3 a) 0 (nI k) C = some C' ∧ fn_X6_live_L53 L q n 143 (nI a) (nI (200 + 64 * a)) 0 (nI k) R = some R' ∧ Sm N (B + 63) C0 R0 C' R' := by
  intro m
  induction m with
  | zero =>
    intro k n C R hk hn H hl h9 h7
    have : k = 8 := by omega
    subst this
    obtain ⟨n, rfl⟩ : ∃ z, n = z + 1 := ⟨n - 1, by omega⟩
    rw [fn_X3_move_L43, fn_X6_live_L53, if_pos (show (8 : Int32) ≤ nI 8 by decide), if_pos (show (8 : Int32) ≤ nI 8 by decide)]
    exact ⟨_, _, rfl, rfl, H.more (by omega)⟩
  | succ m ih =>
    intro k n C R hk hn H hl h9 h7
    obtain ⟨n, rfl⟩ : ∃ z, n = z + 1 := ⟨n - 1, by omega⟩
    obtain ⟨⟨-, k2, -⟩, -⟩ := rel_liv H.1 ha hl
    have r2 : R 144 (200 + 64 * a + 2) = nI e := (k2 7 (by omega) (by omega) (by omega)).symm.trans h7
    obtain ⟨z, C1, R1, z1, z2, z3⟩ := sim_operate (q := q) hNe O P hq hB S H ha hl h9 h0 h1
    rw [fn_X3_move_L43, fn_X6_live_L53, if_neg (i8 (by omega)), if_pos rfl, bind_of (mi_fl O), bind_of z1, if_neg (i8 (by omega)), if_pos rfl, bind_of (re_now O), nk_2, bind_of (re_I O (by omega)), r2, if_neg (nI_nle he (by omega)), bind_of (re_fl O), bind_of z2]
    dsimp only
    rw [nI_1]
    rcases z3 with ⟨rfl, H1, e7, e9⟩ | ⟨rfl, H1⟩
    · exact ih (k + 1) n C1 R1 (by omega) (by omega) H1 ((H1.2.2.2 a).trans ((H.2.2.2 a).symm.trans hl)) e9 (e7.trans h7)
    · obtain ⟨n, rfl⟩ : ∃ z, n = z + 1 := ⟨n - 1, by omega⟩
      obtain ⟨s1, s2⟩ := mv_stop (L := L) (q := q) (a := a) (C := C1) (R := R1) (k := k + 1) (n := n) (by omega)
      exact ⟨_, _, s1, s2, H1⟩
theorem sim_live (hNe : N = w * h) (O : cp_ok L w h) (P : cp_okP L N 3) (hq : 2000 ≤ q) (hB : B < 2 ^ 30) (S : rSh w h C0 R0) (H : Sm N B C0 R0 C R) (ha : a < 16) (hl : C (pA 3 a) 3 = 1) : ∃ C' R', fn_X3_move L q 141 (pA 3 a) C = some C' ∧ fn_X6_live L q 143 (nI a) R = some R' ∧ Sm N (B + 63) C0 R0 C' R' := by
  have hN : N ≤ 100 := by rw [hNe]; exact N_le O.1
  obtain ⟨⟨-, k2, -⟩, -⟩ := rel_liv H.1 ha hl
  have r3 : R 144 (200 + 64 * a + 3) = C (pA 3 a) 8 := (k2 8 (by omega) (by omega) (by omega)).symm
  have H1 : Sm N B C0 R0 (cp_up C (pA 3 a) 4 0) (cp_up R 144 (200 + 64 * a + 9) 0) := sm_an H (Nat.le_refl _) hN ha (j := 4) (by omega) ⟨fun _ => Or.inl rfl, by omega, by omega, by omega, by omega⟩
  have H2 : Sm N B C0 R0 (cp_up (cp_up C (pA 3 a) 4 0) (pA 3 a) 8 (C (pA 3 a) 8 + 1)) (cp_up (cp_up R 144 (200 + 64 * a + 9) 0) 144 (200 + 64 * a + 3) (C (pA 3 a) 8 + 1)) := sm_an H1 (Nat.le_refl _) hN ha (j := 8) (by omega) ⟨by omega, by omega, by omega, by omega, by omega⟩
  rw [cp_up_comm (D := R) (by omega)] at H2
  have l2 : cp_up (cp_up C (pA 3 a) 4 0) (pA 3 a) 8 (C (pA 3 a) 8 + 1) (pA 3 a) 3 = 1 := by rw [up_AA, if_pos rfl, upd_ne (by omega), up_AA, if_pos rfl, upd_ne (by omega)]; exact hl
  have l8 : cp_up C (pA 3 a) 4 0 (pA 3 a) 8 = C (pA 3 a) 8 := by rw [up_AA, if_pos rfl, upd_ne (by omega)]
  obtain ⟨C3, R3, p1, p2, H3, p3, -, -, -⟩ := sim_pay' (q := q) (x := 1) O P hN hB (by omega) H2 ha l2
  have l3 : C3 (pA 3 a) 3 = 1 := (p3 a 3 (by omega)).trans l2
  obtain ⟨⟨-, m2, -⟩, -, -, ⟨e, e1, e2⟩, -, ⟨l, f1, f2⟩, -⟩ := rel_liv H3.1 ha l3
  have r2 : R3 144 (200 + 64 * a + 2) = nI e := (m2 7 (by omega) (by omega) (by omega)).symm.trans e2
  have r5 : R3 144 (200 + 64 * a + 5) = nI l := (m2 9 (by omega) (by omega) (by omega)).symm.trans f2
  unfold fn_X3_move fn_X6_live
  rw [bind_of (an_pZ P ha 4 _ (Or.inl rfl) (by decide)), bind_of (an_gI P ha 8 (by decide)), l8, bind_of (an_pI P ha 8 _ (by decide)), bind_of (mi_po O), bind_of (po_fl P), show fn_X4_pay L q 3 (pA 3 a) 1 _ = _ from p1, bind_of rfl, bind_of (an_gI P ha 7 (by decide)), e2, bind_of (an_gI P ha 9 (by decide)), f2, fn_X6_at, bind_of rfl, re_now O, bind_of rfl, at_eq]
  dsimp only
  rw [nk_3, bind_of (re_I O (by omega)), r3, bind_of (re_S O (by omega)), bind_of rfl, nk_9, bind_of (re_S O (by omega)), bind_of (re_fl O), show fn_X6_pay L q 143 (nI a) 1 _ = _ from p2, bind_of rfl, bind_of rfl, nk_5, bind_of (re_I O (by omega)), r5]
  obtain ⟨q', rfl⟩ : ∃ z, q = z + 1 := ⟨q - 1, by omega⟩
  by_cases hl0 : l = 0
  · subst hl0
    obtain ⟨s1, s2⟩ := mv_stop (L := L) (q := q' + 1) (a := a) (C := C3) (R := R3) (k := 0) (n := q') (by omega)
    rw [if_pos (show nI 0 = 0 from rfl), if_pos (show nI 0 = 0 from rfl)]
    refine ⟨C3, R3, ?_, s2, H3.more (by omega)⟩
    by_cases he0 : nI e = 0
    · rw [if_pos he0]
    · rw [if_neg he0]
  · rw [if_neg (nI_ne0 (n := l) (by omega) (by omega)), if_neg (nI_ne0 (n := l) (by omega) (by omega))]
    by_cases he0 : e = 0
    · subst he0
      rw [if_pos (show nI 0 = 0 from rfl)]
      refine ⟨C3, R3, rfl, ?_, H3.more (by omega)⟩
      rw [fn_X6_live_L53, if_neg (by decide), if_pos rfl, bind_of (re_now O), nk_2, bind_of (re_I O (by omega)), r2, if_pos (by decide)]
    · rw [if_neg (nI_ne0 (n := e) (by omega) (by omega))]
      obtain ⟨C4, R4, s1, s2, s3⟩ := sim_live_L (e := e) (q := q' + 1) hNe O P hq hB S ha (l := l) (by omega) f1 (by omega) (by omega) 8 0 (q' + 1) C3 R3 rfl (by omega) H3 l3 f2 e2
      exact ⟨C4, R4, s1, s2, s3⟩
theorem sim_moveAll_L (hNe : N = w * h) (O : cp_ok L w h) (P : cp_okP L N 3) (hq : 2000 ≤ q) (S : rSh w h C0 R0) : ∀ (m k n B : Nat) (C R : cp_Dt), k + m = 16 → m < n → B + 63 * m < 2 ^ 30 → Sm N B C0 R0 C R →
    ∃ C' R', fn_X3_moveAll_L2 L q n 141 (nI k) C = some C' ∧ fn_X6_pass_L6 L q n 143 (nI k) R = fn_X6_pass_L33 L q q 143 0 R' ∧ Sm N (B + 63 * m) C0 R0 C' R' := by
  have hN : N ≤ 100 := by rw [hNe]; exact N_le O.1
  intro m
  induction m with
  | zero =>
    intro k n B C R hk hn hB H
    have : k = 16 := by omega
    subst this
    obtain ⟨n, rfl⟩ : ∃ z, n = z + 1 := ⟨n - 1, by omega⟩
    rw [fn_X3_moveAll_L2, fn_X6_pass_L6, if_pos i16', if_pos i16']
    exact ⟨_, _, rfl, rfl, H⟩
  | succ m ih =>
    intro k n B C R hk hn hB H
    obtain ⟨n, rfl⟩ : ∃ z, n = z + 1 := ⟨n - 1, by omega⟩
    have ha : k < 16 := by omega
    rw [fn_X3_moveAll_L2, fn_X6_pass_L6, if_neg (i16 ha), mi_po O, bind_of rfl, bind_of (po_ar P), bind_of (po_an P ha), bind_of (an_gI P ha 3 (by decide)), bind_of rfl, bind_of (po_ar P), bind_of (po_an P ha), bind_of (mi_fl O), if_neg (i16 ha), bind_of (re_fl O), bind_of (ref_lives O hN H.1 ha), bind_of (re_fl O)]
    dsimp only
    rw [nI_1]
    rcases liv_or H.1 ha with hl | hl
    · rw [hl, if_neg (by decide), if_neg (by decide)]
      obtain ⟨C1, R1, z1, z2, H1⟩ := sim_live (q := q) hNe O P hq (by omega) S H ha hl
      rw [bind_of z1, bind_of z2]
      obtain ⟨C2, R2, y1, y2, H2⟩ := ih (k + 1) n (B + 63) C1 R1 (by omega) (by omega) (by omega) H1
      exact ⟨C2, R2, y1, y2, H2.more (by omega)⟩
    · rw [hl, if_pos rfl, if_pos rfl]
      obtain ⟨C2, R2, y1, y2, H2⟩ := ih (k + 1) n B C R (by omega) (by omega) (by omega) H
      exact ⟨C2, R2, y1, y2, H2.more (by omega)⟩
theorem sim_shine_L (hNe : N = w * h) (O : cp_ok L w h) (P : cp_okP L N 3) (S : rSh w h C0 R0) : ∀ (m k n : Nat) (C R : cp_Dt), k + m = 51 → m < n → Sm N B C0 R0 C R →
    ∃ C' R', fn_X4_shine_L2 L q n 3 (nI k) C = some C' ∧ fn_X6_shine_L2 L q n 143 (nI k) R = some R' ∧ Sm N B C0 R0 C' R' := by
  have hN : N ≤ 100 := by rw [hNe]; exact N_le O.1
  have hN0 : 0 < N := by
    obtain ⟨⟨w1, w2, w3, w4⟩, -⟩ := O
    rw [hNe]
    exact Nat.mul_pos (by omega) (by omega)
  intro m
  induction m with
  | zero =>
    intro k n C R hk hn H
    obtain ⟨n, rfl⟩ : ∃ z, n = z + 1 := ⟨n - 1, by omega⟩
    obtain ⟨p1, ⟨s, s1, s2⟩, -⟩ := H.1.2.2.2.2.2.2
    have r6 : R 144 1225 = nI s := (p1 6 (by omega) (by omega)).symm.trans s2
    rw [fn_X4_shine_L2, fn_X6_shine_L2, bind_of (po_gI P 6 (by decide)), s2, if_pos (nI_le (by omega) (by omega)), bind_of (re_now O), kk_1225, bind_of (re_I O (by omega)), r6, if_pos (nI_le (by omega) (by omega))]
    exact ⟨_, _, rfl, rfl, H⟩
  | succ m ih =>
    intro k n C R hk hn H
    obtain ⟨n, rfl⟩ : ∃ z, n = z + 1 := ⟨n - 1, by omega⟩
    obtain ⟨p1, ⟨s, s1, s2⟩, ⟨u, u1, u2⟩⟩ := H.1.2.2.2.2.2.2
    have r5 : R 144 1224 = C 3 5 := (p1 5 (by omega) (by omega)).symm
    have r6 : R 144 1225 = nI s := (p1 6 (by omega) (by omega)).symm.trans s2
    have r8 : R 144 1227 = nI u := (p1 8 (by omega) (by omega)).symm.trans u2
    obtain ⟨g1, g, g2, g3⟩ := H.1.1 u u1
    have rg : R 144 u = nI g := g1.symm.trans g3
    have S1 : rSh w h C R := S.mv H.2.1 H.2.2.1
    obtain ⟨⟨c10, c11, c12⟩, -, d1, d2⟩ := id S1
    rw [← hNe] at c12
    have hNN : nI w * nI h = nI N := by rw [pk_mul, hNe]
    rw [fn_X4_shine_L2, fn_X6_shine_L2, bind_of (po_gI P 6 (by decide)), s2, re_now O, bind_of rfl, kk_1225, bind_of (re_I O (by omega)), r6]
    by_cases hs : s ≤ k
    · rw [if_pos (nI_le hs (by omega)), if_pos (nI_le hs (by omega))]
      exact ⟨_, _, rfl, rfl, H⟩
    · rw [if_neg (nI_ge (by omega) (by omega)), if_neg (nI_ge (by omega) (by omega)), bind_of (po_gI P 5 (by decide)), bind_of rfl, kk_1224, bind_of (re_I O (by omega)), r5]
      by_cases h5 : C 3 5 ≤ 0
      · rw [if_pos h5, if_pos h5]
        exact ⟨_, _, rfl, rfl, H⟩
      · have rem : nI u + 1 - (nI u + 1) / nI N * nI N = nI ((u + 1) % N) := by rw [nI_1, pk_rem (by omega) hN0 (by omega)]
        have turn : ∀ (C1 R1 : cp_Dt), Sm N B C0 R0 C1 R1 → C1 3 8 = nI u → C1 1 2 = nI N → R1 143 1 = nI w → R1 143 2 = nI h →
            ∃ C' R', (if nI N ≤ nI u + 1 then (cp_pI L C1 3 4 8 0).bind fun D13 => fn_X4_shine_L2 L q n 3 (nI k + 1) D13 else (cp_gI L C1 3 4 8).bind fun v14 => (cp_pI L C1 3 4 8 (v14 + 1)).bind fun D15 => fn_X4_shine_L2 L q n 3 (nI k + 1) D15) = some C' ∧ ((cp_aS L R1 0 144 (nI 1227) (nI ((u + 1) % N))).bind fun D27 => fn_X6_shine_L2 L q n 143 (nI k + 1) D27) = some R' ∧ Sm N B C0 R0 C' R' := by
          intro C1 R1 H1 t1 t2 t3 t4
          rw [bind_of (re_S O (by omega)), bind_of (po_pI P 8 _ (by decide)), bind_of (po_gI P 8 (by decide)), t1, bind_of (po_pI P 8 _ (by decide)), nI_1, nI_1]
          by_cases hu : N ≤ u + 1
          · have : u + 1 = N := by omega
            rw [if_pos (nI_le hu (by omega)), this, Nat.mod_self]
            exact ih (k + 1) n _ _ (by omega) (by omega) (sm_po H1 hN (j := 8) (by omega) ⟨by omega, fun _ => ⟨0, hN0, rfl⟩⟩)
          · rw [if_neg (nI_ge (by omega) (by omega)), Nat.mod_eq_of_lt (by omega)]
            exact ih (k + 1) n _ _ (by omega) (by omega) (sm_po H1 hN (j := 8) (by omega) ⟨by omega, fun _ => ⟨u + 1, by omega, rfl⟩⟩)
        rw [if_neg h5, if_neg h5, bind_of (po_gr P), bind_of (po_gI P 8 (by decide)), u2, bind_of (po_grI P (by omega) u1), g3, bind_of rfl, kk_1227, bind_of (re_I O (by omega)), r8, bind_of rfl, bind_of (re_I O (by omega)), rg]
        by_cases hg : 250 ≤ g
        · have h250 : (250 : Int32) ≤ nI g := nI_le (a := 250) hg (by omega)
          rw [if_pos h250, if_pos h250, bind_of (po_gI P 8 (by decide)), u2, bind_of (po_sh P), bind_of (sh_gI O 2 (by decide)), c12, bind_of rfl, bind_of (re_gI O 1 (by decide)), bind_of (re_gI O 2 (by decide)), d1, d2, hNN, bind_of (nz_nI hN0 (by omega)), rem]
          exact turn C R H u2 c12 d1 d2
        · have h250 : ¬ (250 : Int32) ≤ nI g := nI_ge (b := 250) (by omega) (by omega)
          have H1 : Sm N B C0 R0 (cp_up C (pGr 3) u (nI (g + 1))) (cp_up R 144 u (nI (g + 1))) := sm_gr H hN u1 (g := g + 1) (by omega) rfl
          have H2 : Sm N B C0 R0 (cp_up (cp_up C (pGr 3) u (nI (g + 1))) 3 5 (C 3 5 - 1)) (cp_up (cp_up R 144 u (nI (g + 1))) 144 1224 (C 3 5 - 1)) := sm_po H1 hN (j := 5) (by omega) ⟨by omega, by omega⟩
          have e8 : cp_up (cp_up C (pGr 3) u (nI (g + 1))) 3 5 (C 3 5 - 1) 3 8 = nI u := by rw [up_oo, upd_ne (by omega), up_go, u2]
          have e12 : cp_up (cp_up C (pGr 3) u (nI (g + 1))) 3 5 (C 3 5 - 1) 1 2 = nI N := by rw [cp_up_ne (by omega), cp_up_ne (by unfold pGr; omega), c12]
          have e1 : cp_up (cp_up R 144 u (nI (g + 1))) 144 1224 (C 3 5 - 1) 143 1 = nI w := by rw [cp_up_ne (by omega), cp_up_ne (by omega), d1]
          have e2 : cp_up (cp_up R 144 u (nI (g + 1))) 144 1224 (C 3 5 - 1) 143 2 = nI h := by rw [cp_up_ne (by omega), cp_up_ne (by omega), d2]
          have e5 : cp_up R 144 u (nI (g + 1)) 144 1224 = C 3 5 := by rw [cp_up_eq, upd_ne (by omega), r5]
          rw [if_neg h250, if_neg h250, bind_of (po_gr P), bind_of (po_gI P 8 (by decide)), u2, bind_of (po_grI P (by omega) u1), g3, nI_1 g, bind_of (po_grS P (by omega) u1), bind_of (po_gI P 5 (by decide)), up_go, bind_of (po_pI P 5 _ (by decide)), bind_of (po_gI P 8 (by decide)), e8, bind_of (po_sh P), bind_of (sh_gI O 2 (by decide)), e12, bind_of rfl, bind_of (re_I O (by omega)), rg, nI_1 g, bind_of (re_S O (by omega)), bind_of rfl, bind_of (re_I O (by omega)), e5, bind_of (re_S O (by omega)), bind_of rfl, bind_of (re_gI O 1 (by decide)), bind_of (re_gI O 2 (by decide)), e1, e2, hNN, bind_of (nz_nI hN0 (by omega)), rem]
          exact turn _ _ H2 e8 e12 e1 e2
theorem sim_shine (hNe : N = w * h) (O : cp_ok L w h) (P : cp_okP L N 3) (hq : 2000 ≤ q) (S : rSh w h C0 R0) (H : Sm N B C0 R0 C R) : ∃ C' R', fn_X4_shine L q 3 C = some C' ∧ fn_X6_shine L q 143 R = some R' ∧ Sm N B C0 R0 C' R' :=
  sim_shine_L hNe O P S 51 0 q C R rfl (by omega) H
end LV9
