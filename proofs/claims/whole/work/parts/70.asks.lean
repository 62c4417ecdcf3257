/-! field and total -/
section AS
variable {L : cp_Lay} {w h B B' q N a : Nat} {C R C' R' D : cp_Dt}
theorem no_ani (O : cp_ok L w h) (T : Top w h B C R) (x : Int32) : (fn_X4_has L q 3 x C = some (0, C) ∧ fn_X6_lives L q 143 x R = some (0, R)) ∨ ∃ a, a < 16 ∧ x = nI a ∧ C (pA 3 a) 3 = 1 ∧ fn_X4_has L q 3 x C = some (1, C) ∧ fn_X6_lives L q 143 x R = some (1, R) := by
  have P : cp_okP L (w * h) 3 := O.2.2.2.2.1
  have hN := N_le O.1
  rcases pk_ix x (n := 16) (by omega) with h1 | h1 | ⟨a, ha, rfl⟩
  · exact Or.inl ⟨cl_has_out (Or.inl h1), ref_lives_out O (Or.inl h1)⟩
  · exact Or.inl ⟨cl_has_out (Or.inr h1), ref_lives_out O (Or.inr h1)⟩
  · have e1 := cl_has (q := q) (C := C) P ha (liv_or T.2.1 ha)
    have e2 := ref_lives (q := q) O hN T.2.1 ha
    rcases liv_or T.2.1 ha with hl | hl
    · rw [hl] at e1 e2
      exact Or.inr ⟨a, ha, rfl, hl, e1, e2⟩
    · rw [hl] at e1 e2
      exact Or.inl ⟨e1, e2⟩
theorem sim_field (O : cp_ok L w h) (T : Top w h B C R) (x1 x2 : Int32) : ∃ z C' R', fn_X0_field L q 0 x1 x2 C = some (z, C') ∧ fn_X6_field L q 143 x1 x2 R = some (z, R') ∧ Both w h B C R 0 z C' R' := by
  have hN := N_le O.1
  have P : cp_okP L (w * h) 3 := O.2.2.2.2.1
  have T1 := T.th 0
  have hw := O.1
  unfold fn_X0_field fn_X6_field
  rw [bind_of (top_now O), bind_of (po_fl P), bind_of (re_pI O 0 _ (by omega)), bind_of (re_fl O)]
  rcases no_ani (q := q) O T1 x1 with ⟨e1, e2⟩ | ⟨a, ha, rfl, hl, e1, e2⟩
  · rw [bind_of e1, bind_of e2, if_pos rfl, if_pos rfl]
    exact ⟨_, _, _, rfl, rfl, Both.same T⟩
  · obtain ⟨⟨k1, k2, k3, -⟩, ⟨c, c1, c2, -⟩, -⟩ := rel_liv T1.2.1 ha hl
    have r0 := k1.trans c2
    have s5 : cp_up R 143 0 0 143 1 = nI w := T1.1.2.2.1
    have s1 : C 1 0 = nI w := T1.1.1.1
    have neg : ∀ v : Int32, fn_X1_trait L q (pA 3 a) v C = (if v = 10 then some (C (pA 3 a) 6, C) else if v = 11 then some (C (pA 3 a) 7, C) else if v = 12 then some (C (pA 3 a) 8, C) else if v = 13 then some (C (pA 3 a) 10, C) else if v = 14 then some (C (pA 3 a) 9, C) else if v = 15 then some (C (pA 3 a) 11, C) else if v = 16 then some (C (pA 3 a) 12, C) else if v = 17 then some (C (pA 3 a) 13, C) else if v = 18 then (if C (pA 3 a) 4 = 0 then some (0, C) else some (1, C)) else some (-1, C)) := by
      intro v
      unfold fn_X1_trait
      simp only [an_gI P ha 6 (by decide), an_gI P ha 7 (by decide), an_gI P ha 8 (by decide), an_gI P ha 10 (by decide), an_gI P ha 9 (by decide), an_gI P ha 11 (by decide), an_gI P ha 12 (by decide), an_gI P ha 13 (by decide), an_gI P ha 4 (by decide), Option.bind_some]
    rw [bind_of e1, bind_of e2]
    dsimp only
    rw [if_neg (show ¬ (1 : Int32) = 0 by decide), if_neg (show ¬ (1 : Int32) = 0 by decide), bind_of (top_now O), bind_of (po_ar P), bind_of (po_an P ha)]
    by_cases h0 : x2 < 0
    · have ne : ∀ k : Int32, ¬ k < 0 → ¬ x2 = k := fun k hk e => hk (e ▸ h0)
      rw [if_pos h0, if_neg (ne 8 (by decide)), if_neg (ne 9 (by decide)), bind_of (an_fl P ha), neg, if_neg (ne 10 (by decide)), if_neg (ne 11 (by decide)), if_neg (ne 12 (by decide)), if_neg (ne 13 (by decide)), if_neg (ne 14 (by decide)), if_neg (ne 15 (by decide)), if_neg (ne 16 (by decide)), if_neg (ne 17 (by decide)), if_neg (ne 18 (by decide)), bind_of rfl, if_pos h0]
      exact ⟨_, _, _, rfl, rfl, Both.same T⟩
    · rw [if_neg h0, if_neg h0]
      by_cases h18 : x2 ≤ 18
      · obtain ⟨j, j1, rfl⟩ := le_of_nlt (n := 18) (by omega) h0 h18
        rw [if_pos h18, fn_X6_at, bind_of rfl, at_eq]
        dsimp only
        by_cases j8 : j < 8
        · rw [if_neg (i8 j8), if_neg (i8 j8), bind_of (an_rg P ha), bind_of (an_rgI P ha j8), bind_of (re_now O), nk_10, nI_add, bind_of (re_I O (by omega)), ← k3 j j8]
          exact ⟨_, _, _, rfl, rfl, Both.same T⟩
        · have g8 : (8 : Int32) ≤ nI j := nI_le (a := 8) (by omega) (by omega)
          rw [if_pos g8, if_pos g8]

          match j, j8, j1 with
          | 8, _, _ =>
            rw [if_pos (show nI 8 = 8 from rfl), bind_of (top_sh O), bind_of (an_gI P ha 5 (by decide)), c2, bind_of O.2.2.1, fn_X5_columnOf, bind_of (sh_gI O 0 (by decide)), s1, bind_of (nz_nI (by omega) (by omega)), bind_of rfl, if_neg (show ¬ (10 : Int32) ≤ nI 8 by decide), if_pos (show nI 8 = 8 from rfl), bind_of (re_now O), bind_of (re_I O (by omega)), r0, bind_of (re_gI O 1 (by omega)), s5, bind_of (nz_nI (by omega) (by omega))]
            exact ⟨_, _, _, rfl, rfl, Both.same T⟩
          | 9, _, _ =>
            rw [if_neg (show ¬ nI 9 = 8 by decide), if_pos (show nI 9 = 9 from rfl), bind_of (top_sh O), bind_of (an_gI P ha 5 (by decide)), c2, bind_of O.2.2.1, fn_X5_rowOf, bind_of (sh_gI O 0 (by decide)), s1, bind_of (nz_nI (by omega) (by omega)), bind_of rfl, if_neg (show ¬ (10 : Int32) ≤ nI 9 by decide), if_neg (show ¬ nI 9 = 8 by decide), bind_of (re_now O), bind_of (re_I O (by omega)), r0, bind_of (re_gI O 1 (by omega)), s5, bind_of (nz_nI (by omega) (by omega))]
            exact ⟨_, _, _, rfl, rfl, Both.same T⟩
          | 10, _, _ =>
            have rr : cp_up R 143 0 0 144 (200 + 64 * a + 1) = C (pA 3 a) 6 := (k2 6 (by omega) (by omega) (by omega)).symm
            rw [if_neg (show ¬ nI 10 = 8 by decide), if_neg (show ¬ nI 10 = 9 by decide), bind_of (an_fl P ha), neg, if_pos (show nI 10 = 10 from rfl), if_pos (show (10 : Int32) ≤ nI 10 by decide), bind_of (re_now O), nI_add, show (9 : Int32) = nI 9 from rfl, pk_sub (by omega), show 200 + 64 * a + 10 - 9 = 200 + 64 * a + 1 by omega, bind_of (re_I O (by omega)), rr]
            exact ⟨_, _, _, rfl, rfl, Both.same T⟩
          | 11, _, _ =>
            have rr : cp_up R 143 0 0 144 (200 + 64 * a + 2) = C (pA 3 a) 7 := (k2 7 (by omega) (by omega) (by omega)).symm
            rw [if_neg (show ¬ nI 11 = 8 by decide), if_neg (show ¬ nI 11 = 9 by decide), bind_of (an_fl P ha), neg, if_neg (show ¬ nI 11 = 10 by decide), if_pos (show nI 11 = 11 from rfl), if_pos (show (10 : Int32) ≤ nI 11 by decide), bind_of (re_now O), nI_add, show (9 : Int32) = nI 9 from rfl, pk_sub (by omega), show 200 + 64 * a + 11 - 9 = 200 + 64 * a + 2 by omega, bind_of (re_I O (by omega)), rr]
            exact ⟨_, _, _, rfl, rfl, Both.same T⟩
          | 12, _, _ =>
            have rr : cp_up R 143 0 0 144 (200 + 64 * a + 3) = C (pA 3 a) 8 := (k2 8 (by omega) (by omega) (by omega)).symm
            rw [if_neg (show ¬ nI 12 = 8 by decide), if_neg (show ¬ nI 12 = 9 by decide), bind_of (an_fl P ha), neg, if_neg (show ¬ nI 12 = 10 by decide), if_neg (show ¬ nI 12 = 11 by decide), if_pos (show nI 12 = 12 from rfl), if_pos (show (10 : Int32) ≤ nI 12 by decide), bind_of (re_now O), nI_add, show (9 : Int32) = nI 9 from rfl, pk_sub (by omega), show 200 + 64 * a + 12 - 9 = 200 + 64 * a + 3 by omega, bind_of (re_I O (by omega)), rr]
            exact ⟨_, _, _, rfl, rfl, Both.same T⟩
          | 13, _, _ =>
            have rr : cp_up R 143 0 0 144 (200 + 64 * a + 4) = C (pA 3 a) 10 := (k2 10 (by omega) (by omega) (by omega)).symm
            rw [if_neg (show ¬ nI 13 = 8 by decide), if_neg (show ¬ nI 13 = 9 by decide), bind_of (an_fl P ha), neg, if_neg (show ¬ nI 13 = 10 by decide), if_neg (show ¬ nI 13 = 11 by decide), if_neg (show ¬ nI 13 = 12 by decide), if_pos (show nI 13 = 13 from rfl), if_pos (show (10 : Int32) ≤ nI 13 by decide), bind_of (re_now O), nI_add, show (9 : Int32) = nI 9 from rfl, pk_sub (by omega), show 200 + 64 * a + 13 - 9 = 200 + 64 * a + 4 by omega, bind_of (re_I O (by omega)), rr]
            exact ⟨_, _, _, rfl, rfl, Both.same T⟩
          | 14, _, _ =>
            have rr : cp_up R 143 0 0 144 (200 + 64 * a + 5) = C (pA 3 a) 9 := (k2 9 (by omega) (by omega) (by omega)).symm
            rw [if_neg (show ¬ nI 14 = 8 by decide), if_neg (show ¬ nI 14 = 9 by decide), bind_of (an_fl P ha), neg, if_neg (show ¬ nI 14 = 10 by decide), if_neg (show ¬ nI 14 = 11 by decide), if_neg (show ¬ nI 14 = 12 by decide), if_neg (show ¬ nI 14 = 13 by decide), if_pos (show nI 14 = 14 from rfl), if_pos (show (10 : Int32) ≤ nI 14 by decide), bind_of (re_now O), nI_add, show (9 : Int32) = nI 9 from rfl, pk_sub (by omega), show 200 + 64 * a + 14 - 9 = 200 + 64 * a + 5 by omega, bind_of (re_I O (by omega)), rr]
            exact ⟨_, _, _, rfl, rfl, Both.same T⟩
          | 15, _, _ =>
            have rr : cp_up R 143 0 0 144 (200 + 64 * a + 6) = C (pA 3 a) 11 := (k2 11 (by omega) (by omega) (by omega)).symm
            rw [if_neg (show ¬ nI 15 = 8 by decide), if_neg (show ¬ nI 15 = 9 by decide), bind_of (an_fl P ha), neg, if_neg (show ¬ nI 15 = 10 by decide), if_neg (show ¬ nI 15 = 11 by decide), if_neg (show ¬ nI 15 = 12 by decide), if_neg (show ¬ nI 15 = 13 by decide), if_neg (show ¬ nI 15 = 14 by decide), if_pos (show nI 15 = 15 from rfl), if_pos (show (10 : Int32) ≤ nI 15 by decide), bind_of (re_now O), nI_add, show (9 : Int32) = nI 9 from rfl, pk_sub (by omega), show 200 + 64 * a + 15 - 9 = 200 + 64 * a + 6 by omega, bind_of (re_I O (by omega)), rr]
            exact ⟨_, _, _, rfl, rfl, Both.same T⟩
          | 16, _, _ =>
            have rr : cp_up R 143 0 0 144 (200 + 64 * a + 7) = C (pA 3 a) 12 := (k2 12 (by omega) (by omega) (by omega)).symm
            rw [if_neg (show ¬ nI 16 = 8 by decide), if_neg (show ¬ nI 16 = 9 by decide), bind_of (an_fl P ha), neg, if_neg (show ¬ nI 16 = 10 by decide), if_neg (show ¬ nI 16 = 11 by decide), if_neg (show ¬ nI 16 = 12 by decide), if_neg (show ¬ nI 16 = 13 by decide), if_neg (show ¬ nI 16 = 14 by decide), if_neg (show ¬ nI 16 = 15 by decide), if_pos (show nI 16 = 16 from rfl), if_pos (show (10 : Int32) ≤ nI 16 by decide), bind_of (re_now O), nI_add, show (9 : Int32) = nI 9 from rfl, pk_sub (by omega), show 200 + 64 * a + 16 - 9 = 200 + 64 * a + 7 by omega, bind_of (re_I O (by omega)), rr]
            exact ⟨_, _, _, rfl, rfl, Both.same T⟩
          | 17, _, _ =>
            have rr : cp_up R 143 0 0 144 (200 + 64 * a + 8) = C (pA 3 a) 13 := (k2 13 (by omega) (by omega) (by omega)).symm
            rw [if_neg (show ¬ nI 17 = 8 by decide), if_neg (show ¬ nI 17 = 9 by decide), bind_of (an_fl P ha), neg, if_neg (show ¬ nI 17 = 10 by decide), if_neg (show ¬ nI 17 = 11 by decide), if_neg (show ¬ nI 17 = 12 by decide), if_neg (show ¬ nI 17 = 13 by decide), if_neg (show ¬ nI 17 = 14 by decide), if_neg (show ¬ nI 17 = 15 by decide), if_neg (show ¬ nI 17 = 16 by decide), if_pos (show nI 17 = 17 from rfl), if_pos (show (10 : Int32) ≤ nI 17 by decide), bind_of (re_now O), nI_add, show (9 : Int32) = nI 9 from rfl, pk_sub (by omega), show 200 + 64 * a + 17 - 9 = 200 + 64 * a + 8 by omega, bind_of (re_I O (by omega)), rr]
            exact ⟨_, _, _, rfl, rfl, Both.same T⟩
          | 18, _, _ =>
            have rr : cp_up R 143 0 0 144 (200 + 64 * a + 9) = C (pA 3 a) 4 := (k2 4 (by omega) (by omega) (by omega)).symm
            rw [if_neg (show ¬ nI 18 = 8 by decide), if_neg (show ¬ nI 18 = 9 by decide), bind_of (an_fl P ha), neg, if_neg (show ¬ nI 18 = 10 by decide), if_neg (show ¬ nI 18 = 11 by decide), if_neg (show ¬ nI 18 = 12 by decide), if_neg (show ¬ nI 18 = 13 by decide), if_neg (show ¬ nI 18 = 14 by decide), if_neg (show ¬ nI 18 = 15 by decide), if_neg (show ¬ nI 18 = 16 by decide), if_neg (show ¬ nI 18 = 17 by decide), if_pos (show nI 18 = 18 from rfl), if_pos (show (10 : Int32) ≤ nI 18 by decide), bind_of (re_now O), nI_add, show (9 : Int32) = nI 9 from rfl, pk_sub (by omega), show 200 + 64 * a + 18 - 9 = 200 + 64 * a + 9 by omega, bind_of (re_I O (by omega)), rr]
            rcases (T.2.1.2.2.2.2.1 a ha).1 with h4 | h4
            · rw [h4, if_pos rfl]
              exact ⟨_, _, _, rfl, rfl, Both.same T⟩
            · rw [h4, if_neg (by decide)]
              exact ⟨_, _, _, rfl, rfl, Both.same T⟩
          | j + 19, _, h => omega
          | 0, h, _ => omega
          | 1, h, _ => omega
          | 2, h, _ => omega
          | 3, h, _ => omega
          | 4, h, _ => omega
          | 5, h, _ => omega
          | 6, h, _ => omega
          | 7, h, _ => omega
      · have ne : ∀ k : Int32, k ≤ 18 → ¬ x2 = k := fun k hk e => h18 (e ▸ hk)
        have g8 : (8 : Int32) ≤ x2 := by
          rw [Int32.le_iff_toInt_le] at h18 ⊢
          have e1 : (18 : Int32).toInt = 18 := by decide
          have e2 : (8 : Int32).toInt = 8 := by decide
          omega
        rw [if_pos g8, if_neg (ne 8 (by decide)), if_neg (ne 9 (by decide)), bind_of (an_fl P ha), neg, if_neg (ne 10 (by decide)), if_neg (ne 11 (by decide)), if_neg (ne 12 (by decide)), if_neg (ne 13 (by decide)), if_neg (ne 14 (by decide)), if_neg (ne 15 (by decide)), if_neg (ne 16 (by decide)), if_neg (ne 17 (by decide)), if_neg (ne 18 (by decide)), bind_of rfl, if_neg h18]
        exact ⟨_, _, _, rfl, rfl, Both.same T⟩
theorem sim_en (O : cp_ok L w h) (P : cp_okP L N 3) (hN : N ≤ 100) (H : Rel N 3 144 B C R) (x1 : Int32) : ∀ (m k n : Nat) (z : Int32), k + m = 16 → m < n → ∃ r, fn_X4_energyOfAll_L4 L q n 3 z (nI k) C = some (r, C) ∧ fn_X6_total_L12 L q n 143 x1 z 0 (nI k) R = fn_X6_total_L56 L q q 143 x1 r 0 0 R := by
  intro m
  induction m with
  | zero =>
    intro k n z h1 h2
    have h3 : k = 16 := by omega
    subst h3
    obtain ⟨n, rfl⟩ : ∃ k, n = k + 1 := ⟨n - 1, by omega⟩
    rw [fn_X4_energyOfAll_L4, fn_X6_total_L12, if_pos i16', if_pos i16']
    exact ⟨z, rfl, rfl⟩
  | succ m ih =>
    intro k n z h1 h2
    obtain ⟨n, rfl⟩ : ∃ k, n = k + 1 := ⟨n - 1, by omega⟩
    have ha : k < 16 := by omega
    rw [fn_X4_energyOfAll_L4, fn_X6_total_L12, if_neg (i16 ha), if_neg (i16 ha), bind_of (po_ar P), bind_of (po_an P ha), bind_of (an_gI P ha 3 (by decide)), bind_of (re_fl O), bind_of (ref_lives O hN H ha)]
    dsimp only
    rw [nI_1]
    rcases liv_or H ha with hl | hl
    · obtain ⟨⟨-, k2, -⟩, -⟩ := rel_liv H ha hl
      have r2 : R 144 (200 + 64 * k + 2) = C (pA 3 k) 7 := (k2 7 (by omega) (by omega) (by omega)).symm
      rw [hl, if_neg (by decide), if_neg (by decide), bind_of (po_ar P), bind_of (po_an P ha), bind_of (an_gI P ha 7 (by decide)), bind_of (re_now O), fn_X6_at, bind_of rfl, at_eq]
      dsimp only
      rw [nk_2, bind_of (re_I O (by omega)), r2]
      exact ih (k + 1) n _ (by omega) (by omega)
    · rw [hl, if_pos rfl, if_pos rfl]
      exact ih (k + 1) n _ (by omega) (by omega)
theorem sim_gra (O : cp_ok L w h) (hNe : N = w * h) (P : cp_okP L N 3) (hN : N ≤ 100) (S : rSh w h C R) (H : Rel N 3 144 B C R) (x1 e : Int32) : ∀ (m k n : Nat) (z : Int32), k + m = N → m < n → ∃ r n', fn_X4_grainOfAll_L13 L q n 3 z (pGr 3) (nI N) (nI k) C = some (r, C) ∧ fn_X6_total_L56 L q n 143 x1 e z (nI k) R = fn_X6_total_L56 L q (n' + 1) 143 x1 e r (nI N) R := by
  have hNN : nI w * nI h = nI N := by rw [pk_mul, hNe]
  intro m
  induction m with
  | zero =>
    intro k n z h1 h2
    have h3 : k = N := by omega
    subst h3
    obtain ⟨n, rfl⟩ : ∃ k, n = k + 1 := ⟨n - 1, by omega⟩
    rw [fn_X4_grainOfAll_L13, if_pos (nI_le (Nat.le_refl _) (by omega))]
    exact ⟨z, n, rfl, rfl⟩
  | succ m ih =>
    intro k n z h1 h2
    obtain ⟨n, rfl⟩ : ∃ k, n = k + 1 := ⟨n - 1, by omega⟩
    rw [fn_X4_grainOfAll_L13, if_neg (nI_ge (by omega) (by omega)), bind_of (po_grI P (by omega) (by omega)), nI_1]
    obtain ⟨r, n', z1, z2⟩ := ih (k + 1) n (z + C (pGr 3) k) (by omega) (by omega)
    refine ⟨r, n', z1, ?_⟩
    rw [← z2]
    conv => lhs; rw [fn_X6_total_L56]
    rw [bind_of (re_gI O 1 (by omega)), bind_of (re_gI O 2 (by omega)), S.2.2.1, S.2.2.2, hNN, if_neg (nI_ge (by omega) (by omega)), bind_of (re_now O), bind_of (re_I O (by omega)), ← (H.1 k (by omega)).1, nI_1]
theorem sim_total (O : cp_ok L w h) (hq : 2000 ≤ q) (T : Top w h B C R) (x1 : Int32) : ∃ z C' R', fn_X0_total L q 0 x1 C = some (z, C') ∧ fn_X6_total L q 143 x1 R = some (z, R') ∧ Both w h B C R 0 z C' R' := by
  have hN := N_le O.1
  have P : cp_okP L (w * h) 3 := O.2.2.2.2.1
  have T1 := T.th 0
  have H := T1.2.1
  obtain ⟨e, e1, e2⟩ := sim_en (q := q) O P hN H x1 16 0 q 0 rfl (by omega)
  obtain ⟨g, n', g1, g2⟩ := sim_gra (q := q) O rfl P hN T1.1 H x1 e (w * h) 0 q 0 (Nat.zero_add _) (by omega)
  obtain ⟨k, k1, k2⟩ := sim_count (q := q) O P hN hq H
  have hNN : nI w * nI h = nI (w * h) := pk_mul _ _
  have c1 : fn_X4_energyOfAll L q 3 C = some (e, C) := e1
  have c2 : fn_X4_grainOfAll L q 3 C = some (g, C) := by
    unfold fn_X4_grainOfAll
    obtain ⟨t, ht⟩ := P.2.2.1
    rw [bind_of (po_gr P), cp_aL, ht, bind_of rfl, bind_of rfl]
    exact g1
  have pr : ∀ j, 5 ≤ j → j < 12 → cp_up R 143 0 0 144 (1219 + j) = C 3 j := fun j h1 h2 => (H.2.2.2.2.2.2.1 j h1 h2).symm
  have c3 : fn_X6_total L q 143 x1 R = fn_X6_total_L56 L q (n' + 1) 143 x1 e g (nI (w * h)) (cp_up R 143 0 0) := by
    unfold fn_X6_total
    rw [bind_of (re_pI O 0 _ (by omega))]
    exact e2.trans g2
  rw [c3, fn_X6_total_L56, bind_of (re_gI O 1 (by omega)), bind_of (re_gI O 2 (by omega)), T1.1.2.2.1, T1.1.2.2.2, hNN, if_pos (nI_le (Nat.le_refl _) (by omega))]
  unfold fn_X0_total
  by_cases t0 : x1 = 0
  · subst t0
    rw [if_pos rfl, bind_of (top_now O), bind_of (po_fl P), bind_of c1]
    rw [if_neg (show ¬ (5 : Int32) ≤ 0 by decide), if_pos rfl]
    exact ⟨_, _, _, rfl, rfl, Both.same T⟩
  by_cases t1 : x1 = 1
  · subst t1
    rw [if_neg (show ¬ (1 : Int32) = 0 by decide), if_pos rfl, bind_of (top_now O), bind_of (po_fl P), bind_of c2]
    rw [if_neg (show ¬ (5 : Int32) ≤ 1 by decide), if_neg (show ¬ (1 : Int32) = 0 by decide), if_pos rfl]
    exact ⟨_, _, _, rfl, rfl, Both.same T⟩
  by_cases t2 : x1 = 2
  · subst t2
    rw [if_neg (show ¬ (2 : Int32) = 0 by decide), if_neg (show ¬ (2 : Int32) = 1 by decide), if_pos rfl, bind_of (top_now O), bind_of (po_gI P 5 (by decide))]
    rw [if_neg (show ¬ (5 : Int32) ≤ 2 by decide), if_neg (show ¬ (2 : Int32) = 0 by decide), if_neg (show ¬ (2 : Int32) = 1 by decide), if_pos rfl, bind_of (re_now O), kk_1224, bind_of (re_I O (by omega)), show cp_up R 143 0 0 144 1224 = C 3 5 from pr 5 (by omega) (by omega)]
    exact ⟨_, _, _, rfl, rfl, Both.same T⟩
  by_cases t3 : x1 = 3
  · subst t3
    rw [if_neg (show ¬ (3 : Int32) = 0 by decide), if_neg (show ¬ (3 : Int32) = 1 by decide), if_neg (show ¬ (3 : Int32) = 2 by decide), if_pos rfl, bind_of (top_now O), bind_of (po_fl P), bind_of c1]
    dsimp only
    rw [bind_of (top_now O), bind_of (po_fl P), bind_of c2]
    dsimp only
    rw [bind_of (top_now O), bind_of (po_gI P 5 (by decide))]
    rw [if_neg (show ¬ (5 : Int32) ≤ 3 by decide), if_neg (show ¬ (3 : Int32) = 0 by decide), if_neg (show ¬ (3 : Int32) = 1 by decide), if_neg (show ¬ (3 : Int32) = 2 by decide), if_pos rfl, bind_of (re_now O), kk_1224, bind_of (re_I O (by omega)), show cp_up R 143 0 0 144 1224 = C 3 5 from pr 5 (by omega) (by omega)]
    exact ⟨_, _, _, rfl, rfl, Both.same T⟩
  by_cases t4 : x1 = 4
  · subst t4
    rw [if_neg (show ¬ (4 : Int32) = 0 by decide), if_neg (show ¬ (4 : Int32) = 1 by decide), if_neg (show ¬ (4 : Int32) = 2 by decide), if_neg (show ¬ (4 : Int32) = 3 by decide), if_pos rfl, bind_of (top_now O), bind_of (po_fl P), bind_of k2]
    rw [if_neg (show ¬ (5 : Int32) ≤ 4 by decide), if_neg (show ¬ (4 : Int32) = 0 by decide), if_neg (show ¬ (4 : Int32) = 1 by decide), if_neg (show ¬ (4 : Int32) = 2 by decide), if_neg (show ¬ (4 : Int32) = 3 by decide), if_pos rfl, bind_of (re_fl O), bind_of k1]
    exact ⟨_, _, _, rfl, rfl, Both.same T⟩
  by_cases t5 : x1 = 5
  · subst t5
    rw [if_neg (show ¬ (5 : Int32) = 0 by decide), if_neg (show ¬ (5 : Int32) = 1 by decide), if_neg (show ¬ (5 : Int32) = 2 by decide), if_neg (show ¬ (5 : Int32) = 3 by decide), if_neg (show ¬ (5 : Int32) = 4 by decide), if_pos rfl, bind_of (top_now O), bind_of (po_gI P 9 (by decide))]
    rw [if_pos (show (5 : Int32) ≤ 5 by decide), if_pos rfl, bind_of (re_now O), show (1228 : Int32) = nI 1228 from rfl, bind_of (re_I O (by omega)), show cp_up R 143 0 0 144 1228 = C 3 9 from pr 9 (by omega) (by omega)]
    exact ⟨_, _, _, rfl, rfl, Both.same T⟩
  by_cases t6 : x1 = 6
  · subst t6
    rw [if_neg (show ¬ (6 : Int32) = 0 by decide), if_neg (show ¬ (6 : Int32) = 1 by decide), if_neg (show ¬ (6 : Int32) = 2 by decide), if_neg (show ¬ (6 : Int32) = 3 by decide), if_neg (show ¬ (6 : Int32) = 4 by decide), if_neg (show ¬ (6 : Int32) = 5 by decide), if_pos rfl, bind_of (top_now O), bind_of (po_gI P 10 (by decide))]
    rw [if_pos (show (5 : Int32) ≤ 6 by decide), if_neg (show ¬ (6 : Int32) = 5 by decide), if_pos rfl, bind_of (re_now O), kk_1229, bind_of (re_I O (by omega)), show cp_up R 143 0 0 144 1229 = C 3 10 from pr 10 (by omega) (by omega)]
    exact ⟨_, _, _, rfl, rfl, Both.same T⟩
  by_cases t7 : x1 = 7
  · subst t7
    rw [if_neg (show ¬ (7 : Int32) = 0 by decide), if_neg (show ¬ (7 : Int32) = 1 by decide), if_neg (show ¬ (7 : Int32) = 2 by decide), if_neg (show ¬ (7 : Int32) = 3 by decide), if_neg (show ¬ (7 : Int32) = 4 by decide), if_neg (show ¬ (7 : Int32) = 5 by decide), if_neg (show ¬ (7 : Int32) = 6 by decide), if_pos rfl, bind_of (top_now O), bind_of (po_gI P 11 (by decide))]
    rw [if_pos (show (5 : Int32) ≤ 7 by decide), if_neg (show ¬ (7 : Int32) = 5 by decide), if_neg (show ¬ (7 : Int32) = 6 by decide), if_pos rfl, bind_of (re_now O), kk_1230, bind_of (re_I O (by omega)), show cp_up R 143 0 0 144 1230 = C 3 11 from pr 11 (by omega) (by omega)]
    exact ⟨_, _, _, rfl, rfl, Both.same T⟩
  by_cases t8 : x1 = 8
  · subst t8
    rw [if_neg (show ¬ (8 : Int32) = 0 by decide), if_neg (show ¬ (8 : Int32) = 1 by decide), if_neg (show ¬ (8 : Int32) = 2 by decide), if_neg (show ¬ (8 : Int32) = 3 by decide), if_neg (show ¬ (8 : Int32) = 4 by decide), if_neg (show ¬ (8 : Int32) = 5 by decide), if_neg (show ¬ (8 : Int32) = 6 by decide), if_neg (show ¬ (8 : Int32) = 7 by decide), if_pos rfl, bind_of (top_now O), bind_of (po_gI P 7 (by decide))]
    rw [if_pos (show (5 : Int32) ≤ 8 by decide), if_neg (show ¬ (8 : Int32) = 5 by decide), if_neg (show ¬ (8 : Int32) = 6 by decide), if_neg (show ¬ (8 : Int32) = 7 by decide), if_pos rfl, bind_of (re_now O), kk_1226, bind_of (re_I O (by omega)), show cp_up R 143 0 0 144 1226 = C 3 7 from pr 7 (by omega) (by omega)]
    exact ⟨_, _, _, rfl, rfl, Both.same T⟩
  by_cases t9 : x1 = 9
  · subst t9
    rw [if_neg (show ¬ (9 : Int32) = 0 by decide), if_neg (show ¬ (9 : Int32) = 1 by decide), if_neg (show ¬ (9 : Int32) = 2 by decide), if_neg (show ¬ (9 : Int32) = 3 by decide), if_neg (show ¬ (9 : Int32) = 4 by decide), if_neg (show ¬ (9 : Int32) = 5 by decide), if_neg (show ¬ (9 : Int32) = 6 by decide), if_neg (show ¬ (9 : Int32) = 7 by decide), if_neg (show ¬ (9 : Int32) = 8 by decide), if_pos rfl, bind_of (top_now O), bind_of (po_gI P 8 (by decide))]
    rw [if_pos (show (5 : Int32) ≤ 9 by decide), if_neg (show ¬ (9 : Int32) = 5 by decide), if_neg (show ¬ (9 : Int32) = 6 by decide), if_neg (show ¬ (9 : Int32) = 7 by decide), if_neg (show ¬ (9 : Int32) = 8 by decide), if_pos rfl, bind_of (re_now O), kk_1227, bind_of (re_I O (by omega)), show cp_up R 143 0 0 144 1227 = C 3 8 from pr 8 (by omega) (by omega)]
    exact ⟨_, _, _, rfl, rfl, Both.same T⟩
  rw [if_neg t0, if_neg t1, if_neg t2, if_neg t3, if_neg t4, if_neg t5, if_neg t6, if_neg t7, if_neg t8, if_neg t9]
  by_cases t : (5 : Int32) ≤ x1
  · rw [if_pos t, if_neg t5, if_neg t6, if_neg t7, if_neg t8, if_neg t9]
    exact ⟨_, _, _, rfl, rfl, Both.same T⟩
  · rw [if_neg t, if_neg t0, if_neg t1, if_neg t2, if_neg t3, if_neg t4]
    exact ⟨_, _, _, rfl, rfl, Both.same T⟩
end AS
