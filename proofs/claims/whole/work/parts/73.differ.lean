/-! differ -/
section DF
variable {L : cp_Lay} {w h B B' q N a : Nat} {C R D : cp_Dt}
theorem re_wasIn_L (O : cp_ok L w h) (hN : N ≤ 100) (H : Rel N 72 145 B C R) {c : Nat} (hc : c < N) : ∀ (m a n : Nat), a + m = 16 → m < n → (∀ x, x < a → ¬ R 145 (200 + 64 * x) = nI c) → fn_X6_wasIn_L2 L q n 143 (nI c) (nI a) R = some (C (pDw 72) c, R) := by
  intro m
  induction m with
  | zero =>
    intro a n h1 h2 h3
    have h4 : a = 16 := by omega
    subst h4
    obtain ⟨n, rfl⟩ : ∃ k, n = k + 1 := ⟨n - 1, by omega⟩
    unfold fn_X6_wasIn_L2
    rw [if_pos i16']
    rcases H.2.2.2.2.2.1 c hc with g | ⟨x, x1, x2, x3, x4⟩
    · rw [g]
    · obtain ⟨⟨k1, -⟩, -⟩ := rel_liv H x1 x3
      exact absurd (k1.trans x4) (h3 x x1)
  | succ m ih =>
    intro a n h1 h2 h3
    obtain ⟨n, rfl⟩ : ∃ k, n = k + 1 := ⟨n - 1, by omega⟩
    have ha : a < 16 := by omega
    rw [fn_X6_wasIn_L2, if_neg (i16 ha), re_was O]
    simp (disch := omega) only [Option.bind_some, fn_X6_at, at_eq, re_wI O, nI_1]
    by_cases hh : R 145 (200 + 64 * a) = nI c
    · rw [if_pos hh]
      rcases H.2.2.1 a ha with ⟨g0, g1⟩ | ⟨g1, g2⟩
      · obtain ⟨⟨c', c1, c2, c3⟩, -⟩ := H.2.2.2.1 a ha g0
        have : c' = c := (nI_eq (by omega) (by omega)).mp ((g1.1.trans c2).symm.trans hh)
        subst this
        rw [c3]
      · rw [g2] at hh
        exact absurd hh.symm (nI_m1 (by omega))
    · rw [if_neg hh]
      refine ih (a + 1) n (by omega) (by omega) (fun x hx => ?_)
      by_cases hxa : x = a
      · rw [hxa]
        exact hh
      · exact h3 x (by omega)
theorem re_wasIn (O : cp_ok L w h) (hN : N ≤ 100) (hq : 2000 ≤ q) (H : Rel N 72 145 B C R) {c : Nat} (hc : c < N) : fn_X6_wasIn L q 143 (nI c) R = some (C (pDw 72) c, R) :=
  re_wasIn_L O hN H hc 16 0 q rfl (by omega) (fun x hx => by omega)
theorem sim_differ_L (O : cp_ok L w h) (hNe : N = w * h) (P : cp_okP L N 3) (P2 : cp_okP L N 72) (hq : 2000 ≤ q) (S : rSh w h C R) (H : Rel N 3 144 B C R) (H2 : Rel N 72 145 B C R) : ∀ (m k n : Nat), k + m = N → m < n → ∃ z, fn_X4_firstOther_L2 L q n 3 72 (nI k) C = some (z, C) ∧ fn_X6_differ_L27 L q n 143 (nI k) R = some (z, R) := by
  have hN : N ≤ 100 := by rw [hNe]; exact N_le O.1
  have hNN : nI w * nI h = nI N := by rw [pk_mul, hNe]
  obtain ⟨⟨s1, s2, s3⟩, -, s5, s6⟩ := S
  rw [← hNe] at s3
  intro m
  induction m with
  | zero =>
    intro k n h1 h2
    have h4 : k = N := by omega
    subst h4
    obtain ⟨n, rfl⟩ : ∃ k, n = k + 1 := ⟨n - 1, by omega⟩
    rw [fn_X4_firstOther_L2, fn_X6_differ_L27, bind_of (po_sh P), bind_of (sh_gI O 2 (by decide)), s3, if_pos (nI_le (Nat.le_refl _) (by omega)), bind_of (re_gI O 1 (by omega)), bind_of (re_gI O 2 (by omega)), s5, s6, hNN, if_pos (nI_le (Nat.le_refl _) (by omega))]
    exact ⟨_, rfl, rfl⟩
  | succ m ih =>
    intro k n h1 h2
    obtain ⟨n, rfl⟩ : ∃ k, n = k + 1 := ⟨n - 1, by omega⟩
    have hk : k < N := by omega
    obtain ⟨z, z1, z2⟩ := ih (k + 1) n (by omega) (by omega)
    have a1 := (H.1 k hk).1
    have a2 := (H2.1 k hk).1
    have b1 := (H.2.1 k hk).1
    have b2 := (H2.2.1 k hk).1
    rw [fn_X4_firstOther_L2, bind_of (po_sh P), bind_of (sh_gI O 2 (by decide)), s3, if_neg (nI_ge (by omega) (by omega)), bind_of (po_gr P), bind_of (po_grI P (by omega) hk), bind_of (po_gr P2), bind_of (po_grI P2 (by omega) hk)]
    rw [fn_X6_differ_L27, bind_of (re_gI O 1 (by omega)), bind_of (re_gI O 2 (by omega)), s5, s6, hNN, if_neg (nI_ge (by omega) (by omega)), bind_of (re_fl O), bind_of (ref_inCell O hN hq H hk), bind_of (re_fl O), nI_1 k]
    dsimp only
    rw [bind_of (re_wasIn O hN hq H2 hk), bind_of (re_now O)]
    dsimp only
    rw [bind_of (re_I O (by omega)), bind_of (re_was O), bind_of (re_wI O (by omega)), ← a1, ← a2]
    by_cases g1 : C (pGr 3) k = C (pGr 72) k
    · rw [if_pos g1, if_pos g1, bind_of (po_mk P), bind_of (po_mkI P (by omega) hk), bind_of (po_mk P2), bind_of (po_mkI P2 (by omega) hk), bind_of (re_now O), k100, bind_of (re_I O (by omega)), bind_of (re_was O), bind_of (re_wI O (by omega)), ← b1, ← b2]
      by_cases g2 : C (pMk 3) k = C (pMk 72) k
      · rw [if_pos g2, if_pos g2, bind_of (po_fl P), fn_X4_hasOtherDweller, bind_of (po_dw P), bind_of (po_dwI P (by omega) hk), bind_of (po_dw P2), bind_of (po_dwI P2 (by omega) hk)]
        by_cases g3 : C (pDw 3) k = C (pDw 72) k
        · rw [if_pos g3, if_pos g3]
          rcases dw_or H hk with g | ⟨x, x1, x2, x3, x4⟩
          · rw [g, if_pos rfl, if_pos (by decide), bind_of rfl]
            dsimp only
            rw [if_pos rfl]
            exact ⟨z, z1, z2⟩
          · have y3 : C (pA 72 x) 3 = 1 := by
              rcases H2.2.2.2.2.2.1 k hk with g | ⟨x', y1, y2, y3, -⟩
              · rw [← g3, x2] at g
                exact absurd g (nI_m1 (by omega))
              · rw [← g3, x2] at y2
                rw [nI_inj (by omega) (by omega) y2]
                exact y3
            obtain ⟨⟨-, k2, -⟩, -⟩ := rel_liv H x1 x3
            obtain ⟨⟨-, l2, -⟩, -⟩ := rel_liv H2 x1 y3
            have e1 : R 144 (200 + 64 * x + 1) = C (pA 3 x) 6 := (k2 6 (by omega) (by omega) (by omega)).symm
            have e2 : R 144 (200 + 64 * x + 2) = C (pA 3 x) 7 := (k2 7 (by omega) (by omega) (by omega)).symm
            have f1 : R 145 (200 + 64 * x + 1) = C (pA 72 x) 6 := (l2 6 (by omega) (by omega) (by omega)).symm
            have f2 : R 145 (200 + 64 * x + 2) = C (pA 72 x) 7 := (l2 7 (by omega) (by omega) (by omega)).symm
            rw [x2, if_neg (nI_m1 (by omega)), if_neg (nI_pos (by omega)), bind_of (po_ar P), bind_of (po_an P x1), bind_of (po_ar P2), bind_of (po_an P2 x1), bind_of (an_gI P x1 6 (by decide)), bind_of (an_gI P2 x1 6 (by decide)), bind_of (re_now O), fn_X6_at, bind_of rfl, at_eq]
            dsimp only
            rw [nk_1, bind_of (re_I O (by omega)), e1, bind_of (re_was O), fn_X6_at, bind_of rfl, at_eq]
            dsimp only
            rw [nk_1, bind_of (re_wI O (by omega)), f1]
            by_cases g4 : C (pA 3 x) 6 = C (pA 72 x) 6
            · rw [if_pos g4, if_pos g4, bind_of (an_gI P x1 7 (by decide)), bind_of (an_gI P2 x1 7 (by decide)), bind_of (re_now O), fn_X6_at, bind_of rfl, at_eq]
              dsimp only
              rw [nk_2, bind_of (re_I O (by omega)), e2, bind_of (re_was O), fn_X6_at, bind_of rfl, at_eq]
              dsimp only
              rw [nk_2, bind_of (re_wI O (by omega)), f2]
              by_cases g5 : C (pA 3 x) 7 = C (pA 72 x) 7
              · rw [if_pos g5, if_pos g5, bind_of rfl]
                dsimp only
                rw [if_pos rfl]
                exact ⟨z, z1, z2⟩
              · rw [if_neg g5, if_neg g5, bind_of rfl]
                exact ⟨_, rfl, rfl⟩
            · rw [if_neg g4, if_neg g4, bind_of rfl]
              exact ⟨_, rfl, rfl⟩
        · rw [if_neg g3, if_neg g3, bind_of rfl, ite_self]
          exact ⟨_, rfl, rfl⟩
      · rw [if_neg g2, if_neg g2, ite_self]
        exact ⟨_, rfl, rfl⟩
    · rw [if_neg g1, if_neg g1, ite_self]
      exact ⟨_, rfl, rfl⟩
theorem thr_differ (O : cp_ok L w h) (hq : 2000 ≤ q) (T : Top w h B C R) : Thr w h B (fn_X0_differ L q 0) (tx_X0_differ L q 0) (fn_X6_differ L q 143) (fun _ => 1) C R := by
  have hN := N_le O.1
  have P : cp_okP L (w * h) 3 := O.2.2.2.2.1
  have P2 : cp_okP L (w * h) 72 := O.2.2.2.2.2.1
  have g5 : cp_gI L C 0 0 5 = some (C 0 5) := cp_gI_of O.2.1 rfl
  obtain ⟨-, -, h5, hk⟩ := id T
  rcases hk with hk | ⟨hk, -⟩
  · refine Or.inr ⟨2, 0, cp_up R 143 0 1, ?_, ?_, Both.same T⟩
    · unfold tx_X0_differ
      rw [bind_of g5, if_pos hk]
    · unfold fn_X6_differ
      rw [bind_of (re_gI O 4 (by omega)), ← h5, if_pos hk, bind_of (re_pI O 0 _ (by omega)), bind_of (re_t O 1), if_neg (by decide)]
  · have T1 := T.th 0
    have hH2 : Rel (w * h) 72 145 B C (cp_up R 143 0 0) := by
      rcases T1.2.2.2 with g | ⟨-, g⟩
      · rw [hk] at g
        exact absurd g (by decide)
      · exact g
    obtain ⟨z, z1, z2⟩ := sim_differ_L (q := q) O rfl P P2 hq T1.1 T1.2.1 hH2 (w * h) 0 q (Nat.zero_add _) (by omega)
    have k1 : ¬ C 0 5 = 0 := by rw [hk]; decide
    have f1 : fn_X4_firstOther L q 3 72 C = some (z, C) := z1
    refine Or.inl ⟨?_, z, C, cp_up R 143 0 0, ?_, ?_, Both.same T⟩
    · unfold tx_X0_differ
      rw [bind_of g5, if_neg k1, bind_of (top_now O), bind_of (top_kept O)]
    · unfold fn_X0_differ
      rw [bind_of g5, if_neg k1, bind_of (top_now O), bind_of (top_kept O), bind_of (po_fl P), bind_of f1]
    · unfold fn_X6_differ
      rw [bind_of (re_gI O 4 (by omega)), ← h5, if_neg k1, bind_of (re_pI O 0 _ (by omega)), bind_of (re_t O 0), if_pos (by decide)]
      exact z2
/-- one world for both, of calls that answer nothing -/
theorem combV {f g : cp_Dt → Option cp_Dt} (hp : ∀ C R, Top w h B C R → ∃ C' R', f C = some C' ∧ g R = some R' ∧ Both w h B' C R 0 0 C' R') (T : Top w h B D D) :
    ∃ C' D2, f D = some C' ∧ g C' = some D2 ∧ Top w h B' D2 D2 ∧ (∀ k, 146 ≤ k → D2 k = D k) := by
  obtain ⟨C', R', h1, -, h3⟩ := hp D D T
  obtain ⟨C2, R2, g1, g2, g3, g4, -, g6, -⟩ := hp D C' (T.congr (fun _ _ => rfl) (fun k h1 _ => h3.2.2.1 k h1))
  rw [h1] at g1
  cases g1
  exact ⟨C', R2, h1, g2, g3.congr (fun k hk => g6 k (Or.inl hk)) (fun _ _ _ => rfl), fun k hk => (g6 k (Or.inr hk)).trans (h3.2.2.1 k (by omega))⟩
end DF
