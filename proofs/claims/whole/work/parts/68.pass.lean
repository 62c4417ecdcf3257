/-! All pairs; one tick; many -/
theorem m1le {k : Nat} (hk : k < 2 ^ 31) : (-1 : Int32) ≤ nI k := by
  rw [Int32.le_iff_toInt_le, nI_toInt hk]
  have : (-1 : Int32).toInt = -1 := by decide
  omega
theorem ar_b {B m : Nat} (h : B + 1030 * (m + 1) < 2 ^ 29) : B + 1030 < 2 ^ 29 ∧ B + 1030 + 1030 * m < 2 ^ 29 ∧ B + 1030 + 1030 * m ≤ B + 1030 * (m + 1) := by omega
theorem m1nlt {k : Nat} (hk : k < 2 ^ 31) : ¬ nI k < (-1 : Int32) := by
  rw [Int32.lt_iff_toInt_lt, nI_toInt hk]
  have : (-1 : Int32).toInt = -1 := by decide
  omega
section PS
variable {L : cp_Lay} {w h B q N a b k n : Nat} {C0 R0 C R : cp_Dt}
theorem sim_pair (O : cp_ok L w h) (hNe : N = w * h) (P : cp_okP L N 3) (hq : 2000 ≤ q) (S : rSh w h C R) (H : Rel N 3 144 B C R) (hk : k < 16) :
    (fn_X2_greaterOfPair L q 142 (nI k) C = some (-1, C) ∧ fn_X6_pass_L33 L q (n + 1) 143 (nI k) R = fn_X6_pass_L33 L q n 143 (nI (k + 1)) R) ∨
    ∃ b, b < 16 ∧ k ≠ b ∧ C (pA 3 k) 3 = 1 ∧ C (pA 3 b) 3 = 1 ∧ fn_X2_greaterOfPair L q 142 (nI k) C = some (nI b, C) ∧ fn_X6_pass_L33 L q (n + 1) 143 (nI k) R = (fn_X6_breed L q 143 (nI k) (nI b) R).bind fun D => fn_X6_pass_L33 L q n 143 (nI (k + 1)) D := by
  have hN : N ≤ 100 := by rw [hNe]; exact N_le O.1
  subst hNe
  rw [fn_X6_pass_L33, if_neg (i16 hk), re_fl O, bind_of rfl, bind_of (ref_lives O hN H hk)]
  dsimp only
  unfold fn_X2_greaterOfPair
  rw [bind_of (br_po O), bind_of (po_ar P), bind_of (po_an P hk), bind_of (an_gI P hk 3 (by decide)), nI_1]
  rcases liv_or H hk with hl | hl
  · obtain ⟨⟨k1, k2, -⟩, ⟨c, c1, c2, c3⟩, -⟩ := rel_liv H hk hl
    have r9 : R 144 (200 + 64 * k + 9) = C (pA 3 k) 4 := (k2 4 (by omega) (by omega) (by omega)).symm
    rw [hl, if_neg (by decide), if_neg (by decide), re_now O, bind_of rfl, fn_X6_at, bind_of rfl, at_eq]
    dsimp only
    rw [nk_9, bind_of (re_I O (by omega)), r9, bind_of (an_gI P hk 4 (by decide))]
    rcases (H.2.2.2.2.1 k hk).1 with h4 | h4
    · rw [h4, if_pos rfl, if_neg (by decide), if_pos (m1le (by omega))]
      exact Or.inl ⟨rfl, rfl⟩
    · obtain ⟨c', d1, d2, d3⟩ := sim_ahead (q := q) O P S H hk hl
      rw [h4, if_neg (by decide), if_pos rfl, bind_of (br_po O), bind_of (po_dw P), bind_of (br_po O), bind_of (po_fl P), bind_of d2, bind_of rfl, bind_of d3, bind_of rfl]
      dsimp only
      rw [bind_of (po_dwI P (by omega) d1), bind_of (ref_inCell O hN hq H d1)]
      dsimp only
      rcases dw_or H d1 with g | ⟨x, x1, x2, x3, x4⟩
      · rw [g, if_neg (m1nlt (by omega)), if_pos (m1le (by omega))]
        exact Or.inl ⟨rfl, rfl⟩
      · rw [x2]
        by_cases hkx : k < x
        · obtain ⟨⟨m1, m2, -⟩, -⟩ := rel_liv H x1 x3
          have s9 : R 144 (200 + 64 * x + 9) = C (pA 3 x) 4 := (m2 4 (by omega) (by omega) (by omega)).symm
          rw [if_pos (nI_lt hkx (by omega)), if_neg (nI_ge hkx (by omega)), bind_of (br_po O), bind_of (po_ar P), bind_of (po_an P x1), bind_of (an_gI P x1 4 (by decide)), bind_of rfl, fn_X6_at, bind_of rfl, at_eq]
          dsimp only
          rw [nk_9, bind_of (re_I O (by omega)), s9]
          rcases (H.2.2.2.2.1 x x1).1 with h5 | h5
          · rw [h5, if_pos rfl, if_neg (by decide)]
            exact Or.inl ⟨rfl, rfl⟩
          · obtain ⟨c'', e1, e2, e3⟩ := sim_ahead (q := q) O P S H x1 x3
            rw [h5, if_neg (by decide), if_pos rfl, bind_of (br_po O), bind_of (po_fl P), bind_of e2, bind_of rfl, bind_of e3, bind_of rfl]
            dsimp only
            rw [bind_of (an_gI P hk 5 (by decide)), c2, bind_of (ref_inCell O hN hq H e1)]
            dsimp only
            by_cases hcc : c'' = c
            · subst hcc
              rw [if_pos rfl, c3, if_pos rfl, bind_of rfl]
              exact Or.inr ⟨x, x1, by omega, rfl, x3, rfl, rfl⟩
            · rw [if_neg (fun e => hcc (nI_inj (by omega) (by omega) e)), if_neg]
              · exact Or.inl ⟨rfl, rfl⟩
              · intro e
                rcases dw_or H e1 with g | ⟨y, y1, y2, y3, y4⟩
                · rw [g] at e
                  exact nI_m1 (by omega) e.symm
                · have : y = k := nI_inj (by omega) (by omega) (y2.symm.trans e)
                  rw [this, c2] at y4
                  exact hcc (nI_inj (by omega) (by omega) y4).symm
        · rw [if_neg (nI_nlt (by omega) (by omega)), if_pos (nI_le (by omega) (by omega))]
          exact Or.inl ⟨rfl, rfl⟩
  · rw [hl, if_pos rfl, if_pos rfl, if_pos (m1le (by omega))]
    exact Or.inl ⟨rfl, rfl⟩
theorem sim_breedAll_L (O : cp_ok L w h) (hNe : N = w * h) (P : cp_okP L N 3) (hq : 2000 ≤ q) (S : rSh w h C0 R0) : ∀ (m k n B : Nat) (C R : cp_Dt), k + m = 16 → m < n → B + m < 2 ^ 29 → Sx N B C0 R0 C R →
    ∃ C' R', fn_X2_breedAll_L2 L q n 142 (nI k) C = some C' ∧ fn_X6_pass_L33 L q n 143 (nI k) R = fn_X6_pass_L125 L q q 143 0 R' ∧ Sx N (B + m) C0 R0 C' R' := by
  intro m
  induction m with
  | zero =>
    intro k n B C R hk hn hB H
    have : k = 16 := by omega
    subst this
    obtain ⟨n, rfl⟩ : ∃ z, n = z + 1 := ⟨n - 1, by omega⟩
    rw [fn_X2_breedAll_L2, fn_X6_pass_L33, if_pos i16', if_pos i16']
    exact ⟨_, _, rfl, rfl, H⟩
  | succ m ih =>
    intro k n B C R hk hn hB H
    obtain ⟨n, rfl⟩ : ∃ z, n = z + 1 := ⟨n - 1, by omega⟩
    have ha : k < 16 := by omega
    have S1 : rSh w h C R := S.mv H.2.1 H.2.2
    rw [fn_X2_breedAll_L2, if_neg (i16 ha), bind_of (br_fl O)]
    rcases sim_pair (q := q) (n := n) O hNe P hq S1 H.1 ha with ⟨h1, h2⟩ | ⟨b, hb, hkb, l1, l2, h1, h2⟩
    · rw [bind_of h1, h2, if_pos rfl]
      dsimp only
      rw [nI_1]
      obtain ⟨C2, R2, y1, y2, H2⟩ := ih (k + 1) n B C R (by omega) (by omega) (by omega) H
      exact ⟨C2, R2, y1, y2, H2.more (by omega)⟩
    · obtain ⟨C1, R1, z1, z2, H1⟩ := sim_breed (q := q) O hNe P hq (by omega) S H ha hb hkb l1 l2
      rw [bind_of h1, h2, if_neg (show ¬ nI b = -1 from nI_m1 (by omega)), bind_of (br_fl O)]
      dsimp only
      rw [bind_of z1, bind_of z2, nI_1]
      obtain ⟨C2, R2, y1, y2, H2⟩ := ih (k + 1) n (B + 1) C1 R1 (by omega) (by omega) (by omega) H1
      exact ⟨C2, R2, y1, y2, H2.more (by omega)⟩
/-- one tick on both sides -/
theorem sim_pass (O : cp_ok L w h) (hNe : N = w * h) (P : cp_okP L N 3) (hq : 2000 ≤ q) (hB : B + 1030 < 2 ^ 29) (S : rSh w h C0 R0) (H : Sx N B C0 R0 C R) :
    ∃ C1 C2 C3 C4 R', fn_X4_shine L q 3 C = some C1 ∧ fn_X3_moveAll L q 141 C1 = some C2 ∧ fn_X2_breedAll L q 142 C2 = some C3 ∧ fn_X4_endDead L q 3 C3 = some C4 ∧ fn_X6_pass L q 143 R = some R' ∧ Sx N (B + 1030) C0 R0 (cp_up C4 3 11 (C4 3 11 + 1)) R' := by
  have hN : N ≤ 100 := by rw [hNe]; exact N_le O.1
  have S0 : rSh w h C R := S.mv H.2.1 H.2.2
  obtain ⟨C1, R1, a1, a2, H1⟩ := sim_shine (q := q) hNe O P hq S0 (Sm.rf H.1)
  obtain ⟨C2, R2, b1, b2, H2⟩ := sim_moveAll_L (q := q) hNe O P hq S0 16 0 q B C1 R1 rfl (by omega) (by omega) H1
  obtain ⟨C3, R3, c1, c2, H3⟩ := sim_breedAll_L (q := q) O hNe P hq S0 16 0 q (B + 63 * 16) C2 R2 rfl (by omega) (by omega) H2.x
  obtain ⟨C4, R4, d1, d2, H4⟩ := sim_endDead (q := q) O P hN hq (by omega) H3
  refine ⟨C1, C2, C3, C4, cp_up R4 144 1230 (C4 3 11 + 1), a1, b1, c1, d1, ?_, ?_⟩
  · unfold fn_X6_pass
    rw [bind_of (re_fl O), bind_of a2]
    exact b2.trans (c2.trans d2)
  · exact H.tr ⟨rel_po (H4.1.more (by omega)) hN (j := 11) (by omega) ⟨by omega, by omega⟩, H4.2.1.up (by omega), H4.2.2.up⟩
theorem top_now (O : cp_ok L w h) : cp_gR L 0 0 1 = some 3 := cp_gR_of O.2.1 rfl
theorem top_sh (O : cp_ok L w h) : cp_gR L 0 0 0 = some 1 := cp_gR_of O.2.1 rfl
theorem top_kept (O : cp_ok L w h) : cp_gR L 0 0 2 = some 72 := cp_gR_of O.2.1 rfl
theorem top_mind (O : cp_ok L w h) : cp_gR L 0 0 3 = some 141 := cp_gR_of O.2.1 rfl
theorem top_br (O : cp_ok L w h) : cp_gR L 0 0 4 = some 142 := cp_gR_of O.2.1 rfl
theorem sim_tick_L (O : cp_ok L w h) (hNe : N = w * h) (P : cp_okP L N 3) (hq : 2000 ≤ q) (S : rSh w h C0 R0) (ht : R0 143 0 = 0) {t : Nat} (ht50 : t ≤ 50) : ∀ (m k n B : Nat) (C R : cp_Dt), k + m = t → m < n → B + 1030 * m < 2 ^ 29 → Sx N B C0 R0 C R →
    ∃ z C' R', fn_X0_tick_L22 L q n 0 (nI t) (nI k) C = some (z, C') ∧ fn_X6_tick_L21 L q n 143 (nI t) (nI k) R = some (z, R') ∧ Sx N (B + 1030 * m) C0 R0 C' R' := by
  have hN : N ≤ 100 := by rw [hNe]; exact N_le O.1
  intro m
  induction m with
  | zero =>
    intro k n B C R hk hn hB H
    obtain ⟨n, rfl⟩ : ∃ z, n = z + 1 := ⟨n - 1, by omega⟩
    obtain ⟨z, z1, z2⟩ := sim_count (q := q) O P hN hq H.1
    have t0 : R 143 0 = 0 := by rw [H.2.2 143 (by omega)]; exact ht
    rw [fn_X0_tick_L22, fn_X6_tick_L21, if_pos (nI_le (by omega) (by omega)), if_pos (nI_le (by omega) (by omega)), bind_of (top_now O), bind_of (po_fl P), bind_of z2, bind_of (re_gI O 0 (by omega)), t0, if_pos (by decide), bind_of (re_fl O), bind_of z1]
    exact ⟨z, C, R, rfl, rfl, H⟩
  | succ m ih =>
    intro k n B C R hk hn hB H
    obtain ⟨n, rfl⟩ : ∃ z, n = z + 1 := ⟨n - 1, by omega⟩
    have t0 : R 143 0 = 0 := by rw [H.2.2 143 (by omega)]; exact ht
    obtain ⟨hb, hb2, hb3⟩ := ar_b hB
    obtain ⟨C1, C2, C3, C4, R', a1, a2, a3, a4, a5, H1⟩ := sim_pass (q := q) (B := B) O hNe P hq hb S H
    rw [fn_X0_tick_L22, fn_X6_tick_L21, if_neg (nI_ge (by omega) (by omega)), if_neg (nI_ge (by omega) (by omega)), bind_of (top_now O), bind_of (po_fl P), bind_of a1, bind_of (top_mind O), bind_of (mi_fl O), bind_of a2, bind_of (top_br O), bind_of (br_fl O), bind_of a3, bind_of (top_now O), bind_of (po_fl P), bind_of a4, bind_of (top_now O), bind_of (po_gI P 11 (by decide)), bind_of (po_pI P 11 _ (by decide)), bind_of (re_gI O 0 (by omega)), t0, if_pos rfl, bind_of (re_fl O), bind_of a5, nI_1]
    obtain ⟨z, C5, R5, y1, y2, H2⟩ := ih (k + 1) n (B + 1030) _ _ (by clear hB; omega) (by clear hB; omega) hb2 H1
    exact ⟨z, C5, R5, y1, y2, H2.more hb3⟩
end PS
