/-! Coupled writes: the same change in the class's pond and in the reference's array keeps Rel -/
theorem ro_lt (j : Nat) : 1 ≤ ro j ∧ ro j ≤ 9 := by
  unfold ro
  split <;> omega
theorem ro_inj {i j : Nat} (hi : 4 ≤ i ∧ i < 14 ∧ i ≠ 5) (hj : 4 ≤ j ∧ j < 14 ∧ j ≠ 5) (h : ro i = ro j) : i = j := by
  obtain ⟨a1, a2, a3⟩ := hi
  obtain ⟨b1, b2, b3⟩ := hj
  match i, a1, a2, a3 with
  | 4, _, _, _ | 6, _, _, _ | 7, _, _, _ | 8, _, _, _ | 9, _, _, _ | 10, _, _, _ | 11, _, _, _ | 12, _, _, _ | 13, _, _, _ =>
    match j, b1, b2, b3 with
    | 4, _, _, _ | 6, _, _, _ | 7, _, _, _ | 8, _, _, _ | 9, _, _, _ | 10, _, _, _ | 11, _, _, _ | 12, _, _, _ | 13, _, _, _ => first | rfl | (simp [ro] at h)
    | 5, _, _, h5 => exact absurd rfl h5
  | 5, _, _, h5 => exact absurd rfl h5
section WR
variable {N b t B B' : Nat} {C R : cp_Dt}
theorem Rel.more (h : Rel N b t B C R) (hB : B ≤ B') : Rel N b t B' C R := by
  obtain ⟨h1, h2, h3, h4, h5, h6, h7⟩ := h
  refine ⟨h1, h2, h3, fun a ha hl => ?_, h5, h6, h7⟩
  obtain ⟨v1, v2, ⟨e, v3, v4⟩, v5, v6, ⟨g, v7, v8⟩⟩ := h4 a ha hl
  exact ⟨v1, v2, ⟨e, by omega, v4⟩, v5, v6, ⟨g, by omega, v8⟩⟩
/-- a field of an animal that isn't its life, its home or its length -/
theorem rel_an (h : Rel N b t B C R) (hB : B ≤ B') (hN : N ≤ 100) {a j : Nat} (ha : a < 16) (hj : 4 ≤ j ∧ j < 14 ∧ j ≠ 5 ∧ j ≠ 9) {v : Int32}
    (hv : (j = 4 → v = 0 ∨ v = 1) ∧ (j = 6 → ∃ d, d < 4 ∧ v = nI d) ∧ (j = 7 → ∃ e, e ≤ B' ∧ v = nI e) ∧ (j = 10 → ∃ p, p < 20 ∧ v = nI p) ∧ (j = 13 → ∃ g, g ≤ B' ∧ v = nI g)) :
    Rel N b t B' (cp_up C (pA b a) j v) (cp_up R t (200 + 64 * a + ro j) v) := by
  obtain ⟨h1, h2, h3, h4, h5, h6, h7⟩ := h.more hB
  obtain ⟨j1, j2, j3, j4⟩ := hj
  have hr := ro_lt j
  refine ⟨fun c hc => ?_, fun c hc => ?_, fun c hc => ?_, fun c hc => ?_, fun c hc => ?_, fun c hc => ?_, ?_⟩
  · rw [up_Ag, cp_up_eq, upd_ne (by omega)]
    exact h1 c hc
  · rw [up_Am, cp_up_eq, upd_ne (by omega)]
    exact h2 c hc
  · unfold rL
    rw [up_AA, up_AR, up_AM, up_AG, cp_up_eq]
    by_cases hca : c = a
    · subst hca
      rw [if_pos rfl, upd_ne (show 3 ≠ j by omega)]
      rcases h3 c hc with ⟨g1, k1, k2, k3, k4, k5⟩ | ⟨g1, g2⟩
      · refine Or.inl ⟨g1, ?_, fun i i1 i2 i3 => ?_, fun i hi => ?_, fun i hi => ?_, fun i l hl hl2 hi => ?_⟩
        · rw [upd_ne (by omega), upd_ne (by omega)]
          exact k1
        · by_cases hij : i = j
          · subst hij
            rw [upd_eq, upd_eq]
          · rw [upd_ne hij, upd_ne (fun e => hij (ro_inj ⟨i1, i2, i3⟩ ⟨j1, j2, j3⟩ (by omega)))]
            exact k2 i i1 i2 i3
        · rw [upd_ne (by omega)]
          exact k3 i hi
        · rw [upd_ne (by omega)]
          exact k4 i hi
        · rw [upd_ne (by omega)] at hl
          rw [upd_ne (by omega)]
          exact k5 i l hl hl2 hi
      · refine Or.inr ⟨g1, ?_⟩
        rw [upd_ne (by omega)]
        exact g2
    · rw [if_neg hca]
      rcases h3 c hc with ⟨g1, k1, k2, k3, k4, k5⟩ | ⟨g1, g2⟩
      · refine Or.inl ⟨g1, ?_, fun i i1 i2 i3 => ?_, fun i hi => ?_, fun i hi => ?_, fun i l hl hl2 hi => ?_⟩
        · rw [upd_ne (by omega)]
          exact k1
        · have := ro_lt i
          rw [upd_ne (by omega)]
          exact k2 i i1 i2 i3
        · rw [upd_ne (by omega)]
          exact k3 i hi
        · rw [upd_ne (by omega)]
          exact k4 i hi
        · rw [upd_ne (by omega)]
          exact k5 i l hl hl2 hi
      · refine Or.inr ⟨g1, ?_⟩
        rw [upd_ne (by omega)]
        exact g2
  · unfold rV
    rw [up_AA, up_Ad]
    by_cases hca : c = a
    · subst hca
      rw [if_pos rfl]
      intro hl
      rw [upd_ne (show 3 ≠ j by omega)] at hl
      obtain ⟨⟨c1, v1, v2, v3⟩, ⟨d, d1, d2⟩, ⟨e, e1, e2⟩, ⟨p, p1, p2⟩, ⟨l, l1, l2⟩, ⟨g, g1, g2⟩⟩ := h4 c hc hl
      refine ⟨⟨c1, v1, by rw [upd_ne (by omega)]; exact v2, v3⟩, ?_, ?_, ?_, ⟨l, l1, by rw [upd_ne (by omega)]; exact l2⟩, ?_⟩
      · by_cases hj6 : j = 6
        · subst hj6
          rw [upd_eq]
          exact hv.2.1 rfl
        · exact ⟨d, d1, by rw [upd_ne (by omega)]; exact d2⟩
      · by_cases hj7 : j = 7
        · subst hj7
          rw [upd_eq]
          exact hv.2.2.1 rfl
        · exact ⟨e, e1, by rw [upd_ne (by omega)]; exact e2⟩
      · by_cases hj10 : j = 10
        · subst hj10
          rw [upd_eq]
          exact hv.2.2.2.1 rfl
        · exact ⟨p, p1, by rw [upd_ne (by omega)]; exact p2⟩
      · by_cases hj13 : j = 13
        · subst hj13
          rw [upd_eq]
          exact hv.2.2.2.2 rfl
        · exact ⟨g, g1, by rw [upd_ne (by omega)]; exact g2⟩
    · rw [if_neg hca]
      exact h4 c hc
  · unfold rW
    rw [up_AA, up_AR, up_AM, up_AG]
    obtain ⟨w1, w2⟩ := h5 c hc
    refine ⟨?_, w2⟩
    by_cases hca : c = a
    · subst hca
      rw [if_pos rfl]
      by_cases hj4 : j = 4
      · subst hj4
        rw [upd_eq]
        exact hv.1 rfl
      · rw [upd_ne (by omega)]
        exact w1
    · rw [if_neg hca]
      exact w1
  · rw [up_Ad]
    rcases h6 c hc with g | ⟨x, x1, x2, x3, x4⟩
    · exact Or.inl g
    · refine Or.inr ⟨x, x1, x2, ?_⟩
      rw [up_AA]
      by_cases hxa : x = a
      · subst hxa
        rw [if_pos rfl, upd_ne (by omega), upd_ne (by omega)]
        exact ⟨x3, x4⟩
      · rw [if_neg hxa]
        exact ⟨x3, x4⟩
  · unfold rP
    rw [up_Ao, cp_up_eq]
    obtain ⟨p1, p2⟩ := h7
    refine ⟨fun i i1 i2 => ?_, p2⟩
    rw [upd_ne (by omega)]
    exact p1 i i1 i2
/-- a register -/
theorem rel_rg (h : Rel N b t B C R) (hN : N ≤ 100) {a i : Nat} (ha : a < 16) (hi : i < 8) {v : Int32} (hv : cp_by v) : Rel N b t B (cp_up C (pR b a) i v) (cp_up R t (200 + 64 * a + 10 + i) v) := by
  obtain ⟨h1, h2, h3, h4, h5, h6, h7⟩ := h
  refine ⟨fun c hc => ?_, fun c hc => ?_, fun c hc => ?_, fun c hc => ?_, fun c hc => ?_, fun c hc => ?_, ?_⟩
  · rw [up_Rg, cp_up_eq, upd_ne (by omega)]
    exact h1 c hc
  · rw [up_Rm, cp_up_eq, upd_ne (by omega)]
    exact h2 c hc
  · unfold rL
    rw [up_RA, up_RR, up_RM, up_RG, cp_up_eq]
    rcases h3 c hc with ⟨g1, k1, k2, k3, k4, k5⟩ | ⟨g1, g2⟩
    · refine Or.inl ⟨g1, ?_, fun j i1 i2 i3 => ?_, fun j hj => ?_, fun j hj => ?_, fun j l hl hl2 hj => ?_⟩
      · rw [upd_ne (by omega)]
        exact k1
      · have := ro_lt j
        rw [upd_ne (by omega)]
        exact k2 j i1 i2 i3
      · by_cases hca : c = a
        · subst hca
          rw [if_pos rfl]
          by_cases hji : j = i
          · subst hji
            rw [upd_eq, upd_eq]
          · rw [upd_ne hji, upd_ne (by omega)]
            exact k3 j hj
        · rw [if_neg hca, upd_ne (by omega)]
          exact k3 j hj
      · rw [upd_ne (by omega)]
        exact k4 j hj
      · rw [upd_ne (by omega)]
        exact k5 j l hl hl2 hj
    · refine Or.inr ⟨g1, ?_⟩
      rw [upd_ne (by omega)]
      exact g2
  · unfold rV
    rw [up_RA, up_Rd]
    exact h4 c hc
  · unfold rW
    rw [up_RA, up_RR, up_RM, up_RG]
    obtain ⟨w1, w2, w3⟩ := h5 c hc
    refine ⟨w1, fun j hj => ?_, w3⟩
    by_cases hca : c = a
    · subst hca
      rw [if_pos rfl]
      by_cases hji : j = i
      · subst hji
        rw [upd_eq]
        exact hv
      · rw [upd_ne hji]
        exact w2 j hj
    · rw [if_neg hca]
      exact w2 j hj
  · rw [up_Rd]
    rcases h6 c hc with g | ⟨x, x1, x2, x3⟩
    · exact Or.inl g
    · refine Or.inr ⟨x, x1, x2, ?_⟩
      rw [up_RA]
      exact x3
  · unfold rP
    rw [up_Ro, cp_up_eq]
    obtain ⟨p1, p2⟩ := h7
    refine ⟨fun i i1 i2 => ?_, p2⟩
    rw [upd_ne (by omega)]
    exact p1 i i1 i2
/-- a memory place -/
theorem rel_me (h : Rel N b t B C R) (hN : N ≤ 100) {a i : Nat} (ha : a < 16) (hi : i < 16) {v : Int32} (hv : cp_by v) : Rel N b t B (cp_up C (pM b a) i v) (cp_up R t (200 + 64 * a + 18 + i) v) := by
  obtain ⟨h1, h2, h3, h4, h5, h6, h7⟩ := h
  refine ⟨fun c hc => ?_, fun c hc => ?_, fun c hc => ?_, fun c hc => ?_, fun c hc => ?_, fun c hc => ?_, ?_⟩
  · rw [up_Mg, cp_up_eq, upd_ne (by omega)]
    exact h1 c hc
  · rw [up_Mm, cp_up_eq, upd_ne (by omega)]
    exact h2 c hc
  · unfold rL
    rw [up_MA, up_MR, up_MM, up_MG, cp_up_eq]
    rcases h3 c hc with ⟨g1, k1, k2, k3, k4, k5⟩ | ⟨g1, g2⟩
    · refine Or.inl ⟨g1, ?_, fun j i1 i2 i3 => ?_, fun j hj => ?_, fun j hj => ?_, fun j l hl hl2 hj => ?_⟩
      · rw [upd_ne (by omega)]
        exact k1
      · have := ro_lt j
        rw [upd_ne (by omega)]
        exact k2 j i1 i2 i3
      · rw [upd_ne (by omega)]
        exact k3 j hj
      · by_cases hca : c = a
        · subst hca
          rw [if_pos rfl]
          by_cases hji : j = i
          · subst hji
            rw [upd_eq, upd_eq]
          · rw [upd_ne hji, upd_ne (by omega)]
            exact k4 j hj
        · rw [if_neg hca, upd_ne (by omega)]
          exact k4 j hj
      · rw [upd_ne (by omega)]
        exact k5 j l hl hl2 hj
    · refine Or.inr ⟨g1, ?_⟩
      rw [upd_ne (by omega)]
      exact g2
  · unfold rV
    rw [up_MA, up_Md]
    exact h4 c hc
  · unfold rW
    rw [up_MA, up_MR, up_MM, up_MG]
    obtain ⟨w1, w2, w3, w4⟩ := h5 c hc
    refine ⟨w1, w2, fun j hj => ?_, w4⟩
    by_cases hca : c = a
    · subst hca
      rw [if_pos rfl]
      by_cases hji : j = i
      · subst hji
        rw [upd_eq]
        exact hv
      · rw [upd_ne hji]
        exact w3 j hj
    · rw [if_neg hca]
      exact w3 j hj
  · rw [up_Md]
    rcases h6 c hc with g | ⟨x, x1, x2, x3⟩
    · exact Or.inl g
    · refine Or.inr ⟨x, x1, x2, ?_⟩
      rw [up_MA]
      exact x3
  · unfold rP
    rw [up_Mo, cp_up_eq]
    obtain ⟨p1, p2⟩ := h7
    refine ⟨fun i i1 i2 => ?_, p2⟩
    rw [upd_ne (by omega)]
    exact p1 i i1 i2
/-- the grain of a cell -/
theorem rel_gr (h : Rel N b t B C R) (hN : N ≤ 100) {i g : Nat} (hi : i < N) (hg : g ≤ 250) {v : Int32} (hv : v = nI g) : Rel N b t B (cp_up C (pGr b) i v) (cp_up R t i v) := by
  obtain ⟨h1, h2, h3, h4, h5, h6, h7⟩ := h
  refine ⟨fun c hc => ?_, fun c hc => ?_, fun c hc => ?_, fun c hc => ?_, fun c hc => ?_, fun c hc => ?_, ?_⟩
  · rw [up_gg, cp_up_eq]
    by_cases hci : c = i
    · subst hci
      rw [upd_eq, upd_eq]
      exact ⟨rfl, g, hg, hv⟩
    · rw [upd_ne hci, upd_ne hci]
      exact h1 c hc
  · rw [up_gm, cp_up_eq, upd_ne (by omega)]
    exact h2 c hc
  · unfold rL
    rw [up_gA, up_gR, up_gM, up_gG, cp_up_eq]
    rcases h3 c hc with ⟨g1, k1, k2, k3, k4, k5⟩ | ⟨g1, g2⟩
    · refine Or.inl ⟨g1, ?_, fun j i1 i2 i3 => ?_, fun j hj => ?_, fun j hj => ?_, fun j l hl hl2 hj => ?_⟩
      · rw [upd_ne (by omega)]
        exact k1
      · rw [upd_ne (by omega)]
        exact k2 j i1 i2 i3
      · rw [upd_ne (by omega)]
        exact k3 j hj
      · rw [upd_ne (by omega)]
        exact k4 j hj
      · rw [upd_ne (by omega)]
        exact k5 j l hl hl2 hj
    · refine Or.inr ⟨g1, ?_⟩
      rw [upd_ne (by omega)]
      exact g2
  · unfold rV
    rw [up_gA, up_gd]
    exact h4 c hc
  · unfold rW
    rw [up_gA, up_gR, up_gM, up_gG]
    exact h5 c hc
  · rw [up_gd]
    rcases h6 c hc with g | ⟨x, x1, x2, x3⟩
    · exact Or.inl g
    · refine Or.inr ⟨x, x1, x2, ?_⟩
      rw [up_gA]
      exact x3
  · unfold rP
    rw [up_go, cp_up_eq]
    obtain ⟨p1, p2⟩ := h7
    refine ⟨fun i i1 i2 => ?_, p2⟩
    rw [upd_ne (by omega)]
    exact p1 i i1 i2
/-- the mark of a cell -/
theorem rel_mk (h : Rel N b t B C R) (hN : N ≤ 100) {i : Nat} (hi : i < N) {v : Int32} (hv : cp_by v) : Rel N b t B (cp_up C (pMk b) i v) (cp_up R t (100 + i) v) := by
  obtain ⟨h1, h2, h3, h4, h5, h6, h7⟩ := h
  refine ⟨fun c hc => ?_, fun c hc => ?_, fun c hc => ?_, fun c hc => ?_, fun c hc => ?_, fun c hc => ?_, ?_⟩
  · rw [up_mg, cp_up_eq, upd_ne (by omega)]
    exact h1 c hc
  · rw [up_mm, cp_up_eq]
    by_cases hci : c = i
    · subst hci
      rw [upd_eq, upd_eq]
      exact ⟨rfl, hv⟩
    · rw [upd_ne hci, upd_ne (by omega)]
      exact h2 c hc
  · unfold rL
    rw [up_mA, up_mR, up_mM, up_mG, cp_up_eq]
    rcases h3 c hc with ⟨g1, k1, k2, k3, k4, k5⟩ | ⟨g1, g2⟩
    · refine Or.inl ⟨g1, ?_, fun j i1 i2 i3 => ?_, fun j hj => ?_, fun j hj => ?_, fun j l hl hl2 hj => ?_⟩
      · rw [upd_ne (by omega)]
        exact k1
      · rw [upd_ne (by omega)]
        exact k2 j i1 i2 i3
      · rw [upd_ne (by omega)]
        exact k3 j hj
      · rw [upd_ne (by omega)]
        exact k4 j hj
      · rw [upd_ne (by omega)]
        exact k5 j l hl hl2 hj
    · refine Or.inr ⟨g1, ?_⟩
      rw [upd_ne (by omega)]
      exact g2
  · unfold rV
    rw [up_mA, up_md]
    exact h4 c hc
  · unfold rW
    rw [up_mA, up_mR, up_mM, up_mG]
    exact h5 c hc
  · rw [up_md]
    rcases h6 c hc with g | ⟨x, x1, x2, x3⟩
    · exact Or.inl g
    · refine Or.inr ⟨x, x1, x2, ?_⟩
      rw [up_mA]
      exact x3
  · unfold rP
    rw [up_mo, cp_up_eq]
    obtain ⟨p1, p2⟩ := h7
    refine ⟨fun i i1 i2 => ?_, p2⟩
    rw [upd_ne (by omega)]
    exact p1 i i1 i2
/-- a number of the pond -/
theorem rel_po (h : Rel N b t B C R) (hN : N ≤ 100) {j : Nat} (hj : 5 ≤ j ∧ j < 12) {v : Int32} (hv : (j = 6 → ∃ s, s ≤ 50 ∧ v = nI s) ∧ (j = 8 → ∃ u, u < N ∧ v = nI u)) : Rel N b t B (cp_up C b j v) (cp_up R t (1219 + j) v) := by
  obtain ⟨h1, h2, h3, h4, h5, h6, h7⟩ := h
  refine ⟨fun c hc => ?_, fun c hc => ?_, fun c hc => ?_, fun c hc => ?_, fun c hc => ?_, fun c hc => ?_, ?_⟩
  · rw [up_og, cp_up_eq, upd_ne (by omega)]
    exact h1 c hc
  · rw [up_om, cp_up_eq, upd_ne (by omega)]
    exact h2 c hc
  · unfold rL
    rw [up_oA, up_oR, up_oM, up_oG, cp_up_eq]
    rcases h3 c hc with ⟨g1, k1, k2, k3, k4, k5⟩ | ⟨g1, g2⟩
    · refine Or.inl ⟨g1, ?_, fun j i1 i2 i3 => ?_, fun j hj => ?_, fun j hj => ?_, fun j l hl hl2 hj => ?_⟩
      · rw [upd_ne (by omega)]
        exact k1
      · have := ro_lt j
        rw [upd_ne (by omega)]
        exact k2 j i1 i2 i3
      · rw [upd_ne (by omega)]
        exact k3 j hj
      · rw [upd_ne (by omega)]
        exact k4 j hj
      · rw [upd_ne (by omega)]
        exact k5 j l hl hl2 hj
    · refine Or.inr ⟨g1, ?_⟩
      rw [upd_ne (by omega)]
      exact g2
  · unfold rV
    rw [up_oA, up_od]
    exact h4 c hc
  · unfold rW
    rw [up_oA, up_oR, up_oM, up_oG]
    exact h5 c hc
  · rw [up_od]
    rcases h6 c hc with g | ⟨x, x1, x2, x3⟩
    · exact Or.inl g
    · refine Or.inr ⟨x, x1, x2, ?_⟩
      rw [up_oA]
      exact x3
  · unfold rP
    rw [up_oo, cp_up_eq]
    obtain ⟨p1, ⟨s, p2, p3⟩, ⟨u, p4, p5⟩⟩ := h7
    refine ⟨fun i i1 i2 => ?_, ?_, ?_⟩
    · by_cases hij : i = j
      · subst hij
        rw [upd_eq, upd_eq]
      · rw [upd_ne hij, upd_ne (by omega)]
        exact p1 i i1 i2
    · by_cases hj6 : j = 6
      · subst hj6
        rw [upd_eq]
        exact hv.1 rfl
      · exact ⟨s, p2, by rw [upd_ne (by omega)]; exact p3⟩
    · by_cases hj8 : j = 8
      · subst hj8
        rw [upd_eq]
        exact hv.2 rfl
      · exact ⟨u, p4, by rw [upd_ne (by omega)]; exact p5⟩
end WR
