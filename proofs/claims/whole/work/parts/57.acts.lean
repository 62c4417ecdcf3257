/-! What an animal sees, and what it does -/
theorem cp_up_same {D : cp_Dt} {k j : Nat} {v : Int32} (h : D k j = v) : cp_up D k j v = D := by
  funext i
  by_cases hi : i = k
  · subst hi
    rw [cp_up_eq]
    funext n
    by_cases hn : n = j
    · subst hn
      rw [upd_eq, h]
    · rw [upd_ne hn]
  · rw [cp_up_ne hi]
theorem nI_inj {a c : Nat} (ha : a < 2 ^ 31) (hc : c < 2 ^ 31) (h : nI a = nI c) : a = c := (nI_eq ha hc).mp h
/-- a step into an empty cell -/
theorem sm_mv {N B a c c' : Nat} {C0 R0 C R : cp_Dt} (H : Sm N B C0 R0 C R) (hN : N ≤ 100) (ha : a < 16) (hl : C (pA 3 a) 3 = 1) (hc : c < N) (hh : C (pA 3 a) 5 = nI c) (hc' : c' < N) (he : C (pDw 3) c' = -1) :
    Sm N B C0 R0 (cp_up (cp_up (cp_up C (pDw 3) c' (nI a)) (pDw 3) c (-1)) (pA 3 a) 5 (nI c')) (cp_up R 144 (200 + 64 * a) (nI c')) := by
  obtain ⟨⟨h1, h2, h3, h4, h5, h6, h7⟩, f1, f2, f3⟩ := id H
  have hd : C (pDw 3) c = nI a := by
    obtain ⟨-, ⟨c1, v1, v2, v3⟩, -⟩ := rel_liv H.1 ha hl
    have : c1 = c := nI_inj (by omega) (by omega) (v2.symm.trans hh)
    rw [← this]
    exact v3
  have hne : c' ≠ c := by
    intro e
    rw [e, hd] at he
    exact nI_m1 (by omega) he
  refine ⟨⟨fun d hd' => ?_, fun d hd' => ?_, fun x hx => ?_, fun x hx => ?_, fun x hx => ?_, fun d hd' => ?_, ?_⟩, ((f1.up (by unfold pDw; omega)).up (by unfold pDw; omega)).up (pl_lt ha).1, f2.up, fun x => ?_⟩
  · rw [up_Ag, up_dg, up_dg, cp_up_eq, upd_ne (by omega)]
    exact h1 d hd'
  · rw [up_Am, up_dm, up_dm, cp_up_eq, upd_ne (by omega)]
    exact h2 d hd'
  · unfold rL
    rw [up_AA, up_AR, up_AM, up_AG, up_dA, up_dA, up_dA, up_dA, up_dR, up_dR, up_dM, up_dM, up_dG, up_dG, cp_up_eq]
    by_cases hxa : x = a
    · subst hxa
      rw [if_pos rfl, upd_ne (show 3 ≠ 5 by omega)]
      rcases h3 x hx with ⟨g1, k1, k2, k3, k4, k5⟩ | ⟨g1, g2⟩
      · refine Or.inl ⟨g1, ?_, fun i i1 i2 i3 => ?_, fun i hi => ?_, fun i hi => ?_, fun i l hl hl2 hi => ?_⟩
        · rw [upd_eq, upd_eq]
        · have := ro_lt i
          rw [upd_ne i3, upd_ne (by omega)]
          exact k2 i i1 i2 i3
        · rw [upd_ne (by omega)]
          exact k3 i hi
        · rw [upd_ne (by omega)]
          exact k4 i hi
        · rw [upd_ne (by omega)] at hl
          rw [upd_ne (by omega)]
          exact k5 i l hl hl2 hi
      · rw [g1] at hl
        exact absurd hl (by decide)
    · rw [if_neg hxa]
      rcases h3 x hx with ⟨g1, k1, k2, k3, k4, k5⟩ | ⟨g1, g2⟩
      · refine Or.inl ⟨g1, ?_, fun i i1 i2 i3 => ?_, fun i hi => ?_, fun i hi => ?_, fun i l hl hl2 hi => ?_⟩
        · rw [upd_ne (by omega)]
          exact k1
        · have := ro_lt i
          rw [upd_ne (by omega)]
          exact k2 i i1 i2 i3
        · rw [upd_ne (by omega)]
          exact k3 i hi
        · rw [upd_ne (by omega)]
          exact k4 i hi
        · rw [upd_ne (by omega)]
          exact k5 i l hl hl2 hi
      · refine Or.inr ⟨g1, ?_⟩
        rw [upd_ne (by omega)]
        exact g2
  · unfold rV
    rw [up_AA, up_Ad, up_dA, up_dA, up_dA, up_dA, up_dd, up_dd]
    by_cases hxa : x = a
    · subst hxa
      rw [if_pos rfl]
      intro _
      obtain ⟨-, v2, v3, v4, v5, v6⟩ := h4 x hx hl
      refine ⟨⟨c', hc', upd_eq, ?_⟩, ?_, ?_, ?_, ?_, ?_⟩
      · rw [upd_ne hne, upd_eq]
      · rw [upd_ne (by omega)]; exact v2
      · rw [upd_ne (by omega)]; exact v3
      · rw [upd_ne (by omega)]; exact v4
      · rw [upd_ne (by omega)]; exact v5
      · rw [upd_ne (by omega)]; exact v6
    · rw [if_neg hxa]
      intro hlx
      obtain ⟨⟨cx, x1, x2, x3⟩, v2⟩ := h4 x hx hlx
      refine ⟨⟨cx, x1, x2, ?_⟩, v2⟩
      rw [upd_ne, upd_ne]
      · exact x3
      · intro e
        rw [e, he] at x3
        exact nI_m1 (by omega) x3.symm
      · intro e
        rw [e, hd] at x3
        exact hxa (nI_inj (by omega) (by omega) x3).symm
  · unfold rW
    rw [up_AA, up_AR, up_AM, up_AG, up_dA, up_dA, up_dA, up_dA, up_dR, up_dR, up_dM, up_dM, up_dG, up_dG]
    obtain ⟨w1, w2⟩ := h5 x hx
    refine ⟨?_, w2⟩
    by_cases hxa : x = a
    · subst hxa
      rw [if_pos rfl, upd_ne (by omega)]
      exact w1
    · rw [if_neg hxa]
      exact w1
  · rw [up_Ad, up_dd, up_dd]
    by_cases e1 : d = c
    · subst e1
      exact Or.inl upd_eq
    · rw [upd_ne e1]
      by_cases e2 : d = c'
      · subst e2
        refine Or.inr ⟨a, ha, upd_eq, ?_⟩
        rw [up_AA, if_pos rfl, upd_ne (by omega), upd_eq, up_dA, up_dA]
        exact ⟨hl, rfl⟩
      · rw [upd_ne e2]
        rcases h6 d hd' with g | ⟨x, x1, x2, x3, x4⟩
        · exact Or.inl g
        · refine Or.inr ⟨x, x1, x2, ?_⟩
          have hxa : x ≠ a := by
            intro e
            rw [e, hh] at x4
            exact e1 (nI_inj (by omega) (by omega) x4).symm
          rw [up_AA, if_neg hxa, up_dA, up_dA]
          exact ⟨x3, x4⟩
  · unfold rP
    rw [up_Ao, up_do, up_do, cp_up_eq]
    obtain ⟨p1, p2⟩ := h7
    refine ⟨fun i i1 i2 => ?_, p2⟩
    rw [upd_ne (by omega)]
    exact p1 i i1 i2
  · rw [up_AA, up_dA, up_dA, up_dA, up_dA]
    by_cases hxa : x = a
    · subst hxa
      rw [if_pos rfl, upd_ne (by omega)]
      exact f3 x
    · rw [if_neg hxa]
      exact f3 x
theorem q0 : nI 0 = 0 := rfl
theorem q1 : nI 1 = 1 := rfl
theorem q2 : nI 2 = 2 := rfl
theorem q10 : ¬ nI 1 = 0 := by decide
theorem q20 : ¬ nI 2 = 0 := by decide
theorem q21 : ¬ nI 2 = 1 := by decide
theorem q30 : ¬ nI 3 = 0 := by decide
theorem q31 : ¬ nI 3 = 1 := by decide
theorem q32 : ¬ nI 3 = 2 := by decide
section AC
variable {L : cp_Lay} {w h B q a : Nat} {C0 R0 C R : cp_Dt}
theorem mi_po (O : cp_ok L w h) : cp_gR L 141 3 0 = some 3 := cp_gR_of O.2.2.2.2.2.2.1 rfl
theorem mi_fl (O : cp_ok L w h) : cp_fl L 141 3 = some [some (some 3)] := O.2.2.2.2.2.2.1
theorem br_po (O : cp_ok L w h) : cp_gR L 142 2 0 = some 3 := cp_gR_of O.2.2.2.2.2.2.2.1 rfl
theorem br_fl (O : cp_ok L w h) : cp_fl L 142 2 = some [some (some 3)] := O.2.2.2.2.2.2.2.1
theorem k100 (c : Nat) : (100 : Int32) + nI c = nI (100 + c) := nI_add 100 c
theorem sim_looks {N k : Nat} (hNe : N = w * h) (O : cp_ok L w h) (P : cp_okP L N 3) (hq : 2000 ≤ q) (S : rSh w h C R) (H : Rel N 3 144 B C R) (ha : a < 16) (hl : C (pA 3 a) 3 = 1) (hk : k < 4) : ∃ z, fn_X3_seenAhead L q 141 (pA 3 a) (nI k) C = some (z, C) ∧ fn_X6_looks L q 143 (nI a) (nI k) R = some (z, R) := by
  subst hNe
  have hN := N_le O.1
  obtain ⟨c', c1, c2, c3⟩ := sim_ahead (q := q) O P S H ha hl
  have hg := H.1 c' c1
  have hm := H.2.1 c' c1
  unfold fn_X3_seenAhead fn_X6_looks
  simp (disch := omega) only [mi_po O, Option.bind_some, po_fl P, c2, po_dw P, po_dwI P, po_gr P, po_grI P, po_mk P, po_mkI P, po_ar P, re_fl O, c3, ref_inCell O hN hq H c1, re_now O, k100, re_I O]
  match k, hk with
  | 0, _ =>
    rw [if_pos (show nI 0 = 0 from rfl), if_pos (show nI 0 = 0 from rfl), hg.1]
    exact ⟨_, rfl, rfl⟩
  | 1, _ =>
    rw [if_neg q10, if_pos q1, if_neg q10, if_pos q1]
    rcases dw_or H c1 with g | ⟨x, x1, x2, -⟩
    · rw [g, if_pos rfl, if_neg (by decide)]
      exact ⟨_, rfl, rfl⟩
    · rw [x2, if_neg (nI_m1 (by omega)), if_pos (nI_pos' (by omega))]
      exact ⟨_, rfl, rfl⟩
  | 2, _ =>
    rw [if_neg q20, if_neg q21, if_pos q2, if_neg q20, if_neg q21, if_pos q2, hm.1]
    exact ⟨_, rfl, rfl⟩
  | 3, _ =>
    rw [if_neg q30, if_neg q31, if_neg q32, if_neg q30, if_neg q31, if_neg q32]
    rcases dw_or H c1 with g | ⟨x, x1, x2, x3, -⟩
    · rw [g, if_pos rfl, if_neg (by decide)]
      exact ⟨_, rfl, rfl⟩
    · rw [x2, if_neg (nI_m1 (by omega)), if_pos (nI_pos' (by omega))]
      obtain ⟨⟨-, k2, -⟩, -⟩ := rel_liv H x1 x3
      have r1 := k2 6 (by omega) (by omega) (by omega)
      simp (disch := omega) only [po_an P x1, Option.bind_some, an_gI P x1 6 (by decide), fn_X6_at, at_eq, nk_1, re_I O]
      exact ⟨_, rfl, by rw [r1]; rfl⟩
theorem sim_feels {N k : Nat} (O : cp_ok L w h) (P : cp_okP L N 3) (hN : N ≤ 100) (hB : B < 2 ^ 30) (H : Rel N 3 144 B C R) (ha : a < 16) (hl : C (pA 3 a) 3 = 1) (hk : k < 4) : ∃ z, fn_X3_seenInside L q 141 (pA 3 a) (nI k) C = some (z, C) ∧ fn_X6_feels L q 143 (nI a) (nI k) R = some (z, R) := by
  obtain ⟨⟨k1, k2, -⟩, ⟨c, c1, c2, c3⟩, ⟨d, d1, d2⟩, ⟨e, e1, e2⟩, -⟩ := rel_liv H ha hl
  have r0 : R 144 (200 + 64 * a) = nI c := k1.trans c2
  have r1 : R 144 (200 + 64 * a + 1) = nI d := (k2 6 (by omega) (by omega) (by omega)).symm.trans d2
  have r2 : R 144 (200 + 64 * a + 2) = nI e := (k2 7 (by omega) (by omega) (by omega)).symm.trans e2
  have r3 : R 144 (200 + 64 * a + 3) = C (pA 3 a) 8 := (k2 8 (by omega) (by omega) (by omega)).symm
  unfold fn_X3_seenInside fn_X6_feels
  simp (disch := omega) only [mi_po O, Option.bind_some, po_gr P, an_gI P ha 5 (by decide), an_gI P ha 6 (by decide), an_gI P ha 7 (by decide), an_gI P ha 8 (by decide), re_now O, fn_X6_at, at_eq, nk_1, nk_2, nk_3, re_I O, r0, r1, r2, r3, c2, d2, e2, po_grI P]
  match k, hk with
  | 0, _ =>
    rw [if_pos (show nI 0 = 0 from rfl), if_pos (show nI 0 = 0 from rfl), show (127 : Int32) = nI 127 from rfl, cp_mn_nI (by omega) (by omega), least_nI (by omega) (by omega)]
    exact ⟨_, rfl, by rw [Nat.min_comm]; rfl⟩
  | 1, _ =>
    rw [if_neg q10, if_pos q1, if_neg q10, if_pos q1]
    exact ⟨_, rfl, rfl⟩
  | 2, _ =>
    rw [if_neg q20, if_neg q21, if_pos q2, if_neg q20, if_neg q21, if_pos q2]
    exact ⟨_, rfl, rfl⟩
  | 3, _ =>
    rw [if_neg q30, if_neg q31, if_neg q32, if_neg q30, if_neg q31, if_neg q32, (H.1 c c1).1]
    exact ⟨_, rfl, rfl⟩
end AC
