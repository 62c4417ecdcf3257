/-! A code grows; a byte of it changes -/
theorem rel_grow {N B a n : Nat} {C R : cp_Dt} {v : Int32} (H : Rel N 3 144 B C R) (hN : N ≤ 100) (ha : a < 16) (hn : n < 20) (h9 : C (pA 3 a) 9 = nI n) (hv : cp_by v) :
    Rel N 3 144 B (cp_up (cp_up C (pG 3 a) n v) (pA 3 a) 9 (nI (n + 1))) (cp_up (cp_up R 144 (200 + 64 * a + 34 + n) v) 144 (200 + 64 * a + 5) (nI (n + 1))) := by
  obtain ⟨h1, h2, h3, h4, h5, h6, h7⟩ := H
  refine ⟨fun c hc => ?_, fun c hc => ?_, fun c hc => ?_, fun c hc => ?_, fun c hc => ?_, fun c hc => ?_, ?_⟩
  · rw [up_Ag, up_Gg, cp_up_eq, upd_ne (by omega), cp_up_eq, upd_ne (by omega)]
    exact h1 c hc
  · rw [up_Am, up_Gm, cp_up_eq, upd_ne (by omega), cp_up_eq, upd_ne (by omega)]
    exact h2 c hc
  · unfold rL
    rw [up_AA, up_AR, up_AM, up_AG, up_GA, up_GA, up_GR, up_GM, up_GG, cp_up_eq, cp_up_eq]
    by_cases hca : c = a
    · subst hca
      rw [if_pos rfl, if_pos rfl, upd_ne (show 3 ≠ 9 by omega)]
      rcases h3 c hc with ⟨g1, k1, k2, k3, k4, k5⟩ | ⟨g1, g2⟩
      · refine Or.inl ⟨g1, ?_, fun i i1 i2 i3 => ?_, fun i hi => ?_, fun i hi => ?_, fun i l hl hl2 hi => ?_⟩
        · rw [upd_ne (by omega), upd_ne (by omega), upd_ne (by omega)]
          exact k1
        · by_cases hij : i = 9
          · subst hij
            rw [upd_eq, show ro 9 = 5 from rfl, upd_eq]
          · have := ro_lt i
            rw [upd_ne hij, upd_ne (fun e => hij (ro_inj ⟨i1, i2, i3⟩ (j := 9) (by omega) (show ro i = 5 by omega))), upd_ne (by omega)]
            exact k2 i i1 i2 i3
        · rw [upd_ne (by omega), upd_ne (by omega)]
          exact k3 i hi
        · rw [upd_ne (by omega), upd_ne (by omega)]
          exact k4 i hi
        · rw [upd_eq] at hl
          have : n + 1 = l := nI_inj (by omega) (by omega) hl
          rw [upd_ne (k := 200 + 64 * c + 5) (j := 200 + 64 * c + 34 + i) (by omega)]
          by_cases hin : i = n
          · subst hin
            rw [upd_eq, upd_eq]
          · rw [upd_ne hin, upd_ne (by omega)]
            exact k5 i n h9 (by omega) (by omega)
      · refine Or.inr ⟨g1, ?_⟩
        rw [upd_ne (by omega), upd_ne (by omega)]
        exact g2
    · rw [if_neg hca, if_neg hca]
      rcases h3 c hc with ⟨g1, k1, k2, k3, k4, k5⟩ | ⟨g1, g2⟩
      · refine Or.inl ⟨g1, ?_, fun i i1 i2 i3 => ?_, fun i hi => ?_, fun i hi => ?_, fun i l hl hl2 hi => ?_⟩
        · rw [upd_ne (by omega), upd_ne (by omega)]
          exact k1
        · have := ro_lt i
          rw [upd_ne (by omega), upd_ne (by omega)]
          exact k2 i i1 i2 i3
        · rw [upd_ne (by omega), upd_ne (by omega)]
          exact k3 i hi
        · rw [upd_ne (by omega), upd_ne (by omega)]
          exact k4 i hi
        · rw [upd_ne (by omega), upd_ne (by omega)]
          exact k5 i l hl hl2 hi
      · refine Or.inr ⟨g1, ?_⟩
        rw [upd_ne (by omega), upd_ne (by omega)]
        exact g2
  · unfold rV
    rw [up_AA, up_Ad, up_GA, up_GA, up_Gd]
    by_cases hca : c = a
    · subst hca
      rw [if_pos rfl]
      intro hl
      rw [upd_ne (show 3 ≠ 9 by omega)] at hl
      obtain ⟨⟨c1, v1, v2, v3⟩, ⟨d, d1, d2⟩, ⟨e, e1, e2⟩, ⟨p, p1, p2⟩, -, ⟨g, g1, g2⟩⟩ := h4 c hc hl
      exact ⟨⟨c1, v1, by rw [upd_ne (by omega)]; exact v2, v3⟩, ⟨d, d1, by rw [upd_ne (by omega)]; exact d2⟩, ⟨e, e1, by rw [upd_ne (by omega)]; exact e2⟩, ⟨p, p1, by rw [upd_ne (by omega)]; exact p2⟩, ⟨n + 1, by omega, upd_eq⟩, ⟨g, g1, by rw [upd_ne (by omega)]; exact g2⟩⟩
    · rw [if_neg hca]
      exact h4 c hc
  · unfold rW
    rw [up_AA, up_AR, up_AM, up_AG, up_GA, up_GA, up_GR, up_GM, up_GG]
    obtain ⟨w1, w2, w3, w4⟩ := h5 c hc
    by_cases hca : c = a
    · subst hca
      rw [if_pos rfl, if_pos rfl, upd_ne (show 4 ≠ 9 by omega)]
      refine ⟨w1, w2, w3, fun i hi => ?_⟩
      by_cases hin : i = n
      · subst hin
        rw [upd_eq]
        exact hv
      · rw [upd_ne hin]
        exact w4 i hi
    · rw [if_neg hca, if_neg hca]
      exact ⟨w1, w2, w3, w4⟩
  · rw [up_Ad, up_Gd]
    rcases h6 c hc with g | ⟨x, x1, x2, x3, x4⟩
    · exact Or.inl g
    · refine Or.inr ⟨x, x1, x2, ?_⟩
      rw [up_AA, up_GA, up_GA]
      by_cases hxa : x = a
      · subst hxa
        rw [if_pos rfl, upd_ne (by omega), upd_ne (by omega)]
        exact ⟨x3, x4⟩
      · rw [if_neg hxa]
        exact ⟨x3, x4⟩
  · unfold rP
    rw [up_Ao, up_Go, cp_up_eq, cp_up_eq]
    obtain ⟨p1, p2⟩ := h7
    refine ⟨fun i i1 i2 => ?_, p2⟩
    rw [upd_ne (by omega), upd_ne (by omega)]
    exact p1 i i1 i2
theorem rel_gene {N B a n : Nat} {C R : cp_Dt} {v : Int32} (H : Rel N 3 144 B C R) (hN : N ≤ 100) (ha : a < 16) (hn : n < 20) (hv : cp_by v) :
    Rel N 3 144 B (cp_up C (pG 3 a) n v) (cp_up R 144 (200 + 64 * a + 34 + n) v) := by
  obtain ⟨h1, h2, h3, h4, h5, h6, h7⟩ := H
  refine ⟨fun c hc => ?_, fun c hc => ?_, fun c hc => ?_, fun c hc => ?_, fun c hc => ?_, fun c hc => ?_, ?_⟩
  · rw [up_Gg, cp_up_eq, upd_ne (by omega)]
    exact h1 c hc
  · rw [up_Gm, cp_up_eq, upd_ne (by omega)]
    exact h2 c hc
  · unfold rL
    rw [up_GA, up_GR, up_GM, up_GG, cp_up_eq]
    rcases h3 c hc with ⟨g1, k1, k2, k3, k4, k5⟩ | ⟨g1, g2⟩
    · refine Or.inl ⟨g1, ?_, fun i i1 i2 i3 => ?_, fun i hi => ?_, fun i hi => ?_, fun i l hl hl2 hi => ?_⟩
      · rw [upd_ne (by omega)]
        exact k1
      · have := ro_lt i
        rw [upd_ne (by omega)]
        exact k2 i i1 i2 i3
      · rw [upd_ne (by omega)]
        exact k3 i hi
      · rw [upd_ne (by omega)]
        exact k4 i hi
      · by_cases hca : c = a
        · subst hca
          rw [if_pos rfl]
          by_cases hin : i = n
          · subst hin
            rw [upd_eq, upd_eq]
          · rw [upd_ne hin, upd_ne (by omega)]
            exact k5 i l hl hl2 hi
        · rw [if_neg hca, upd_ne (by omega)]
          exact k5 i l hl hl2 hi
    · refine Or.inr ⟨g1, ?_⟩
      rw [upd_ne (by omega)]
      exact g2
  · unfold rV
    rw [up_GA, up_Gd]
    exact h4 c hc
  · unfold rW
    rw [up_GA, up_GR, up_GM, up_GG]
    obtain ⟨w1, w2, w3, w4⟩ := h5 c hc
    refine ⟨w1, w2, w3, fun i hi => ?_⟩
    by_cases hca : c = a
    · subst hca
      rw [if_pos rfl]
      by_cases hin : i = n
      · subst hin
        rw [upd_eq]
        exact hv
      · rw [upd_ne hin]
        exact w4 i hi
    · rw [if_neg hca]
      exact w4 i hi
  · rw [up_Gd]
    rcases h6 c hc with g | ⟨x, x1, x2, x3⟩
    · exact Or.inl g
    · refine Or.inr ⟨x, x1, x2, ?_⟩
      rw [up_GA]
      exact x3
  · unfold rP
    rw [up_Go, cp_up_eq]
    obtain ⟨p1, p2⟩ := h7
    refine ⟨fun i i1 i2 => ?_, p2⟩
    rw [upd_ne (by omega)]
    exact p1 i i1 i2
section GR
variable {L : cp_Lay} {w h B q a N : Nat} {C0 R0 C R : cp_Dt}
theorem sm_grow {n : Nat} {v : Int32} (H : Sm N B C0 R0 C R) (hN : N ≤ 100) (ha : a < 16) (hn : n < 20) (h9 : C (pA 3 a) 9 = nI n) (hv : cp_by v) :
    Sm N B C0 R0 (cp_up (cp_up C (pG 3 a) n v) (pA 3 a) 9 (nI (n + 1))) (cp_up (cp_up R 144 (200 + 64 * a + 34 + n) v) 144 (200 + 64 * a + 5) (nI (n + 1))) := by
  refine ⟨rel_grow H.1 hN ha hn h9 hv, (H.2.1.up (pl_lt ha).2.2.2).up (pl_lt ha).1, (H.2.2.1.up).up, fun c => ?_⟩
  rw [up_AA, up_GA, up_GA]
  by_cases hca : c = a
  · subst hca
    rw [if_pos rfl, upd_ne (by omega)]
    exact H.2.2.2 c
  · rw [if_neg hca]
    exact H.2.2.2 c
theorem sm_gene {n : Nat} {v : Int32} (H : Sm N B C0 R0 C R) (hN : N ≤ 100) (ha : a < 16) (hn : n < 20) (hv : cp_by v) : Sm N B C0 R0 (cp_up C (pG 3 a) n v) (cp_up R 144 (200 + 64 * a + 34 + n) v) :=
  ⟨rel_gene H.1 hN ha hn hv, H.2.1.up (pl_lt ha).2.2.2, H.2.2.1.up, fun c => by rw [up_GA]; exact H.2.2.2 c⟩
theorem cl_grow {n : Nat} {v : Int32} (P : cp_okP L N 3) (ha : a < 16) (hn : n < 20) (h9 : C (pA 3 a) 9 = nI n) (hv : cp_by v) : fn_X1_grow L q (pA 3 a) v C = some (cp_up (cp_up C (pG 3 a) n v) (pA 3 a) 9 (nI (n + 1))) := by
  unfold fn_X1_grow
  rw [bind_of (an_gI P ha 9 (by decide)), h9, if_neg (show ¬ (20 : Int32) ≤ nI n from nI_ge (b := 20) hn (by decide)), bind_of (an_ge P ha), bind_of (an_gI P ha 9 (by decide)), h9, bind_of (an_geS P ha hn), hv, bind_of (an_gI P ha 9 (by decide)), up_GA, h9, nI_1, bind_of (an_pI P ha 9 _ (by decide))]
theorem cp_up_up {D : cp_Dt} {k i : Nat} {u v : Int32} : cp_up (cp_up D k i u) k i v = cp_up D k i v := by
  funext x
  by_cases hx : x = k
  · subst hx
    rw [cp_up_eq, cp_up_eq, cp_up_eq]
    funext n
    by_cases h1 : n = i
    · subst h1
      rw [upd_eq, upd_eq]
    · rw [upd_ne h1, upd_ne h1, upd_ne h1]
  · rw [cp_up_ne hx, cp_up_ne hx, cp_up_ne hx]
theorem sim_next' (O : cp_ok L w h) (P : cp_okP L N 3) (hN : N ≤ 100) (H : Sm N B C0 R0 C R) : ∃ (u : Nat) (C' R' : cp_Dt), u < 65536 ∧ fn_X4_nextNumber L q 3 C = some (nI u, C') ∧ fn_X6_next L q 143 R = some (nI u, R') ∧ Sm N B C0 R0 C' R' ∧ (∀ k, k ≠ 3 → C' k = C k) ∧ (∀ i, i ≠ 1226 → R' 144 i = R 144 i) := by
  have p7 : R 144 1226 = C 3 7 := (H.1.2.2.2.2.2.2.1 7 (by omega) (by omega)).symm
  have hu := pk_ushr (C 3 7) 16 16 (by decide)
  have hlt := (C 3 7).toBitVec.isLt
  refine ⟨(C 3 7).toBitVec.toNat / 2 ^ 16, cp_up C 3 7 ((C 3 7 * 134775813) + 1), cp_up R 144 1226 ((C 3 7 * 134775813) + 1), by omega, ?_, ?_, ?_, fun k hk => cp_up_ne hk, fun i hi => by rw [cp_up_eq, upd_ne hi]⟩
  · unfold fn_X4_nextNumber
    simp only [po_gI P 7 (by decide), Option.bind_some, po_pI P 7 _ (by decide)]
    rw [iN_of ((C 3 7).toUInt32 >>> ((16 : Int32).toUInt32 &&& Int32.toUInt32 31)).toInt32, hu]
  · unfold fn_X6_next
    simp (disch := omega) only [re_now O, Option.bind_some, kk_1226, re_I O, re_S O, p7]
    rw [iN_of ((C 3 7).toUInt32 >>> ((16 : Int32).toUInt32 &&& Int32.toUInt32 31)).toInt32, hu]
  · exact sm_po H hN (j := 7) (by omega) ⟨by omega, by omega⟩
end GR
