/-! The whole object beside the whole reference -/
theorem rel_congr {N b t B : Nat} {C R C' R' : cp_Dt} (H : Rel N b t B C R) (hC : ∀ k, b ≤ k → k < b + 69 → C' k = C k) (hR : R' t = R t) : Rel N b t B C' R' := by
  have e0 : C' b = C b := hC _ (by omega) (by omega)
  have e1 : C' (pGr b) = C (pGr b) := hC _ (by unfold pGr; omega) (by unfold pGr; omega)
  have e2 : C' (pMk b) = C (pMk b) := hC _ (by unfold pMk; omega) (by unfold pMk; omega)
  have e3 : C' (pDw b) = C (pDw b) := hC _ (by unfold pDw; omega) (by unfold pDw; omega)
  have eA : ∀ a, a < 16 → C' (pA b a) = C (pA b a) := fun a ha => hC _ (by unfold pA; omega) (by unfold pA; omega)
  have eR : ∀ a, a < 16 → C' (pR b a) = C (pR b a) := fun a ha => hC _ (by unfold pR; omega) (by unfold pR; omega)
  have eM : ∀ a, a < 16 → C' (pM b a) = C (pM b a) := fun a ha => hC _ (by unfold pM; omega) (by unfold pM; omega)
  have eG : ∀ a, a < 16 → C' (pG b a) = C (pG b a) := fun a ha => hC _ (by unfold pG; omega) (by unfold pG; omega)
  obtain ⟨h1, h2, h3, h4, h5, h6, h7⟩ := H
  refine ⟨fun c hc => ?_, fun c hc => ?_, fun c hc => ?_, fun c hc => ?_, fun c hc => ?_, fun c hc => ?_, ?_⟩
  · rw [e1, hR]
    exact h1 c hc
  · rw [e2, hR]
    exact h2 c hc
  · unfold rL
    rw [eA c hc, eR c hc, eM c hc, eG c hc, hR]
    exact h3 c hc
  · unfold rV
    rw [eA c hc, e3]
    exact h4 c hc
  · unfold rW
    rw [eA c hc, eR c hc, eM c hc, eG c hc]
    exact h5 c hc
  · rw [e3]
    rcases h6 c hc with g | ⟨x, x1, x2, x3⟩
    · exact Or.inl g
    · exact Or.inr ⟨x, x1, x2, by rw [eA x x1]; exact x3⟩
  · unfold rP
    rw [e0, hR]
    exact h7
def Top (w h B : Nat) (C R : cp_Dt) : Prop := rSh w h C R ∧ Rel (w * h) 3 144 B C R ∧ C 0 5 = R 143 4 ∧ (C 0 5 = 0 ∨ (C 0 5 = 1 ∧ Rel (w * h) 72 145 B C R))
section TP
variable {L : cp_Lay} {w h B B' q N : Nat} {C R C' R' D : cp_Dt}
theorem Top.congr (T : Top w h B C R) (hC : ∀ k, k < 143 → C' k = C k) (hR : ∀ k, 143 ≤ k → k < 146 → R' k = R k) : Top w h B C' R' := by
  obtain ⟨⟨⟨s1, s2, s3⟩, s4, s5, s6⟩, H, h5, hk⟩ := T
  refine ⟨⟨⟨?_, ?_, ?_⟩, fun c d hc hd => ?_, ?_, ?_⟩, rel_congr H (fun k _ _ => hC k (by omega)) (hR _ (by omega) (by omega)), ?_, ?_⟩
  · rw [hC 1 (by omega)]; exact s1
  · rw [hC 1 (by omega)]; exact s2
  · rw [hC 1 (by omega)]; exact s3
  · rw [hC 2 (by omega)]; exact s4 c d hc hd
  · rw [hR 143 (by omega) (by omega)]; exact s5
  · rw [hR 143 (by omega) (by omega)]; exact s6
  · rw [hC 0 (by omega), hR 143 (by omega) (by omega)]; exact h5
  · rw [hC 0 (by omega)]
    rcases hk with hk | ⟨hk, H2⟩
    · exact Or.inl hk
    · exact Or.inr ⟨hk, rel_congr H2 (fun k _ _ => hC k (by omega)) (hR _ (by omega) (by omega))⟩
theorem Top.more (T : Top w h B C R) (hB : B ≤ B') : Top w h B' C R := by
  obtain ⟨s, H, h5, hk⟩ := T
  refine ⟨s, H.more hB, h5, ?_⟩
  rcases hk with hk | ⟨hk, H2⟩
  · exact Or.inl hk
  · exact Or.inr ⟨hk, H2.more hB⟩
theorem Top.th (T : Top w h B C R) (v : Int32) : Top w h B C (cp_up R 143 0 v) := by
  obtain ⟨⟨s1, s4, s5, s6⟩, H, h5, hk⟩ := T
  refine ⟨⟨s1, s4, ?_, ?_⟩, rel_congr H (fun k _ _ => rfl) (cp_up_ne (by omega)), ?_, ?_⟩
  · rw [cp_up_eq, upd_ne (by omega)]; exact s5
  · rw [cp_up_eq, upd_ne (by omega)]; exact s6
  · rw [cp_up_eq, upd_ne (by omega)]; exact h5
  · rcases hk with hk | ⟨hk, H2⟩
    · exact Or.inl hk
    · exact Or.inr ⟨hk, rel_congr H2 (fun k _ _ => rfl) (cp_up_ne (by omega))⟩
theorem Top.sx (T : Top w h B C R) (hB : B ≤ B') (H : Sx (w * h) B' C R C' R') : Top w h B' C' R' := by
  obtain ⟨s, -, h5, hk⟩ := T
  refine ⟨s.mv H.2.1 H.2.2, H.1, ?_, ?_⟩
  · rw [H.2.1 0 (by omega), H.2.2 143 (by omega)]; exact h5
  · rw [H.2.1 0 (by omega)]
    rcases hk with hk | ⟨hk, H2⟩
    · exact Or.inl hk
    · exact Or.inr ⟨hk, rel_congr (H2.more hB) (fun k _ _ => H.2.1 k (by omega)) (H.2.2 145 (by omega))⟩
/-- what a call must give on both sides: an answer, what the reference calls thrown, and the frame -/
def Both (w h B : Nat) (C R : cp_Dt) (τ z : Int32) (C' R' : cp_Dt) : Prop := Top w h B C' R' ∧ R' 143 0 = τ ∧ (∀ k, 143 ≤ k → C' k = C k) ∧ (∀ k, k < 143 ∨ 146 ≤ k → R' k = R k) ∧ z = z
theorem Both.of {τ z : Int32} (T : Top w h B C R) (hB : B ≤ B') (H : Sx (w * h) B' C (cp_up R 143 0 τ) C' R') : Both w h B' C R τ z C' R' := by
  refine ⟨(T.th τ).sx hB H, ?_, fun k hk => H.2.1 k (by omega), fun k hk => ?_, rfl⟩
  · rw [H.2.2 143 (by omega), cp_up_eq, upd_eq]
  · rw [H.2.2 k (by omega), cp_up_ne (by omega)]
theorem Both.same {τ z : Int32} (T : Top w h B C R) : Both w h B C R τ z C (cp_up R 143 0 τ) :=
  Both.of T (Nat.le_refl _) ⟨(T.th τ).2.1, Fr.rf, FrR.rf⟩
/-- one world for both -/
theorem comb {f g : cp_Dt → Option (Int32 × cp_Dt)} (hp : ∀ C R, Top w h B C R → ∃ z C' R', f C = some (z, C') ∧ g R = some (z, R') ∧ Both w h B' C R 0 z C' R') (T : Top w h B D D) :
    ∃ z C', f D = some (z, C') ∧ (∀ k, 143 ≤ k → C' k = D k) ∧ ∀ D1, (∀ k, k < 143 → D1 k = C' k) → (∀ k, 143 ≤ k → k < 146 → D1 k = D k) → ∃ D2, g D1 = some (z, D2) ∧ Top w h B' D2 D2 ∧ D2 143 0 = 0 ∧ ∀ k, 146 ≤ k → D2 k = D1 k := by
  obtain ⟨z, C', R', h1, -, h3⟩ := hp D D T
  refine ⟨z, C', h1, h3.2.2.1, fun D1 a1 a2 => ?_⟩
  obtain ⟨z2, C2, R2, g1, g2, g3, g4, -, g6, -⟩ := hp D D1 (T.congr (fun _ _ => rfl) a2)
  rw [h1] at g1
  cases g1
  exact ⟨R2, g2, g3.congr (fun k hk => (g6 k (Or.inl hk)).trans (a1 k hk)) (fun _ _ _ => rfl), g4, fun k hk => g6 k (Or.inr hk)⟩
end TP
section TQ
variable {L : cp_Lay} {w h B B' q N : Nat} {C R C' R' D : cp_Dt}
theorem le_of_nlt {x : Int32} {n : Nat} (hn : n < 2 ^ 31) (h0 : ¬ x < 0) (h1 : x ≤ nI n) : ∃ j, j ≤ n ∧ x = nI j := nI_of2 (nI_toInt hn) h0 h1
theorem sim_set (O : cp_ok L w h) (T : Top w h B C R) (x1 x2 : Int32) : ∃ z C' R', fn_X0_set L q 0 x1 x2 C = some (z, C') ∧ fn_X6_set L q 143 x1 x2 R = some (z, R') ∧ Both w h B C R 0 z C' R' := by
  have hN := N_le O.1
  have P : cp_okP L (w * h) 3 := O.2.2.2.2.1
  unfold fn_X0_set fn_X6_set
  rw [bind_of (re_pI O 0 _ (by omega))]
  by_cases h0 : x1 < 0
  · rw [if_pos h0, if_pos h0]
    exact ⟨_, _, _, rfl, rfl, Both.same T⟩
  · rw [if_neg h0, if_neg h0]
    by_cases h1 : x1 ≤ 50
    · obtain ⟨j, j1, j2⟩ := le_of_nlt (n := 50) (by omega) h0 h1
      rw [if_pos h1, if_pos h1, bind_of (top_now O), bind_of (po_pI P 6 _ (by decide)), bind_of (top_now O), bind_of (po_pI P 7 _ (by decide)), bind_of (re_now O), kk_1225, bind_of (re_S O (by omega)), bind_of (re_now O), kk_1226, bind_of (re_S O (by omega))]
      refine ⟨_, _, _, rfl, rfl, Both.of T (Nat.le_refl _) ?_⟩
      exact (sm_po (sm_po (Sm.rf (T.th 0).2.1) hN (j := 6) (by omega) ⟨fun _ => ⟨j, j1, j2⟩, by omega⟩) hN (j := 7) (by omega) ⟨by omega, by omega⟩).x
    · rw [if_neg h1, if_neg h1]
      exact ⟨_, _, _, rfl, rfl, Both.same T⟩
theorem sim_store (O : cp_ok L w h) (T : Top w h B C R) (x1 : Int32) : ∃ z C' R', fn_X0_store L q 0 x1 C = some (z, C') ∧ fn_X6_store L q 143 x1 R = some (z, R') ∧ Both w h B C R 0 z C' R' := by
  have hN := N_le O.1
  have P : cp_okP L (w * h) 3 := O.2.2.2.2.1
  have p5 : R 144 1224 = C 3 5 := (T.2.1.2.2.2.2.2.2.1 5 (by omega) (by omega)).symm
  unfold fn_X0_store fn_X6_store
  rw [bind_of (re_pI O 0 _ (by omega))]
  by_cases h0 : x1 < 0
  · rw [if_pos h0, if_pos h0]
    exact ⟨_, _, _, rfl, rfl, Both.same T⟩
  · rw [if_neg h0, if_neg h0]
    by_cases h1 : 10000 < x1
    · rw [if_pos h1, if_pos h1]
      exact ⟨_, _, _, rfl, rfl, Both.same T⟩
    · rw [if_neg h1, if_neg h1, bind_of (top_now O), bind_of (po_gI P 5 (by decide)), bind_of (re_now O), kk_1224, bind_of (re_I O (by omega)), cp_up_ne (by omega), p5]
      by_cases h2 : C 3 5 + x1 ≤ 1000000
      · rw [if_pos h2, if_pos h2, bind_of (top_now O), bind_of (po_gI P 5 (by decide)), bind_of (po_pI P 5 _ (by decide)), bind_of (re_now O), bind_of (re_I O (by omega)), cp_up_ne (by omega), p5, bind_of (re_S O (by omega))]
        refine ⟨_, _, _, rfl, rfl, Both.of T (Nat.le_refl _) ?_⟩
        exact (sm_po (Sm.rf (T.th 0).2.1) hN (j := 5) (by omega) ⟨by omega, by omega⟩).x
      · rw [if_neg h2, if_neg h2]
        exact ⟨_, _, _, rfl, rfl, Both.same T⟩
theorem sim_grain (O : cp_ok L w h) (T : Top w h B C R) (x1 x2 x3 : Int32) : ∃ z C' R', fn_X0_grain L q 0 x1 x2 x3 C = some (z, C') ∧ fn_X6_grain L q 143 x1 x2 x3 R = some (z, R') ∧ Both w h B C R 0 z C' R' := by
  have hN := N_le O.1
  have P : cp_okP L (w * h) 3 := O.2.2.2.2.1
  obtain ⟨⟨s1, s2, -⟩, -, s5, s6⟩ := (T.th 0).1
  obtain ⟨c, c1, c2⟩ := cellv_in x1 x2 O.1
  unfold fn_X0_grain fn_X6_grain
  rw [bind_of (re_pI O 0 _ (by omega))]
  by_cases h0 : x3 < 0
  · rw [if_pos h0, if_pos h0]
    exact ⟨_, _, _, rfl, rfl, Both.same T⟩
  · rw [if_neg h0, if_neg h0]
    by_cases h1 : x3 ≤ 250
    · obtain ⟨j, j1, j2⟩ := le_of_nlt (n := 250) (by omega) h0 h1
      rw [if_pos h1, if_pos h1, bind_of (top_now O), bind_of (po_gr P), bind_of (top_sh O), bind_of O.2.2.1, bind_of (cl_cellAt O s1 s2 x1 x2), bind_of (re_now O), bind_of (re_fl O), bind_of (re_cellAt O s5 s6 x1 x2), c2]
      dsimp only
      rw [bind_of (po_grS P (by omega) c1), bind_of (re_S O (by omega))]
      refine ⟨_, _, _, rfl, rfl, Both.of T (Nat.le_refl _) ?_⟩
      exact (sm_gr (Sm.rf (T.th 0).2.1) hN c1 j1 j2).x
    · rw [if_neg h1, if_neg h1]
      exact ⟨_, _, _, rfl, rfl, Both.same T⟩
theorem sim_cell (O : cp_ok L w h) (hq : 2000 ≤ q) (T : Top w h B C R) (x1 x2 x3 : Int32) : ∃ z C' R', fn_X0_cell L q 0 x1 x2 x3 C = some (z, C') ∧ fn_X6_cell L q 143 x1 x2 x3 R = some (z, R') ∧ Both w h B C R 0 z C' R' := by
  have hN := N_le O.1
  have P : cp_okP L (w * h) 3 := O.2.2.2.2.1
  obtain ⟨⟨s1, s2, -⟩, -, s5, s6⟩ := (T.th 0).1
  obtain ⟨c, c1, c2⟩ := cellv_in x1 x2 O.1
  have H := (T.th 0).2.1
  have hg := (H.1 c c1).1
  have hm := (H.2.1 c c1).1
  unfold fn_X0_cell fn_X6_cell
  rw [bind_of (re_pI O 0 _ (by omega)), bind_of (re_fl O), bind_of (re_cellAt O s5 s6 x1 x2), bind_of (top_sh O), bind_of O.2.2.1, bind_of (cl_cellAt O s1 s2 x1 x2), c2]
  dsimp only
  by_cases h0 : x3 = 0
  · rw [if_pos h0, if_pos h0, bind_of (top_now O), bind_of (po_gr P), bind_of (po_grI P (by omega) c1), bind_of (re_now O), bind_of (re_I O (by omega)), ← hg]
    exact ⟨_, _, _, rfl, rfl, Both.same T⟩
  · rw [if_neg h0, if_neg h0]
    by_cases h1 : x3 = 1
    · rw [if_pos h1, if_pos h1, bind_of (top_now O), bind_of (po_mk P), bind_of (po_mkI P (by omega) c1), bind_of (re_now O), k100, bind_of (re_I O (by omega)), ← hm]
      exact ⟨_, _, _, rfl, rfl, Both.same T⟩
    · rw [if_neg h1, if_neg h1]
      by_cases h2 : x3 = 2
      · rw [if_pos h2, if_pos h2, bind_of (top_now O), bind_of (po_dw P), bind_of (po_dwI P (by omega) c1), bind_of (re_fl O), bind_of (ref_inCell O hN hq H c1)]
        exact ⟨_, _, _, rfl, rfl, Both.same T⟩
      · rw [if_neg h2, if_neg h2]
        exact ⟨_, _, _, rfl, rfl, Both.same T⟩
theorem sim_tick (O : cp_ok L w h) (hq : 2000 ≤ q) (hB : B + 51500 < 2 ^ 29) (T : Top w h B C R) {t : Nat} (ht : t ≤ 50) : ∃ z C' R', fn_X0_tick L q 0 (nI t) C = some (z, C') ∧ fn_X6_tick L q 143 (nI t) R = some (z, R') ∧ Both w h (B + 51500) C R 0 z C' R' := by
  have P : cp_okP L (w * h) 3 := O.2.2.2.2.1
  have T1 := T.th 0
  have hb : B + 1030 * t ≤ B + 51500 := by
    have := Nat.mul_le_mul_left 1030 ht
    exact Nat.add_le_add_left (Nat.le_trans this (by decide)) B
  obtain ⟨z, C', R', z1, z2, z3⟩ := sim_tick_L (q := q) O rfl P hq T1.1 (by rw [cp_up_eq, upd_eq]) ht t 0 q B C (cp_up R 143 0 0) (Nat.zero_add t) (by omega) (Nat.lt_of_le_of_lt hb hB) ⟨T1.2.1, Fr.rf, FrR.rf⟩
  refine ⟨z, C', R', ?_, ?_, Both.of T (by omega) (z3.more hb)⟩
  · unfold fn_X0_tick
    rw [if_neg (nI_pos (by omega)), if_pos (show nI t ≤ 50 from nI_le (b := 50) ht (by omega))]
    exact z1
  · unfold fn_X6_tick
    rw [if_neg (nI_pos (by omega)), if_pos (show nI t ≤ 50 from nI_le (b := 50) ht (by omega)), bind_of (re_pI O 0 _ (by omega))]
    exact z2
end TQ
