/-! Deaths -/
def Sx (N B : Nat) (C0 R0 C R : cp_Dt) : Prop := Rel N 3 144 B C R ∧ Fr 3 C0 C ∧ FrR 144 R0 R
theorem Sm.x {N B : Nat} {C0 R0 C R : cp_Dt} (h : Sm N B C0 R0 C R) : Sx N B C0 R0 C R := ⟨h.1, h.2.1, h.2.2.1⟩
theorem Sx.tr {N B B' : Nat} {C0 R0 C R C1 R1 : cp_Dt} (h : Sx N B C0 R0 C R) (h2 : Sx N B' C R C1 R1) : Sx N B' C0 R0 C1 R1 := ⟨h2.1, h.2.1.tr h2.2.1, h.2.2.tr h2.2.2⟩
theorem Sx.more {N B B' : Nat} {C0 R0 C R : cp_Dt} (h : Sx N B C0 R0 C R) (hB : B ≤ B') : Sx N B' C0 R0 C R := ⟨h.1.more hB, h.2⟩
theorem rel_die {N B a c : Nat} {C R : cp_Dt} (H : Rel N 3 144 B C R) (hN : N ≤ 100) (ha : a < 16) (hl : C (pA 3 a) 3 = 1) (hc : c < N) (hh : C (pA 3 a) 5 = nI c) :
    Rel N 3 144 B (cp_up (cp_up C (pDw 3) c (-1)) (pA 3 a) 3 0) (cp_up R 144 (200 + 64 * a) (-1)) := by
  obtain ⟨h1, h2, h3, h4, h5, h6, h7⟩ := id H
  have hd : C (pDw 3) c = nI a := by
    obtain ⟨-, ⟨c1, v1, v2, v3⟩, -⟩ := rel_liv H ha hl
    have : c1 = c := nI_inj (by omega) (by omega) (v2.symm.trans hh)
    rw [← this]
    exact v3
  refine ⟨fun d hd' => ?_, fun d hd' => ?_, fun x hx => ?_, fun x hx => ?_, fun x hx => ?_, fun d hd' => ?_, ?_⟩
  · rw [up_Ag, up_dg, cp_up_eq, upd_ne (by omega)]
    exact h1 d hd'
  · rw [up_Am, up_dm, cp_up_eq, upd_ne (by omega)]
    exact h2 d hd'
  · unfold rL
    rw [up_AA, up_AR, up_AM, up_AG, up_dA, up_dA, up_dR, up_dM, up_dG, cp_up_eq]
    by_cases hxa : x = a
    · subst hxa
      rw [if_pos rfl]
      exact Or.inr ⟨upd_eq, upd_eq⟩
    · rw [if_neg hxa]
      rcases h3 x hx with ⟨g1, k1, k2, k3, k4, k5⟩ | ⟨g1, g2⟩
      · refine Or.inl ⟨g1, ?_, fun i i1 i2 i3 => ?_, fun i hi => ?_, fun i hi => ?_, fun i l hl hl2 hi => ?_⟩
        · rw [upd_ne (by omega)]
          exact k1
        · have := ro_lt i
          rw [upd_ne (by omega)]
          exact k2 i i1 i2 i3
        · rw [upd_ne (by omega)]
          exact k3 i hi
        · rw [upd_ne (by omega)]
          exact k4 i hi
        · rw [upd_ne (by omega)]
          exact k5 i l hl hl2 hi
      · refine Or.inr ⟨g1, ?_⟩
        rw [upd_ne (by omega)]
        exact g2
  · unfold rV
    rw [up_AA, up_Ad, up_dA, up_dA, up_dd]
    by_cases hxa : x = a
    · subst hxa
      rw [if_pos rfl]
      intro hz
      rw [upd_eq] at hz
      exact absurd hz (by decide)
    · rw [if_neg hxa]
      intro hlx
      obtain ⟨⟨cx, x1, x2, x3⟩, v2⟩ := h4 x hx hlx
      refine ⟨⟨cx, x1, x2, ?_⟩, v2⟩
      rw [upd_ne]
      · exact x3
      · intro e
        rw [e, hd] at x3
        exact hxa (nI_inj (by omega) (by omega) x3).symm
  · unfold rW
    rw [up_AA, up_AR, up_AM, up_AG, up_dA, up_dA, up_dR, up_dM, up_dG]
    obtain ⟨w1, w2⟩ := h5 x hx
    refine ⟨?_, w2⟩
    by_cases hxa : x = a
    · subst hxa
      rw [if_pos rfl, upd_ne (by omega)]
      exact w1
    · rw [if_neg hxa]
      exact w1
  · rw [up_Ad, up_dd]
    by_cases e1 : d = c
    · subst e1
      exact Or.inl upd_eq
    · rw [upd_ne e1]
      rcases h6 d hd' with g | ⟨x, x1, x2, x3, x4⟩
      · exact Or.inl g
      · refine Or.inr ⟨x, x1, x2, ?_⟩
        have hxa : x ≠ a := by
          intro e
          rw [e, hh] at x4
          exact e1 (nI_inj (by omega) (by omega) x4).symm
        rw [up_AA, if_neg hxa, up_dA]
        exact ⟨x3, x4⟩
  · unfold rP
    rw [up_Ao, up_do, cp_up_eq]
    obtain ⟨p1, p2⟩ := h7
    refine ⟨fun i i1 i2 => ?_, p2⟩
    rw [upd_ne (by omega)]
    exact p1 i i1 i2
section DI
variable {L : cp_Lay} {w h B q a N : Nat} {C0 R0 C R : cp_Dt}
theorem sim_end (O : cp_ok L w h) (P : cp_okP L N 3) (hN : N ≤ 100) (hB : B < 2 ^ 30) (H : Sx N B C0 R0 C R) (ha : a < 16) (hl : C (pA 3 a) 3 = 1) (hz : C (pA 3 a) 7 = 0 ∨ ¬ C (pA 3 a) 8 < 200) : ∃ C' R', fn_X4_end L q 3 (pA 3 a) C = some C' ∧ fn_X6_die L q 143 (nI a) R = some R' ∧ Sx N B C0 R0 C' R' := by
  obtain ⟨H, F1, F2⟩ := H
  obtain ⟨⟨k1, k2, -⟩, ⟨c, c1, c2, c3⟩, -, ⟨e, e1, e2⟩, -⟩ := rel_liv H ha hl
  obtain ⟨g1, g, g2, g3⟩ := H.1 c c1
  have r0 : R 144 (200 + 64 * a) = nI c := k1.trans c2
  have r2 : R 144 (200 + 64 * a + 2) = nI e := (k2 7 (by omega) (by omega) (by omega)).symm.trans e2
  have r3 : R 144 (200 + 64 * a + 3) = C (pA 3 a) 8 := (k2 8 (by omega) (by omega) (by omega)).symm
  have rg : R 144 c = nI g := g1.symm.trans g3
  have p5 : R 144 1224 = C 3 5 := (H.2.2.2.2.2.2.1 5 (by omega) (by omega)).symm
  have p10 : R 144 1229 = C 3 10 := (H.2.2.2.2.2.2.1 10 (by omega) (by omega)).symm
  have t250 : (250 : Int32) = nI 250 := rfl
  have H1 := rel_gr H hN c1 (g := min (g + e) 250) (by omega) rfl
  have H2 := rel_po H1 hN (j := 5) (v := C 3 5 + nI (g + e - min (g + e) 250)) (by omega) ⟨by omega, by omega⟩
  have H3 := rel_die (a := a) (c := c) H2 hN ha (by rw [up_oA, up_gA]; exact hl) c1 (by rw [up_oA, up_gA]; exact c2)
  have H4 := rel_po H3 hN (j := 10) (v := C 3 10 + 1) (by omega) ⟨by omega, by omega⟩
  refine ⟨_, _, ?_, ?_, H4, ?_, ?_⟩
  · unfold fn_X4_end
    rw [po_gr P, bind_of rfl, bind_of (an_gI P ha 5 (by decide)), c2, bind_of (po_grI P (by omega) c1), g3, bind_of (an_gI P ha 7 (by decide)), e2, bind_of rfl, bind_of (an_gI P ha 5 (by decide)), c2, t250, nI_add, cp_mn_nI (by omega) (by omega), pk_sub (by omega), bind_of (po_grS P (by omega) c1), bind_of (po_gI P 5 (by decide)), up_go, bind_of (po_pI P 5 _ (by decide)), bind_of (po_dw P), bind_of (an_gI P ha 5 (by decide)), up_oA, up_gA, c2, bind_of (po_dwS P (by omega) c1), bind_of (an_pZ P ha 3 _ (Or.inl rfl) (by decide)), bind_of (po_gI P 10 (by decide)), up_Ao, up_do, up_oo, upd_ne (by omega), up_go, bind_of (po_pI P 10 _ (by decide))]
  · unfold fn_X6_die
    rw [fn_X6_at, bind_of rfl, re_now O, bind_of rfl, at_eq]
    dsimp only
    rw [nk_2, bind_of (re_I O (by omega)), r2]
    have main : ((some 144).bind fun r5 =>
  (cp_aI L R 0 r5 (nI (200 + 64 * a))).bind fun v6 =>
  (some 144).bind fun r7 =>
  (cp_aI L R 0 r7 v6).bind fun v8 =>
  (some 144).bind fun r9 =>
  (cp_aI L R 0 r9 (nI (200 + 64 * a + 2))).bind fun v10 =>
  (fn_X6_least L q ((250 : Int32) - v8) v10 R).bind fun y11 =>
  (some 144).bind fun r12 =>
  (cp_aI L y11.2 0 r12 v6).bind fun v13 =>
  (cp_aS L y11.2 0 r12 v6 (v13 + y11.1)).bind fun D14 =>
  (some 144).bind fun r15 =>
  (cp_aI L D14 0 r15 (1224 : Int32)).bind fun v16 =>
  (some 144).bind fun r17 =>
  (cp_aI L D14 0 r17 (nI (200 + 64 * a + 2))).bind fun v18 =>
  (cp_aS L D14 0 r15 (1224 : Int32) (v16 + (v18 - y11.1))).bind fun D19 =>
  (some 144).bind fun r20 =>
  (cp_aS L D19 0 r20 (nI (200 + 64 * a)) (-1 : Int32)).bind fun D21 =>
  (some 144).bind fun r22 =>
  (cp_aI L D21 0 r22 (1229 : Int32)).bind fun v23 =>
  (cp_aS L D21 0 r22 (1229 : Int32) (v23 + (1 : Int32))).bind fun D24 =>
  some D24) = some (cp_up (cp_up (cp_up (cp_up R 144 c (nI (min (g + e) 250))) 144 (1219 + 5) (C 3 5 + nI (g + e - min (g + e) 250))) 144 (200 + 64 * a) (-1)) 144 (1219 + 10) (C 3 10 + 1)) := by
      have m1 : min (250 - g) e + g = min (g + e) 250 := by omega
      have m2 : e - min (250 - g) e = g + e - min (g + e) 250 := by omega
      rw [bind_of rfl, bind_of (re_I O (by omega)), r0, bind_of rfl, bind_of (re_I O (by omega)), rg, bind_of rfl, bind_of (re_I O (by omega)), r2, t250, pk_sub (by omega), bind_of (least_nI (by omega) (by omega)), bind_of rfl]
      dsimp only
      rw [bind_of (re_I O (by omega)), rg, nI_add, bind_of (re_S O (by omega)), Nat.add_comm g, m1, bind_of rfl, kk_1224, bind_of (re_I O (by omega)), cp_up_eq, upd_ne (by omega), p5, bind_of rfl, bind_of (re_I O (by omega)), cp_up_eq, upd_ne (by omega), r2, pk_sub (by omega), m2, bind_of (re_S O (by omega)), bind_of rfl, bind_of (re_S O (by omega)), bind_of rfl, kk_1229, bind_of (re_I O (by omega)), cp_up_eq, upd_ne (by omega), cp_up_eq, upd_ne (by omega), cp_up_eq, upd_ne (by omega), p10, bind_of (re_S O (by omega))]
    by_cases he : nI e ≤ 0
    · rw [if_pos he]
      exact main
    · rw [if_neg he, bind_of rfl, nk_3, bind_of (re_I O (by omega)), r3]
      have h2 : ¬ C (pA 3 a) 8 < 200 := by
        rcases hz with hz | hz
        · exfalso
          apply he
          rw [← e2, hz]
          decide
        · exact hz
      rw [if_pos (Int32.not_lt.mp h2)]
      exact main
  · exact ((((F1.up (by unfold pGr; omega)).up (by omega)).up (by unfold pDw; omega)).up (pl_lt ha).1).up (by omega)
  · exact (((F2.up).up).up).up
theorem sim_endDead_L (O : cp_ok L w h) (P : cp_okP L N 3) (hN : N ≤ 100) (hB : B < 2 ^ 30) : ∀ (m k n : Nat) (C R : cp_Dt), k + m = 16 → m < n → Sx N B C0 R0 C R →
    ∃ C' R', fn_X4_endDead_L2 L q n 3 (nI k) C = some C' ∧ fn_X6_pass_L125 L q n 143 (nI k) R = some (cp_up R' 144 1230 (C' 3 11 + 1)) ∧ Sx N B C0 R0 C' R' := by
  intro m
  induction m with
  | zero =>
    intro k n C R hk hn H
    have : k = 16 := by omega
    subst this
    obtain ⟨n, rfl⟩ : ∃ z, n = z + 1 := ⟨n - 1, by omega⟩
    have p11 : R 144 1230 = C 3 11 := (H.1.2.2.2.2.2.2.1 11 (by omega) (by omega)).symm
    rw [fn_X4_endDead_L2, fn_X6_pass_L125, if_pos i16', if_pos i16', bind_of (re_now O), kk_1230, bind_of (re_I O (by omega)), bind_of (re_S O (by omega)), p11]
    exact ⟨_, _, rfl, rfl, H⟩
  | succ m ih =>
    intro k n C R hk hn H
    obtain ⟨n, rfl⟩ : ∃ z, n = z + 1 := ⟨n - 1, by omega⟩
    have ha : k < 16 := by omega
    rw [fn_X4_endDead_L2, fn_X6_pass_L125, if_neg (i16 ha), if_neg (i16 ha), bind_of (po_ar P), bind_of (po_an P ha), bind_of (an_gI P ha 3 (by decide)), re_fl O, bind_of rfl, bind_of (ref_lives O hN H.1 ha), bind_of rfl]
    dsimp only
    rw [nI_1]
    rcases liv_or H.1 ha with hl | hl
    · rw [hl, if_neg (by decide), if_neg (by decide), bind_of (an_gI P ha 7 (by decide)), po_fl P, bind_of rfl, bind_of (an_gI P ha 8 (by decide))]
      by_cases hz : C (pA 3 k) 7 = 0 ∨ ¬ C (pA 3 k) 8 < 200
      · obtain ⟨C1, R1, z1, z2, H1⟩ := sim_end (q := q) O P hN hB H ha hl hz
        rw [bind_of z1, bind_of z2]
        have : (if C (pA 3 k) 7 = 0 then fn_X4_endDead_L2 L q n 3 (nI (k + 1)) C1 else if C (pA 3 k) 8 < 200 then fn_X4_endDead_L2 L q n 3 (nI (k + 1)) C else fn_X4_endDead_L2 L q n 3 (nI (k + 1)) C1) = fn_X4_endDead_L2 L q n 3 (nI (k + 1)) C1 := by
          rcases hz with hz | hz
          · rw [if_pos hz]
          · rw [if_neg hz, ite_self]
        rw [this]
        exact ih (k + 1) n C1 R1 (by omega) (by omega) H1
      · have z1 : ¬ C (pA 3 k) 7 = 0 := fun e => hz (Or.inl e)
        have z2 : C (pA 3 k) 8 < 200 := Classical.byContradiction fun e => hz (Or.inr e)
        obtain ⟨⟨k1, k2, -⟩, -, -, ⟨e, e1, e2⟩, -⟩ := rel_liv H.1 ha hl
        have r2 : R 144 (200 + 64 * k + 2) = nI e := (k2 7 (by omega) (by omega) (by omega)).symm.trans e2
        have r3 : R 144 (200 + 64 * k + 3) = C (pA 3 k) 8 := (k2 8 (by omega) (by omega) (by omega)).symm
        have he0 : 0 < e := by
          rcases Nat.eq_zero_or_pos e with e0 | e0
          · rw [e0] at e2
            exact absurd e2 z1
          · exact e0
        have hd : fn_X6_die L q 143 (nI k) R = some R := by
          unfold fn_X6_die
          rw [fn_X6_at, bind_of rfl, re_now O, bind_of rfl, at_eq]
          dsimp only
          rw [nk_2, bind_of (re_I O (by omega)), r2, if_neg (nI_nle he0 (by omega)), bind_of rfl, nk_3, bind_of (re_I O (by omega)), r3, if_neg (Int32.not_le.mpr z2)]
        rw [if_neg z1, if_pos z2, bind_of hd]
        exact ih (k + 1) n C R (by omega) (by omega) H
    · rw [hl, if_pos rfl, if_pos rfl]
      exact ih (k + 1) n C R (by omega) (by omega) H
theorem sim_endDead (O : cp_ok L w h) (P : cp_okP L N 3) (hN : N ≤ 100) (hq : 2000 ≤ q) (hB : B < 2 ^ 30) (H : Sx N B C0 R0 C R) :
    ∃ C' R', fn_X4_endDead L q 3 C = some C' ∧ fn_X6_pass_L125 L q q 143 0 R = some (cp_up R' 144 1230 (C' 3 11 + 1)) ∧ Sx N B C0 R0 C' R' :=
  sim_endDead_L O P hN hB 16 0 q C R rfl (by omega) H
end DI
