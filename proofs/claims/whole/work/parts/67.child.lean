/-! A pair has a child; all pairs -/
section CH
variable {L : cp_Lay} {w h B q N a b : Nat} {C0 R0 C R : cp_Dt}
theorem sim_breed (O : cp_ok L w h) (hNe : N = w * h) (P : cp_okP L N 3) (hq : 2000 ≤ q) (hB : B < 2 ^ 29) (S : rSh w h C0 R0) (H : Sx N B C0 R0 C R) (ha : a < 16) (hb : b < 16) (hab : a ≠ b) (hla : C (pA 3 a) 3 = 1) (hlb : C (pA 3 b) 3 = 1) :
    ∃ C' R', fn_X2_breed L q 142 (nI a) (nI b) C = some C' ∧ fn_X6_breed L q 143 (nI a) (nI b) R = some R' ∧ Sx N (B + 1) C0 R0 C' R' := by
  have hN : N ≤ 100 := by rw [hNe]; exact N_le O.1
  obtain ⟨H, F1, F2⟩ := H
  have S1 : rSh w h C R := S.mv F1 F2
  obtain ⟨⟨k1, k2, -⟩, ⟨c, c1, c2, c3⟩, ⟨d, d1, d2⟩, ⟨e, e1, e2⟩, -, ⟨l, l1, l2⟩, ⟨g, g1, g2⟩⟩ := rel_liv H ha hla
  obtain ⟨⟨k1', k2', -⟩, -, -, ⟨e', e1', e2'⟩, -, ⟨l', l1', l2'⟩, ⟨g', g1', g2'⟩⟩ := rel_liv H hb hlb
  have r0 : R 144 (200 + 64 * a) = nI c := k1.trans c2
  have r1 : R 144 (200 + 64 * a + 1) = nI d := (k2 6 (by omega) (by omega) (by omega)).symm.trans d2
  have r2 : R 144 (200 + 64 * a + 2) = nI e := (k2 7 (by omega) (by omega) (by omega)).symm.trans e2
  have r8 : R 144 (200 + 64 * a + 8) = nI g := (k2 13 (by omega) (by omega) (by omega)).symm.trans g2
  have s2 : R 144 (200 + 64 * b + 2) = nI e' := (k2' 7 (by omega) (by omega) (by omega)).symm.trans e2'
  have s8 : R 144 (200 + 64 * b + 8) = nI g' := (k2' 13 (by omega) (by omega) (by omega)).symm.trans g2'
  have p5 : R 144 1224 = C 3 5 := (H.2.2.2.2.2.2.1 5 (by omega) (by omega)).symm
  obtain ⟨r, f1, f2, f3⟩ := sim_ff (q := q) (b := b) O hNe P hq S1 H ha r0 c1
  obtain ⟨z, z1, z2, z3, z4⟩ := sim_free (q := q) O P hN hq H
  obtain ⟨n, hn⟩ : ∃ n, q - 4 = n + 1 := ⟨q - 5, by omega⟩
  have t40 : (40 : Int32) = nI 40 := rfl
  have t10 : (10 : Int32) = nI 10 := rfl
  have t2 : (2 : Int32) = nI 2 := rfl
  rw [f2, hn, fn_X6_breed_L5, if_pos (show (-1 : Int32) < 0 by decide), re_fl O, bind_of rfl, bind_of z3, re_now O, bind_of rfl, fn_X6_at, bind_of rfl, at_eq]
  try dsimp only
  rw [nk_2, bind_of (re_I O (by omega)), r2]
  unfold fn_X2_breed
  rw [bind_of (br_po O), bind_of (po_ar P), bind_of (po_an P ha), bind_of (br_po O), bind_of (po_ar P), bind_of (po_an P hb), bind_of (an_gI P ha 5 (by decide)), c2, bind_of (br_fl O), bind_of f1, bind_of (br_po O), bind_of (po_fl P)]
  try dsimp only
  rw [bind_of z4]
  try dsimp only
  rw [bind_of (an_gI P ha 7 (by decide)), e2]
  by_cases h1 : e < 40
  · rw [t40, if_pos (nI_lt h1 (by omega)), if_pos (nI_lt h1 (by omega))]
    exact ⟨C, R, rfl, rfl, H.more (by omega), F1, F2⟩
  rw [if_neg (show ¬ nI e < 40 from nI_nlt (b := 40) (by omega) (by omega)), if_neg (show ¬ nI e < 40 from nI_nlt (b := 40) (by omega) (by omega)), bind_of (an_gI P hb 7 (by decide)), e2', bind_of rfl, fn_X6_at, bind_of rfl, at_eq]
  try dsimp only
  rw [nk_2, bind_of (re_I O (by omega)), s2]
  by_cases h2 : e' < 40
  · rw [t40, if_pos (nI_lt h2 (by omega)), if_pos (nI_lt h2 (by omega))]
    exact ⟨C, R, rfl, rfl, H.more (by omega), F1, F2⟩
  rw [if_neg (show ¬ nI e' < 40 from nI_nlt (b := 40) (by omega) (by omega)), if_neg (show ¬ nI e' < 40 from nI_nlt (b := 40) (by omega) (by omega))]
  rcases f3 with f3 | ⟨c', f3, f4, f5⟩
  · rw [f3, if_pos rfl, if_pos (by decide)]
    exact ⟨C, R, rfl, rfl, H.more (by omega), F1, F2⟩
  rw [f4, if_neg (nI_m1 (by omega)), if_neg (nI_pos (by omega))]
  by_cases h3 : z = 16
  · subst h3
    rw [if_pos rfl, if_pos rfl, if_pos (show nI 16 = 16 from rfl)]
    exact ⟨C, R, rfl, rfl, H.more (by omega), F1, F2⟩
  have hz : z < 16 := by omega
  have hz0 := z2 hz
  have hza : a ≠ z := by
    intro e
    rw [← e, hla] at hz0
    exact absurd hz0 (by decide)
  have hzb : b ≠ z := by
    intro e
    rw [← e, hlb] at hz0
    exact absurd hz0 (by decide)
  rw [if_neg h3, if_neg (nI_m1 (by omega)), if_neg (show ¬ nI z = (16 : Int32) from fun e => h3 (nI_inj (c := 16) (by omega) (by omega) e))]
  -- paying and halving
  have A1 := rel_an H (Nat.le_refl _) hN ha (j := 7) (v := nI (e - 10)) (by omega) ⟨by omega, by omega, fun _ => ⟨e - 10, by omega, rfl⟩, by omega, by omega⟩
  have A2 := rel_po A1 hN (j := 5) (v := C 3 5 + nI 10) (by omega) ⟨by omega, by omega⟩
  have A3 := rel_an A2 (Nat.le_refl _) hN ha (j := 7) (v := nI (e - 10 - (e - 10) / 2)) (by omega) ⟨by omega, by omega, fun _ => ⟨_, by omega, rfl⟩, by omega, by omega⟩
  have A4 := rel_an A3 (Nat.le_refl _) hN hb (j := 7) (v := nI (e' - 10)) (by omega) ⟨by omega, by omega, fun _ => ⟨e' - 10, by omega, rfl⟩, by omega, by omega⟩
  have A5 := rel_po A4 hN (j := 5) (v := C 3 5 + nI 10 + nI 10) (by omega) ⟨by omega, by omega⟩
  have A6 := rel_an A5 (Nat.le_refl _) hN hb (j := 7) (v := nI (e' - 10 - (e' - 10) / 2)) (by omega) ⟨by omega, by omega, fun _ => ⟨_, by omega, rfl⟩, by omega, by omega⟩
  rw [show ro 7 = 2 from rfl, show 1219 + 5 = 1224 from rfl, cp_up_comm (i := 200 + 64 * a + 2) (j := 200 + 64 * b + 2) (by omega), cp_up_comm (i := 200 + 64 * a + 2) (j := 1224) (u := nI (e - 10 - (e - 10) / 2)) (by omega)] at A6
  have ph1 := cl_ph (q := q) O P ha e2 (by omega) (by omega)
  have FA : ∀ C', Fr 3 C0 C' → Fr 3 C0 (cp_up (cp_up (cp_up C' (pA 3 a) 7 (nI (e - 10))) 3 5 (C 3 5 + nI 10)) (pA 3 a) 7 (nI (e - 10 - (e - 10) / 2))) := fun C' hC' => ((hC'.up (pl_lt ha).1).up (by omega)).up (pl_lt ha).1
  have FB : ∀ C' v, Fr 3 C0 C' → Fr 3 C0 (cp_up (cp_up (cp_up C' (pA 3 b) 7 (nI (e' - 10))) 3 5 v) (pA 3 b) 7 (nI (e' - 10 - (e' - 10) / 2))) := fun C' v hC' => ((hC'.up (pl_lt hb).1).up (by omega)).up (pl_lt hb).1
  generalize hC1 : cp_up (cp_up (cp_up C (pA 3 a) 7 (nI (e - 10))) 3 5 (C 3 5 + nI 10)) (pA 3 a) 7 (nI (e - 10 - (e - 10) / 2)) = C1 at ph1 A6 FA
  have q5 : C1 3 5 = C 3 5 + nI 10 := by rw [← hC1, up_Ao, up_oo, upd_eq]
  have qb : C1 (pA 3 b) = C (pA 3 b) := by rw [← hC1, up_AA, if_neg hab.symm, up_oA, up_AA, if_neg hab.symm]
  have qa : ∀ j, j ≠ 7 → C1 (pA 3 a) j = C (pA 3 a) j := fun j hj => by rw [← hC1, up_AA, if_pos rfl, upd_ne hj, up_oA, up_AA, if_pos rfl, upd_ne hj]
  have qx : ∀ x, x ≠ a → C1 (pA 3 x) = C (pA 3 x) := fun x hx => by rw [← hC1, up_AA, if_neg hx, up_oA, up_AA, if_neg hx]
  have qd : C1 (pDw 3) = C (pDw 3) := by rw [← hC1, up_Ad, up_od, up_Ad]
  have FC1 : Fr 3 C0 C1 := by rw [← hC1]; exact ((F1.up (pl_lt ha).1).up (by omega)).up (pl_lt ha).1
  have ph2 := cl_ph (q := q) (C := C1) O P hb (by rw [qb]; exact e2') (by omega) (by omega)
  rw [q5] at ph2
  generalize hC2 : cp_up (cp_up (cp_up C1 (pA 3 b) 7 (nI (e' - 10))) 3 5 (C 3 5 + nI 10 + nI 10)) (pA 3 b) 7 (nI (e' - 10 - (e' - 10) / 2)) = C2 at ph2 A6
  have vb : ∀ j, j ≠ 7 → C2 (pA 3 b) j = C (pA 3 b) j := fun j hj => by rw [← hC2, up_AA, if_pos rfl, upd_ne hj, up_oA, up_AA, if_pos rfl, upd_ne hj, qb]
  have va : C2 (pA 3 a) = C1 (pA 3 a) := by rw [← hC2, up_AA, if_neg hab, up_oA, up_AA, if_neg hab]
  have vx : ∀ x, x ≠ a → x ≠ b → C2 (pA 3 x) = C (pA 3 x) := fun x hx hx2 => by rw [← hC2, up_AA, if_neg hx2, up_oA, up_AA, if_neg hx2, qx x hx]
  have vd : C2 (pDw 3) = C (pDw 3) := by rw [← hC2, up_Ad, up_od, up_Ad, qd]
  have FC2 : Fr 3 C0 C2 := by rw [← hC2]; exact FB C1 _ FC1
  rw [bind_of (br_po O), bind_of (an_gI P ha 6 (by decide)), d2, bind_of (br_fl O), bind_of ph1, bind_of (br_fl O)]
  try dsimp only
  rw [bind_of ph2, bind_of (po_fl P)]
  try dsimp only
  rw [nI_add]
  -- the reference pays
  have py1 := re_pay (q := q) (x := 10) O ha r2 (by omega) (by omega)
  rw [Nat.min_eq_left (by omega), p5] at py1
  have py2 := re_pay (q := q) (x := 10) (R := cp_up (cp_up R 144 (200 + 64 * a + 2) (nI (e - 10))) 144 1224 (C 3 5 + nI 10)) (a := b) (e := e') O hb (by rw [cp_up_eq, upd_ne (by omega), cp_up_eq, upd_ne (by omega)]; exact s2) (by omega) (by omega)
  rw [Nat.min_eq_left (by omega), cp_up_eq (i := 1224), upd_eq] at py2
  rw [bind_of rfl, t10, bind_of py1, bind_of rfl, bind_of py2, bind_of rfl, fn_X6_at, bind_of rfl, at_eq]
  try dsimp only
  have FR1 : FrR 144 R0 (cp_up (cp_up (cp_up (cp_up R 144 (200 + 64 * a + 2) (nI (e - 10))) 144 1224 (C 3 5 + nI 10)) 144 (200 + 64 * b + 2) (nI (e' - 10))) 144 1224 (C 3 5 + nI 10 + nI 10)) := (((F2.up).up).up).up
  have w1 : cp_up (cp_up (cp_up (cp_up R 144 (200 + 64 * a + 2) (nI (e - 10))) 144 1224 (C 3 5 + nI 10)) 144 (200 + 64 * b + 2) (nI (e' - 10))) 144 1224 (C 3 5 + nI 10 + nI 10) 144 (200 + 64 * a + 2) = nI (e - 10) := by
    rw [cp_up_eq, upd_ne (by omega), cp_up_eq, upd_ne (by omega), cp_up_eq, upd_ne (by omega), cp_up_eq, upd_eq]
  have w2 : cp_up (cp_up (cp_up (cp_up R 144 (200 + 64 * a + 2) (nI (e - 10))) 144 1224 (C 3 5 + nI 10)) 144 (200 + 64 * b + 2) (nI (e' - 10))) 144 1224 (C 3 5 + nI 10 + nI 10) 144 (200 + 64 * b + 2) = nI (e' - 10) := by
    rw [cp_up_eq, upd_ne (by omega), cp_up_eq, upd_eq]
  generalize hR1 : cp_up (cp_up (cp_up (cp_up R 144 (200 + 64 * a + 2) (nI (e - 10))) 144 1224 (C 3 5 + nI 10)) 144 (200 + 64 * b + 2) (nI (e' - 10))) 144 1224 (C 3 5 + nI 10 + nI 10) = R1 at *
  rw [nk_2, bind_of (re_I O (by omega)), w1, bind_of rfl, fn_X6_at, bind_of rfl, at_eq]
  try dsimp only
  rw [nk_2, bind_of (re_I O (by omega)), w2, bind_of rfl, fn_X6_at, bind_of rfl, at_eq]
  try dsimp only
  rw [nk_2, bind_of (re_I O (by omega)), w1, t2, pk_div (by omega) (by omega) (by omega), pk_div (by omega) (by omega) (by omega), pk_sub (by omega), bind_of (re_S O (by omega)), bind_of rfl, fn_X6_at, bind_of rfl, at_eq]
  try dsimp only
  rw [nI_add (200 + 64 * b) 2, bind_of (re_I O (by omega)), cp_up_eq, upd_ne (by omega), w2, pk_sub (by omega), bind_of (re_S O (by omega)), bind_of rfl, fn_X6_at, bind_of rfl, at_eq]
  have FR2 : FrR 144 R0 (cp_up (cp_up R1 144 (200 + 64 * a + 2) (nI (e - 10 - (e - 10) / 2))) 144 (200 + 64 * b + 2) (nI (e' - 10 - (e' - 10) / 2))) := (FR1.up).up
  have w3 : cp_up (cp_up R1 144 (200 + 64 * a + 2) (nI (e - 10 - (e - 10) / 2))) 144 (200 + 64 * b + 2) (nI (e' - 10 - (e' - 10) / 2)) 144 (200 + 64 * a + 1) = nI d := by
    rw [cp_up_eq, upd_ne (by omega), cp_up_eq, upd_ne (by omega), ← hR1, cp_up_eq, upd_ne (by omega), cp_up_eq, upd_ne (by omega), cp_up_eq, upd_ne (by omega), cp_up_eq, upd_ne (by omega), r1]
  have w4 : cp_up (cp_up R1 144 (200 + 64 * a + 2) (nI (e - 10 - (e - 10) / 2))) 144 (200 + 64 * b + 2) (nI (e' - 10 - (e' - 10) / 2)) 144 (200 + 64 * a + 8) = nI g := by
    rw [cp_up_eq, upd_ne (by omega), cp_up_eq, upd_ne (by omega), ← hR1, cp_up_eq, upd_ne (by omega), cp_up_eq, upd_ne (by omega), cp_up_eq, upd_ne (by omega), cp_up_eq, upd_ne (by omega), r8]
  have w5 : cp_up (cp_up R1 144 (200 + 64 * a + 2) (nI (e - 10 - (e - 10) / 2))) 144 (200 + 64 * b + 2) (nI (e' - 10 - (e' - 10) / 2)) 144 (200 + 64 * b + 8) = nI g' := by
    rw [cp_up_eq, upd_ne (by omega), cp_up_eq, upd_ne (by omega), ← hR1, cp_up_eq, upd_ne (by omega), cp_up_eq, upd_ne (by omega), cp_up_eq, upd_ne (by omega), cp_up_eq, upd_ne (by omega), s8]
  generalize hR2 : cp_up (cp_up R1 144 (200 + 64 * a + 2) (nI (e - 10 - (e - 10) / 2))) 144 (200 + 64 * b + 2) (nI (e' - 10 - (e' - 10) / 2)) = R2 at *
  try dsimp only
  rw [nk_1, bind_of (re_I O (by omega)), w3, bind_of rfl, nI_add]
  -- the new animal
  obtain ⟨C3, m1, X⟩ := cl_settle (q := q) (C := C2) (d := d) (e := (e - 10) / 2 + (e' - 10) / 2) P hN hq hz f3
  obtain ⟨R3, m2, Y⟩ := re_make (q := q) (R := R2) (x1 := nI c') (x2 := nI d) (x3 := nI ((e - 10) / 2 + (e' - 10) / 2)) O hz hq
  have A7 := rel_born A6 hN hz (by rw [vx z hza.symm hzb.symm]; exact hz0) f3 (by rw [vd]; exact f5) d1 (by omega) X Y
  rw [bind_of m1, bind_of m2, bind_of rfl, fn_X6_at, bind_of rfl, at_eq]
  try dsimp only
  obtain ⟨X0, -, -, -, X3, -, -, -, -, -, X9, -⟩ := X
  have x3a : C3 (pA 3 a) = C2 (pA 3 a) := X0 _ (by unfold pA; omega) (by unfold pA pR; omega) (by unfold pA pM; omega) (by unfold pA pDw; omega)
  have x3b : C3 (pA 3 b) = C2 (pA 3 b) := X0 _ (by unfold pA; omega) (by unfold pA pR; omega) (by unfold pA pM; omega) (by unfold pA pDw; omega)
  have FC3 : Fr 3 C0 C3 := FC2.tr (fun k hk => X0 k (by have := (pl_lt hz).1; omega) (by have := (pl_lt hz).2.1; omega) (by have := (pl_lt hz).2.2.1; omega) (by unfold pDw; omega))
  obtain ⟨Y0, Y1, -⟩ := Y
  have FR3 : FrR 144 R0 R3 := FR2.tr Y0
  have y4 : R3 144 (200 + 64 * a + 8) = nI g := (Y1 _ (by omega)).trans w4
  have y5 : R3 144 (200 + 64 * b + 8) = nI g' := (Y1 _ (by omega)).trans w5
  have A8 := rel_an A7 (Nat.le_refl _) hN hz (j := 11) (v := nI a) (by omega) ⟨by omega, by omega, by omega, by omega, by omega⟩
  have A9 := rel_an A8 (Nat.le_refl _) hN hz (j := 12) (v := nI b) (by omega) ⟨by omega, by omega, by omega, by omega, by omega⟩
  have A10 := rel_an A9 (B' := B + 1) (by omega) hN hz (j := 13) (v := nI (max g g' + 1)) (by omega) ⟨by omega, by omega, by omega, by omega, fun _ => ⟨max g g' + 1, by omega, rfl⟩⟩
  rw [show ro 11 = 6 from rfl, show ro 12 = 7 from rfl, show ro 13 = 8 from rfl] at A10
  rw [nk_6, bind_of (re_S O (by omega)), bind_of rfl, fn_X6_at, bind_of rfl, at_eq]
  try dsimp only
  rw [nk_7, bind_of (re_S O (by omega)), bind_of rfl, fn_X6_at, bind_of rfl, at_eq]
  try dsimp only
  rw [bind_of rfl, fn_X6_at, bind_of rfl, at_eq]
  try dsimp only
  rw [nk_8, bind_of (re_I O (by omega)), cp_up_eq, upd_ne (by omega), cp_up_eq, upd_ne (by omega), y4, bind_of rfl, fn_X6_at, bind_of rfl, at_eq]
  try dsimp only
  rw [nk_8, bind_of (re_I O (by omega)), cp_up_eq (i := 200 + 64 * z + 7), upd_ne (by omega), cp_up_eq, upd_ne (by omega), y5, bind_of (least_neg (by omega) (by omega))]
  try dsimp only
  rw [nk_8, bind_of (re_S O (by omega)), Int32.sub_neg, show (1 : Int32) + nI (max g g') = nI (max g g' + 1) by rw [Nat.add_comm]; exact nI_add 1 _, bind_of rfl]
  rw [bind_of (an_pI P hz 11 _ (by decide)), bind_of (an_pI P hz 12 _ (by decide)), bind_of (an_gI P ha 13 (by decide)), bind_of (an_gI P hb 13 (by decide)), up_AA, if_neg hza, up_AA, if_neg hza, x3a, va, qa 13 (by omega), g2, up_AA, if_neg hzb, up_AA, if_neg hzb, x3b, vb 13 (by omega), g2', cp_mx_nI (by omega) (by omega), nI_1, bind_of (an_pI P hz 13 _ (by decide)), bind_of (br_fl O)]
  have n9 : ∀ x, x ≠ z → cp_up (cp_up (cp_up C3 (pA 3 z) 11 (nI a)) (pA 3 z) 12 (nI b)) (pA 3 z) 13 (nI (max g g' + 1)) (pA 3 x) = C3 (pA 3 x) := fun x hx => by rw [up_AA, if_neg hx, up_AA, if_neg hx, up_AA, if_neg hx]
  have nz : ∀ j, j ≠ 11 → j ≠ 12 → j ≠ 13 → cp_up (cp_up (cp_up C3 (pA 3 z) 11 (nI a)) (pA 3 z) 12 (nI b)) (pA 3 z) 13 (nI (max g g' + 1)) (pA 3 z) j = C3 (pA 3 z) j := fun j j1 j2 j3 => by rw [cp_up_eq, upd_ne j3, cp_up_eq, upd_ne j2, cp_up_eq, upd_ne j1]
  have FC4 : Fr 3 C0 (cp_up (cp_up (cp_up C3 (pA 3 z) 11 (nI a)) (pA 3 z) 12 (nI b)) (pA 3 z) 13 (nI (max g g' + 1))) := ((FC3.up (pl_lt hz).1).up (pl_lt hz).1).up (pl_lt hz).1
  have FR4 : FrR 144 R0 (cp_up (cp_up (cp_up R3 144 (200 + 64 * z + 6) (nI a)) 144 (200 + 64 * z + 7) (nI b)) 144 (200 + 64 * z + 8) (nI (max g g' + 1))) := ((FR3.up).up).up
  generalize cp_up (cp_up (cp_up C3 (pA 3 z) 11 (nI a)) (pA 3 z) 12 (nI b)) (pA 3 z) 13 (nI (max g g' + 1)) = C4 at *
  generalize cp_up (cp_up (cp_up R3 144 (200 + 64 * z + 6) (nI a)) 144 (200 + 64 * z + 7) (nI b)) 144 (200 + 64 * z + 8) (nI (max g g' + 1)) = R4 at *
  have la4 : C4 (pA 3 a) 3 = 1 := by rw [n9 a hza, x3a, va, qa 3 (by omega)]; exact hla
  have lb4 : C4 (pA 3 b) 3 = 1 := by rw [n9 b hzb, x3b, vb 3 (by omega)]; exact hlb
  have lz4 : C4 (pA 3 z) 3 = 1 := by rw [nz 3 (by omega) (by omega) (by omega)]; exact X3
  have na4 : C4 (pA 3 a) 9 = nI l := by rw [n9 a hza, x3a, va, qa 9 (by omega)]; exact l2
  have nb4 : C4 (pA 3 b) 9 = nI l' := by rw [n9 b hzb, x3b, vb 9 (by omega)]; exact l2'
  have nz4 : C4 (pA 3 z) 9 = nI 0 := by rw [nz 9 (by omega) (by omega) (by omega)]; exact X9
  obtain ⟨C5, C6, R6, i1, i2, i3, H6⟩ := sim_inherit (q := q) O P hN hq (Sm.rf A10) ha hb hz hza hzb la4 lb4 lz4 nz4 na4 nb4 l1 l1'
  have p9 : R6 144 1228 = C6 3 9 := (H6.1.2.2.2.2.2.2.1 9 (by omega) (by omega)).symm
  rw [bind_of i1, bind_of (br_fl O), bind_of i2, bind_of (br_po O), bind_of (po_gI P 9 (by decide)), bind_of (po_pI P 9 _ (by decide)), bind_of i3, bind_of rfl, show (1228 : Int32) = nI 1228 from rfl, bind_of (re_I O (by omega)), bind_of (re_S O (by omega)), p9]
  exact ⟨_, _, rfl, rfl, rel_po H6.1 hN (j := 9) (by omega) ⟨by omega, by omega⟩, (FC4.tr H6.2.1).up (by omega), (FR4.tr H6.2.2.1).up⟩
end CH
