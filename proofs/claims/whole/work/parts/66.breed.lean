/-! Pairs and their children -/
theorem cp_mx_nI {x y : Nat} (hx : x < 2 ^ 31) (hy : y < 2 ^ 31) : cp_mx (nI x) (nI y) = nI (max x y) := by
  unfold cp_mx
  by_cases hc : x < y
  · rw [if_pos (nI_lt hc hy), Nat.max_eq_right (by omega)]
  · rw [if_neg (nI_nlt (by omega) hx), Nat.max_eq_left (by omega)]
theorem neg_toInt {x : Nat} (hx : x < 2 ^ 31) : (-nI x).toInt = -(x : Int) := by
  rw [Int32.toInt_neg, nI_toInt hx]
  exact Int.bmod_eq_of_le (by omega) (by omega)
theorem least_neg {L : cp_Lay} {q x y : Nat} {D : cp_Dt} (hx : x < 2 ^ 31) (hy : y < 2 ^ 31) : fn_X6_least L q (-nI x) (-nI y) D = some (-nI (max x y), D) := by
  unfold fn_X6_least
  by_cases hc : x ≤ y
  · rw [if_pos (Int32.le_iff_toInt_le.mpr (by rw [neg_toInt hx, neg_toInt hy]; omega)), Nat.max_eq_right hc]
  · rw [if_neg (fun h => by have := Int32.le_iff_toInt_le.mp h; rw [neg_toInt hx, neg_toInt hy] at this; omega), Nat.max_eq_left (by omega)]
section BR
variable {L : cp_Lay} {w h B q N a b c : Nat} {C0 R0 C R : cp_Dt}
theorem i4 {k : Nat} (hk : k < 4) : ¬ (4 : Int32) ≤ nI k := nI_ge (b := 4) hk (by decide)
theorem cl_ff_step {c' d n : Nat} (O : cp_ok L w h) (hNe : N = w * h) (P : cp_okP L N 3) (S : rSh w h C R) (hc : c < N) (hd : d < 4) (hc' : c' < N) (hb : nbv w h c d = nI c') : fn_X2_firstFreeAround_L2 L q (n + 1) 142 (nI c) (nI d) C = if C (pDw 3) c' = -1 then some (nI c', C) else fn_X2_firstFreeAround_L2 L q n 142 (nI c) (nI (d + 1)) C := by
  have hN : N ≤ 100 := by rw [hNe]; exact N_le O.1
  rw [fn_X2_firstFreeAround_L2, if_neg (i4 hd), br_po O, bind_of rfl, bind_of (po_sh P), bind_of O.2.2.1, fn_X5_nextTo, bind_of (cp_gR_of (L := L) (k := 1) (t := 5) (i := 3) (r := 2) O.2.2.1 rfl), show (4 : Int32) = nI 4 from rfl, pk_mul, nI_add, bind_of (nei_I O (by rw [← hNe]; omega)), show c * 4 + d = 4 * c + d by omega, S.2.1 c d (by rw [← hNe]; exact hc) hd, hb, bind_of rfl, bind_of rfl, bind_of (po_dw P)]
  dsimp only
  rw [bind_of (po_dwI P (by omega) hc'), nI_1]
theorem re_ff_step {c' d n : Nat} {i3 : Int32} (O : cp_ok L w h) (hNe : N = w * h) (hq : 2000 ≤ q) (S : rSh w h C R) (H : Rel N 3 144 B C R) (ha : a < 16) (h5 : R 144 (200 + 64 * a) = nI c) (hd : d < 4) (hc' : c' < N) (hb : nbv w h c d = nI c') : fn_X6_breed_L5 L q (n + 1) 143 (nI a) (nI b) i3 (nI d) R = fn_X6_breed_L5 L q n 143 (nI a) (nI b) (if C (pDw 3) c' = -1 then nI c' else i3) (nI d + -1) R := by
  have hN : N ≤ 100 := by rw [hNe]; exact N_le O.1
  rw [fn_X6_breed_L5, if_neg (nI_pos (by omega)), re_now O, bind_of rfl, fn_X6_at, bind_of rfl, at_eq]
  dsimp only
  rw [bind_of (re_I O (by omega)), h5, re_fl O, bind_of rfl, bind_of (re_beside O S hd), hb, bind_of rfl]
  dsimp only
  rw [bind_of (ref_inCell O hN hq H hc')]
  dsimp only
  rcases dw_or H hc' with g | ⟨x, x1, x2, -⟩
  · rw [g, if_neg (by decide), if_pos rfl]
  · rw [x2, if_pos (nI_pos' (by omega)), if_neg (nI_m1 (by omega))]
theorem sim_ff (O : cp_ok L w h) (hNe : N = w * h) (P : cp_okP L N 3) (hq : 2000 ≤ q) (S : rSh w h C R) (H : Rel N 3 144 B C R) (ha : a < 16) (h5 : R 144 (200 + 64 * a) = nI c) (hc : c < N) :
    ∃ r, fn_X2_firstFreeAround L q 142 (nI c) C = some (r, C) ∧ fn_X6_breed L q 143 (nI a) (nI b) R = fn_X6_breed_L5 L q (q - 4) 143 (nI a) (nI b) r (-1) R ∧ (r = -1 ∨ ∃ c', c' < N ∧ r = nI c' ∧ C (pDw 3) c' = -1) := by
  obtain ⟨c0, p0, b0⟩ := nbv_in O c 0
  obtain ⟨c1, p1, b1⟩ := nbv_in O c 1
  obtain ⟨c2, p2, b2⟩ := nbv_in O c 2
  obtain ⟨c3, p3, b3⟩ := nbv_in O c 3
  rw [← hNe] at p0 p1 p2 p3
  obtain ⟨k, hk⟩ : ∃ k, q = k + 1 + 1 + 1 + 1 + 1 := ⟨q - 5, by omega⟩
  have e1 : fn_X2_firstFreeAround L q 142 (nI c) C = if C (pDw 3) c0 = -1 then some (nI c0, C) else if C (pDw 3) c1 = -1 then some (nI c1, C) else if C (pDw 3) c2 = -1 then some (nI c2, C) else if C (pDw 3) c3 = -1 then some (nI c3, C) else some (-1, C) := by
    have : fn_X2_firstFreeAround L q 142 (nI c) C = fn_X2_firstFreeAround_L2 L q (k + 1 + 1 + 1 + 1 + 1) 142 (nI c) (nI 0) C := by
      unfold fn_X2_firstFreeAround
      conv => lhs; arg 3; rw [hk]
      rfl
    rw [this, cl_ff_step O hNe P S hc (by omega) p0 b0, cl_ff_step O hNe P S hc (by omega) p1 b1, cl_ff_step O hNe P S hc (by omega) p2 b2, cl_ff_step O hNe P S hc (by omega) p3 b3, fn_X2_firstFreeAround_L2, if_pos (show (4 : Int32) ≤ nI (0 + 1 + 1 + 1 + 1) by decide)]
  have e2 : fn_X6_breed L q 143 (nI a) (nI b) R = fn_X6_breed_L5 L q (q - 4) 143 (nI a) (nI b) (if C (pDw 3) c0 = -1 then nI c0 else if C (pDw 3) c1 = -1 then nI c1 else if C (pDw 3) c2 = -1 then nI c2 else if C (pDw 3) c3 = -1 then nI c3 else -1) (-1) R := by
    have : fn_X6_breed L q 143 (nI a) (nI b) R = fn_X6_breed_L5 L q (k + 1 + 1 + 1 + 1 + 1) 143 (nI a) (nI b) (-1) (nI 3) R := by
      unfold fn_X6_breed
      conv => lhs; arg 3; rw [hk]
      rfl
    rw [this, re_ff_step O hNe hq S H ha h5 (by omega) p3 b3, show nI 3 + -1 = nI 2 by decide, re_ff_step O hNe hq S H ha h5 (by omega) p2 b2, show nI 2 + -1 = nI 1 by decide, re_ff_step O hNe hq S H ha h5 (by omega) p1 b1, show nI 1 + -1 = nI 0 by decide, re_ff_step O hNe hq S H ha h5 (by omega) p0 b0, show nI 0 + -1 = (-1 : Int32) by decide, show q - 4 = k + 1 by omega]
  rw [e1, e2]
  by_cases f0 : C (pDw 3) c0 = -1
  · rw [if_pos f0, if_pos f0]
    exact ⟨_, rfl, rfl, Or.inr ⟨c0, p0, rfl, f0⟩⟩
  · rw [if_neg f0, if_neg f0]
    by_cases f1 : C (pDw 3) c1 = -1
    · rw [if_pos f1, if_pos f1]
      exact ⟨_, rfl, rfl, Or.inr ⟨c1, p1, rfl, f1⟩⟩
    · rw [if_neg f1, if_neg f1]
      by_cases f2 : C (pDw 3) c2 = -1
      · rw [if_pos f2, if_pos f2]
        exact ⟨_, rfl, rfl, Or.inr ⟨c2, p2, rfl, f2⟩⟩
      · rw [if_neg f2, if_neg f2]
        by_cases f3 : C (pDw 3) c3 = -1
        · rw [if_pos f3, if_pos f3]
          exact ⟨_, rfl, rfl, Or.inr ⟨c3, p3, rfl, f3⟩⟩
        · rw [if_neg f3, if_neg f3]
          exact ⟨_, rfl, rfl, Or.inl rfl⟩
theorem cl_pay {e x : Nat} (P : cp_okP L N 3) (ha : a < 16) (he : C (pA 3 a) 7 = nI e) (he2 : e < 2 ^ 31) (hx : x < 2 ^ 31) : fn_X4_pay L q 3 (pA 3 a) (nI x) C = some (cp_up (cp_up C (pA 3 a) 7 (nI (e - min x e))) 3 5 (C 3 5 + nI (min x e))) := by
  simp only [fn_X4_pay, an_gI P ha 7 (by decide), Option.bind_some, an_pI P ha 7 _ (by decide), po_gI P 5 (by decide), po_pI P 5 _ (by decide), up_Ao, he]
  rw [cp_mn_nI hx he2, pk_sub (by omega)]
theorem re_pay {e x : Nat} (O : cp_ok L w h) (ha : a < 16) (he : R 144 (200 + 64 * a + 2) = nI e) (he2 : e < 2 ^ 31) (hx : x < 2 ^ 31) : fn_X6_pay L q 143 (nI a) (nI x) R = some (cp_up (cp_up R 144 (200 + 64 * a + 2) (nI (e - min x e))) 144 1224 (R 144 1224 + nI (min x e))) := by
  simp (disch := omega) only [fn_X6_pay, re_now O, Option.bind_some, fn_X6_at, at_eq, nk_2, kk_1224, re_I O, re_S O, he, least_nI]
  rw [pk_sub (by omega), cp_up_eq, upd_ne (by omega)]
theorem cl_ph {e : Nat} (O : cp_ok L w h) (P : cp_okP L N 3) (ha : a < 16) (he : C (pA 3 a) 7 = nI e) (he2 : e < 2 ^ 31) (he40 : 40 ≤ e) : fn_X2_payAndHalve L q 142 (pA 3 a) C = some (nI ((e - 10) / 2), cp_up (cp_up (cp_up C (pA 3 a) 7 (nI (e - 10))) 3 5 (C 3 5 + nI 10)) (pA 3 a) 7 (nI ((e - 10) - (e - 10) / 2))) := by
  have hp := cl_pay (q := q) (x := 10) P ha he he2 (by omega)
  rw [Nat.min_eq_left (by omega)] at hp
  unfold fn_X2_payAndHalve
  rw [bind_of (br_po O), bind_of (po_fl P), show (10 : Int32) = nI 10 from rfl, bind_of hp, an_gI P ha 7 (by decide), bind_of rfl, bind_of rfl, up_oA, up_AA, if_pos rfl, upd_eq, show (2 : Int32) = nI 2 from rfl, pk_div (by omega) (by omega) (by omega), pk_sub (by omega), bind_of (an_pI P ha 7 _ (by decide))]
end BR
