/-! A new animal -/
def BornC (a c d e : Nat) (C C' : cp_Dt) : Prop := (∀ p, p ≠ pA 3 a → p ≠ pR 3 a → p ≠ pM 3 a → p ≠ pDw 3 → C' p = C p) ∧ C' (pDw 3) = upd (C (pDw 3)) c (nI a) ∧ (∀ i, i < 8 → C' (pR 3 a) i = 0) ∧ (∀ i, i < 16 → C' (pM 3 a) i = 0) ∧
  C' (pA 3 a) 3 = 1 ∧ C' (pA 3 a) 4 = 0 ∧ C' (pA 3 a) 5 = nI c ∧ C' (pA 3 a) 6 = nI d ∧ C' (pA 3 a) 7 = nI e ∧ C' (pA 3 a) 8 = 0 ∧ C' (pA 3 a) 9 = 0 ∧ C' (pA 3 a) 10 = 0 ∧ C' (pA 3 a) 11 = -1 ∧ C' (pA 3 a) 12 = -1 ∧ C' (pA 3 a) 13 = 0
def BornR (a : Nat) (x2 x3 x4 : Int32) (R R' : cp_Dt) : Prop := (∀ p, p ≠ 144 → R' p = R p) ∧ (∀ i, i < 200 + 64 * a ∨ 200 + 64 * a + 64 ≤ i → R' 144 i = R 144 i) ∧ R' 144 (200 + 64 * a) = x2 ∧ R' 144 (200 + 64 * a + 1) = x3 ∧ R' 144 (200 + 64 * a + 2) = x4 ∧ R' 144 (200 + 64 * a + 6) = -1 ∧ R' 144 (200 + 64 * a + 7) = -1 ∧ ∀ j, (3 ≤ j ∧ j ≤ 5) ∨ (8 ≤ j ∧ j < 64) → R' 144 (200 + 64 * a + j) = 0
theorem rel_born {N B a c d e : Nat} {C R C' R' : cp_Dt} (H : Rel N 3 144 B C R) (hN : N ≤ 100) (ha : a < 16) (hl : C (pA 3 a) 3 = 0) (hc : c < N) (he : C (pDw 3) c = -1) (hd : d < 4) (hen : e ≤ B) (X : BornC a c d e C C') (Y : BornR a (nI c) (nI d) (nI e) R R') : Rel N 3 144 B C' R' := by
  obtain ⟨h1, h2, h3, h4, h5, h6, h7⟩ := id H
  obtain ⟨x0, xd, xr, xm, x3, x4, x5, x6, x7, x8, x9, x10, x11, x12, x13⟩ := X
  obtain ⟨y0, yo, yc, y1, y2, y6, y7, yz⟩ := Y
  have oG : C' (pGr 3) = C (pGr 3) := x0 _ (by unfold pGr pA; omega) (by unfold pGr pR; omega) (by unfold pGr pM; omega) (by unfold pGr pDw; omega)
  have oK : C' (pMk 3) = C (pMk 3) := x0 _ (by unfold pMk pA; omega) (by unfold pMk pR; omega) (by unfold pMk pM; omega) (by unfold pMk pDw; omega)
  have o3 : C' 3 = C 3 := x0 _ (by unfold pA; omega) (by unfold pR; omega) (by unfold pM; omega) (by unfold pDw; omega)
  have oA : ∀ x, x ≠ a → C' (pA 3 x) = C (pA 3 x) := fun x hx => x0 _ (by unfold pA; omega) (by unfold pA pR; omega) (by unfold pA pM; omega) (by unfold pA pDw; omega)
  have oR : ∀ x, x ≠ a → C' (pR 3 x) = C (pR 3 x) := fun x hx => x0 _ (by unfold pR pA; omega) (by unfold pR; omega) (by unfold pR pM; omega) (by unfold pR pDw; omega)
  have oM : ∀ x, x ≠ a → C' (pM 3 x) = C (pM 3 x) := fun x hx => x0 _ (by unfold pM pA; omega) (by unfold pM pR; omega) (by unfold pM; omega) (by unfold pM pDw; omega)
  have oGe : ∀ x, C' (pG 3 x) = C (pG 3 x) := fun x => x0 _ (by unfold pG pA; omega) (by unfold pG pR; omega) (by unfold pG pM; omega) (by unfold pG pDw; omega)
  refine ⟨fun i hi => ?_, fun i hi => ?_, fun x hx => ?_, fun x hx => ?_, fun x hx => ?_, fun i hi => ?_, ?_⟩
  · rw [oG, yo _ (by omega)]
    exact h1 i hi
  · rw [oK, yo _ (by omega)]
    exact h2 i hi
  · by_cases hxa : x = a
    · subst hxa
      refine Or.inl ⟨x3, yc.trans x5.symm, fun j j1 j2 j3 => ?_, fun i hi => ?_, fun i hi => ?_, fun i l hl hl2 hi => ?_⟩
      · match j, j1, j2, j3 with
        | 4, _, _, _ => exact x4.trans (yz 9 (by omega)).symm
        | 5, _, _, j3 => exact absurd rfl j3
        | 6, _, _, _ => exact x6.trans y1.symm
        | 7, _, _, _ => exact x7.trans y2.symm
        | 8, _, _, _ => exact x8.trans (yz 3 (by omega)).symm
        | 9, _, _, _ => exact x9.trans (yz 5 (by omega)).symm
        | 10, _, _, _ => exact x10.trans (yz 4 (by omega)).symm
        | 11, _, _, _ => exact x11.trans y6.symm
        | 12, _, _, _ => exact x12.trans y7.symm
        | 13, _, _, _ => exact x13.trans (yz 8 (by omega)).symm
      · rw [Nat.add_assoc (200 + 64 * x), yz _ (by omega)]
        exact xr i hi
      · rw [Nat.add_assoc (200 + 64 * x), yz _ (by omega)]
        exact xm i hi
      · have : l = 0 := nI_inj (by omega) (by omega) (hl.symm.trans x9)
        omega
    · unfold rL
      rw [oA x hxa, oR x hxa, oM x hxa, oGe x]
      rcases h3 x hx with ⟨g1, k1, k2, k3, k4, k5⟩ | ⟨g1, g2⟩
      · refine Or.inl ⟨g1, ?_, fun i i1 i2 i3 => ?_, fun i hi => ?_, fun i hi => ?_, fun i l hl hl2 hi => ?_⟩
        · rw [yo _ (by omega)]
          exact k1
        · have := ro_lt i
          rw [yo _ (by omega)]
          exact k2 i i1 i2 i3
        · rw [yo _ (by omega)]
          exact k3 i hi
        · rw [yo _ (by omega)]
          exact k4 i hi
        · rw [yo _ (by omega)]
          exact k5 i l hl hl2 hi
      · refine Or.inr ⟨g1, ?_⟩
        rw [yo _ (by omega)]
        exact g2
  · by_cases hxa : x = a
    · subst hxa
      intro _
      refine ⟨⟨c, hc, x5, ?_⟩, ⟨d, hd, x6⟩, ⟨e, hen, x7⟩, ⟨0, by omega, x10⟩, ⟨0, by omega, x9⟩, ⟨0, by omega, x13⟩⟩
      rw [xd, upd_eq]
    · unfold rV
      rw [oA x hxa, xd]
      intro hlx
      obtain ⟨⟨cx, z1, z2, z3⟩, v2⟩ := h4 x hx hlx
      refine ⟨⟨cx, z1, z2, ?_⟩, v2⟩
      rw [upd_ne]
      · exact z3
      · intro e
        rw [e, he] at z3
        exact nI_m1 (by omega) z3.symm
  · unfold rW
    rw [oGe x]
    obtain ⟨w1, w2, w3, w4⟩ := h5 x hx
    by_cases hxa : x = a
    · subst hxa
      refine ⟨Or.inl x4, fun i hi => ?_, fun i hi => ?_, w4⟩
      · rw [xr i hi]
        rfl
      · rw [xm i hi]
        rfl
    · rw [oA x hxa, oR x hxa, oM x hxa]
      exact ⟨w1, w2, w3, w4⟩
  · rw [xd]
    by_cases e1 : i = c
    · subst e1
      exact Or.inr ⟨a, ha, upd_eq, x3, x5⟩
    · rw [upd_ne e1]
      rcases h6 i hi with g | ⟨x, z1, z2, z3, z4⟩
      · exact Or.inl g
      · refine Or.inr ⟨x, z1, z2, ?_⟩
        have hxa : x ≠ a := by
          intro e
          rw [e, hl] at z3
          exact absurd z3 (by decide)
        rw [oA x hxa]
        exact ⟨z3, z4⟩
  · unfold rP
    rw [o3]
    obtain ⟨p1, p2⟩ := h7
    refine ⟨fun i i1 i2 => ?_, p2⟩
    rw [yo _ (by omega)]
    exact p1 i i1 i2
section BO
variable {L : cp_Lay} {w h B q a N : Nat} {C0 R0 C R : cp_Dt} {x1 x2 x3 : Int32}
theorem i64 {k : Nat} (hk : k < 64) : ¬ (64 : Int32) ≤ nI k := nI_ge (b := 64) hk (by decide)
theorem cl_begin_L27 (P : cp_okP L N 3) (ha : a < 16) : ∀ (m k n : Nat) (D : cp_Dt), k + m = 16 → m < n →
    ∃ D', fn_X1_begin_L27 L q n (pA 3 a) x1 x2 x3 (nI k) D = some D' ∧ (∀ p, p ≠ pA 3 a → p ≠ pM 3 a → D' p = D p) ∧ (∀ i, i < k → D' (pM 3 a) i = D (pM 3 a) i) ∧ (∀ i, k ≤ i → i < 16 → D' (pM 3 a) i = 0) ∧
      D' (pA 3 a) 3 = 1 ∧ D' (pA 3 a) 4 = 0 ∧ D' (pA 3 a) 5 = x1 ∧ D' (pA 3 a) 6 = x2 ∧ D' (pA 3 a) 7 = x3 ∧ D' (pA 3 a) 8 = 0 ∧ D' (pA 3 a) 9 = 0 ∧ D' (pA 3 a) 10 = 0 ∧ D' (pA 3 a) 11 = -1 ∧ D' (pA 3 a) 12 = -1 ∧ D' (pA 3 a) 13 = 0 := by
  intro m
  induction m with
  | zero =>
    intro k n D hk hn
    have : k = 16 := by omega
    subst this
    obtain ⟨n, rfl⟩ : ∃ z, n = z + 1 := ⟨n - 1, by omega⟩
    rw [fn_X1_begin_L27, if_pos i16', bind_of (an_pZ P ha 3 _ (Or.inr rfl) (by decide)), bind_of (an_pZ P ha 4 _ (Or.inl rfl) (by decide)), bind_of (an_pI P ha 5 _ (by decide)), bind_of (an_pI P ha 6 _ (by decide)), bind_of (an_pI P ha 7 _ (by decide)), bind_of (an_pI P ha 8 _ (by decide)), bind_of (an_pI P ha 9 _ (by decide)), bind_of (an_pI P ha 10 _ (by decide)), bind_of (an_pI P ha 11 _ (by decide)), bind_of (an_pI P ha 12 _ (by decide)), bind_of (an_pI P ha 13 _ (by decide))]
    refine ⟨_, rfl, fun p h1 h2 => ?_, fun i hi => ?_, fun i h1 h2 => by omega, ?_⟩
    · simp only [cp_up_ne h1]
    · simp only [up_AM]
    · simp [cp_up_eq, upd]
  | succ m ih =>
    intro k n D hk hn
    obtain ⟨n, rfl⟩ : ∃ z, n = z + 1 := ⟨n - 1, by omega⟩
    rw [fn_X1_begin_L27, if_neg (i16 (by omega)), bind_of (an_me P ha), bind_of (an_meS P ha (by omega)), nI_1]
    obtain ⟨D', d1, d2, d3, d4, d5⟩ := ih (k + 1) n (cp_up D (pM 3 a) k (0 : Int32).toInt8.toInt32) (by omega) (by omega)
    refine ⟨D', d1, fun p h1 h2 => ?_, fun i hi => ?_, fun i h1 h2 => ?_, d5⟩
    · rw [d2 p h1 h2, cp_up_ne h2]
    · rw [d3 i (by omega), cp_up_eq, upd_ne (by omega)]
    · by_cases hik : i = k
      · subst hik
        rw [d3 i (by omega), cp_up_eq, upd_eq]
        rfl
      · exact d4 i (by omega) h2
theorem cl_begin_L3 (P : cp_okP L N 3) (ha : a < 16) : ∀ (m k n : Nat) (D : cp_Dt), k + m = 8 → m < n →
    ∃ D', fn_X1_begin_L3 L q n (pA 3 a) x1 x2 x3 (nI k) D = fn_X1_begin_L27 L q q (pA 3 a) x1 x2 x3 (nI 0) D' ∧ (∀ p, p ≠ pR 3 a → D' p = D p) ∧ (∀ i, i < k → D' (pR 3 a) i = D (pR 3 a) i) ∧ (∀ i, k ≤ i → i < 8 → D' (pR 3 a) i = 0) := by
  intro m
  induction m with
  | zero =>
    intro k n D hk hn
    have : k = 8 := by omega
    subst this
    obtain ⟨n, rfl⟩ : ∃ z, n = z + 1 := ⟨n - 1, by omega⟩
    rw [fn_X1_begin_L3, if_pos (show (8 : Int32) ≤ nI 8 by decide)]
    exact ⟨D, rfl, fun p _ => rfl, fun i _ => rfl, fun i h1 h2 => by omega⟩
  | succ m ih =>
    intro k n D hk hn
    obtain ⟨n, rfl⟩ : ∃ z, n = z + 1 := ⟨n - 1, by omega⟩
    rw [fn_X1_begin_L3, if_neg (i8 (by omega)), bind_of (an_rg P ha), bind_of (an_rgS P ha (by omega)), nI_1]
    obtain ⟨D', d1, d2, d3, d4⟩ := ih (k + 1) n (cp_up D (pR 3 a) k (0 : Int32).toInt8.toInt32) (by omega) (by omega)
    refine ⟨D', d1, fun p h2 => ?_, fun i hi => ?_, fun i h1 h2 => ?_⟩
    · rw [d2 p h2, cp_up_ne h2]
    · rw [d3 i (by omega), cp_up_eq, upd_ne (by omega)]
    · by_cases hik : i = k
      · subst hik
        rw [d3 i (by omega), cp_up_eq, upd_eq]
        rfl
      · exact d4 i (by omega) h2
theorem cl_settle {c d e : Nat} (P : cp_okP L N 3) (hN : N ≤ 100) (hq : 2000 ≤ q) (ha : a < 16) (hc : c < N) : ∃ C', fn_X4_settle L q 3 (nI a) (nI c) (nI d) (nI e) C = some (pA 3 a, C') ∧ BornC a c d e C C' := by
  obtain ⟨D1, e1, e2, e3, e4⟩ := cl_begin_L3 (L := L) (q := q) (x1 := nI c) (x2 := nI d) (x3 := nI e) P ha 8 0 q C rfl (by omega)
  obtain ⟨D2, f1, f2, f3, f4, f5⟩ := cl_begin_L27 (L := L) (q := q) (x1 := nI c) (x2 := nI d) (x3 := nI e) P ha 16 0 q D1 rfl (by omega)
  have hb : fn_X1_begin L q (pA 3 a) (nI c) (nI d) (nI e) C = some D2 := e1.trans f1
  unfold fn_X4_settle
  rw [bind_of (po_ar P), bind_of (po_an P ha), bind_of (an_fl P ha), bind_of hb, bind_of (po_dw P), bind_of (po_dwS P (by omega) hc)]
  refine ⟨_, rfl, fun p h1 h2 h3 h4 => ?_, ?_, fun i hi => ?_, fun i hi => ?_, ?_⟩
  · rw [cp_up_ne h4, f2 p h1 h3, e2 p h2]
  · rw [cp_up_eq, f2 _ (by unfold pDw pA; omega) (by unfold pDw pM; omega), e2 _ (by unfold pDw pR; omega)]
  · rw [up_dR, f2 _ (by unfold pR pA; omega) (by unfold pR pM; omega)]
    exact e4 i (by omega) hi
  · rw [up_dM]
    exact f4 i (by omega) hi
  · rw [up_dA]
    exact f5
theorem re_make_L (O : cp_ok L w h) (ha : a < 16) : ∀ (m k n : Nat) (D : cp_Dt), k + m = 64 → m < n →
    ∃ D', fn_X6_make_L3 L q n 143 (nI a) x1 x2 x3 (nI k) D = some D' ∧ (∀ p, p ≠ 144 → D' p = D p) ∧ (∀ i, i < 200 + 64 * a ∨ 200 + 64 * a + 64 ≤ i → D' 144 i = D 144 i) ∧ D' 144 (200 + 64 * a) = x1 ∧ D' 144 (200 + 64 * a + 1) = x2 ∧ D' 144 (200 + 64 * a + 2) = x3 ∧ D' 144 (200 + 64 * a + 6) = -1 ∧ D' 144 (200 + 64 * a + 7) = -1 ∧
      ∀ j, (3 ≤ j ∧ j ≤ 5) ∨ (8 ≤ j ∧ j < 64) → D' 144 (200 + 64 * a + j) = if k ≤ j then 0 else D 144 (200 + 64 * a + j) := by
  intro m
  induction m with
  | zero =>
    intro k n D hk hn
    have : k = 64 := by omega
    subst this
    obtain ⟨n, rfl⟩ : ∃ z, n = z + 1 := ⟨n - 1, by omega⟩
    rw [fn_X6_make_L3, if_pos (show (64 : Int32) ≤ nI 64 by decide), re_now O, bind_of rfl, fn_X6_at, bind_of rfl, at_eq]
    dsimp only
    rw [Int32.add_zero, bind_of (re_S O (by omega)), bind_of rfl, fn_X6_at, bind_of rfl, at_eq]
    dsimp only
    rw [nk_1, bind_of (re_S O (by omega)), bind_of rfl, fn_X6_at, bind_of rfl, at_eq]
    dsimp only
    rw [nk_2, bind_of (re_S O (by omega)), bind_of rfl, fn_X6_at, bind_of rfl, at_eq]
    dsimp only
    rw [nk_6, bind_of (re_S O (by omega)), bind_of rfl, fn_X6_at, bind_of rfl, at_eq]
    dsimp only
    rw [nk_7, bind_of (re_S O (by omega))]
    refine ⟨_, rfl, fun p hp => ?_, fun i hi => ?_, ?_, ?_, ?_, ?_, ?_, fun j hj => ?_⟩
    · simp only [cp_up_ne hp]
    · rw [cp_up_eq, upd_ne (by omega), cp_up_eq, upd_ne (by omega), cp_up_eq, upd_ne (by omega), cp_up_eq, upd_ne (by omega), cp_up_eq, upd_ne (by omega)]
    · rw [cp_up_eq, upd_ne (by omega), cp_up_eq, upd_ne (by omega), cp_up_eq, upd_ne (by omega), cp_up_eq, upd_ne (by omega), cp_up_eq, upd_eq]
    · rw [cp_up_eq, upd_ne (by omega), cp_up_eq, upd_ne (by omega), cp_up_eq, upd_ne (by omega), cp_up_eq, upd_eq]
    · rw [cp_up_eq, upd_ne (by omega), cp_up_eq, upd_ne (by omega), cp_up_eq, upd_eq]
    · rw [cp_up_eq, upd_ne (by omega), cp_up_eq, upd_eq]
    · rw [cp_up_eq, upd_eq]
    · rw [cp_up_eq, upd_ne (by omega), cp_up_eq, upd_ne (by omega), cp_up_eq, upd_ne (by omega), cp_up_eq, upd_ne (by omega), cp_up_eq, upd_ne (by omega), if_neg (by omega)]
  | succ m ih =>
    intro k n D hk hn
    obtain ⟨n, rfl⟩ : ∃ z, n = z + 1 := ⟨n - 1, by omega⟩
    rw [fn_X6_make_L3, if_neg (i64 (by omega)), re_now O, bind_of rfl, fn_X6_at, bind_of rfl, at_eq]
    dsimp only
    rw [nI_add, bind_of (re_S O (by omega)), nI_1]
    obtain ⟨D', d1, d2, d3, d4, d5, d6, d7, d8, d9⟩ := ih (k + 1) n (cp_up D 144 (200 + 64 * a + k) 0) (by omega) (by omega)
    refine ⟨D', d1, fun p hp => ?_, fun i hi => ?_, d4, d5, d6, d7, d8, fun j hj => ?_⟩
    · rw [d2 p hp, cp_up_ne hp]
    · rw [d3 i hi, cp_up_eq, upd_ne (by omega)]
    · rw [d9 j hj]
      by_cases h1 : k + 1 ≤ j
      · rw [if_pos h1, if_pos (by omega)]
      · rw [if_neg h1, cp_up_eq]
        by_cases h2 : j = k
        · subst h2
          rw [upd_eq, if_pos (by omega)]
        · rw [upd_ne (by omega), if_neg (by omega)]
theorem re_make (O : cp_ok L w h) (ha : a < 16) (hq : 2000 ≤ q) : ∃ R', fn_X6_make L q 143 (nI a) x1 x2 x3 R = some R' ∧ BornR a x1 x2 x3 R R' := by
  obtain ⟨R', d1, d2, d3, d4, d5, d6, d7, d8, d9⟩ := re_make_L (L := L) (q := q) (x1 := x1) (x2 := x2) (x3 := x3) O ha 64 0 q R rfl (by omega)
  exact ⟨R', d1, d2, d3, d4, d5, d6, d7, d8, fun j hj => by rw [d9 j hj, if_pos (by omega)]⟩
end BO
