/-! Who lives, the first free number, how many; cells; who is where -/
theorem i16 {a : Nat} (ha : a < 16) : ¬ (16 : Int32) ≤ nI a := nI_ge (b := 16) ha (by decide)
theorem i16' : (16 : Int32) ≤ nI 16 := by decide
theorem nI_m1 {c : Nat} (hc : c < 2 ^ 31) : ¬ nI c = -1 := by
  intro h
  have h1 := nI_toInt hc
  rw [h] at h1
  have h2 : (-1 : Int32).toInt = -1 := by decide
  omega
section LK
variable {L : cp_Lay} {w h N B q a : Nat} {C R : cp_Dt}
theorem liv_or (H : Rel N 3 144 B C R) (ha : a < 16) : C (pA 3 a) 3 = 1 ∨ C (pA 3 a) 3 = 0 := by
  rcases H.2.2.1 a ha with h1 | h1
  · exact Or.inl h1.1
  · exact Or.inr h1.1
theorem ref_home (H : Rel N 3 144 B C R) (hN : N ≤ 100) (ha : a < 16) : (C (pA 3 a) 3 = 1 ∧ ∃ c, c < N ∧ C (pA 3 a) 5 = nI c ∧ R 144 (200 + 64 * a) = nI c ∧ C (pDw 3) c = nI a) ∨ (C (pA 3 a) 3 = 0 ∧ R 144 (200 + 64 * a) = -1) := by
  rcases H.2.2.1 a ha with ⟨h1, h2⟩ | h1
  · obtain ⟨⟨c, c1, c2, c3⟩, -⟩ := H.2.2.2.1 a ha h1
    exact Or.inl ⟨h1, c, c1, c2, h2.1.trans c2, c3⟩
  · exact Or.inr h1
theorem ref_lives (O : cp_ok L w h) (hN : N ≤ 100) (H : Rel N 3 144 B C R) (ha : a < 16) : fn_X6_lives L q 143 (nI a) R = some (C (pA 3 a) 3, R) := by
  unfold fn_X6_lives
  rw [if_neg (nI_pos (by omega)), if_neg (i16 ha), re_now O]
  simp only [Option.bind_some]
  have h15 : nI a ≤ (15 : Int32) := nI_le (b := 15) (by omega) (by decide)
  rw [if_neg (nI_pos (by omega)), if_pos h15]
  simp (disch := omega) only [fn_X6_at, Option.bind_some, at_eq, re_I O]
  rcases ref_home H hN ha with ⟨h1, c, c1, -, c3, -⟩ | ⟨h1, h2⟩
  · rw [c3, if_neg (nI_pos (by omega)), h1]
  · rw [h2, if_pos (by decide), h1]
theorem ref_lives_out (O : cp_ok L w h) {x : Int32} (hx : x < 0 ∨ (16 : Int32) ≤ x) : fn_X6_lives L q 143 x R = some (0, R) := by
  unfold fn_X6_lives
  by_cases h0 : x < 0
  · rw [if_pos h0]
  · rw [if_neg h0, if_pos (hx.resolve_left h0)]
theorem cl_has (P : cp_okP L N 3) (ha : a < 16) (hl : C (pA 3 a) 3 = 1 ∨ C (pA 3 a) 3 = 0) : fn_X4_has L q 3 (nI a) C = some (C (pA 3 a) 3, C) := by
  unfold fn_X4_has
  rw [if_neg (nI_pos (by omega)), if_neg (i16 ha), po_ar P]
  simp only [Option.bind_some, po_an P ha, an_gI P ha 3 (by decide)]
  rcases hl with hl | hl
  · rw [hl, if_neg (by decide)]
  · rw [hl, if_pos rfl]
theorem cl_has_out {x : Int32} (hx : x < 0 ∨ (16 : Int32) ≤ x) : fn_X4_has L q 3 x C = some (0, C) := by
  unfold fn_X4_has
  by_cases h0 : x < 0
  · rw [if_pos h0]
  · rw [if_neg h0, if_pos (hx.resolve_left h0)]
/-- the first number that is free, from a on -/
theorem sim_free_L (O : cp_ok L w h) (P : cp_okP L N 3) (hN : N ≤ 100) (H : Rel N 3 144 B C R) : ∀ (m a n : Nat), a + m = 16 → m < n → ∃ r, a ≤ r ∧ r ≤ 16 ∧ (r < 16 → C (pA 3 r) 3 = 0) ∧ fn_X6_free_L2 L q n 143 (nI a) R = some (nI r, R) ∧ fn_X4_freeNumber_L2 L q n 3 (nI a) C = some ((if r = 16 then -1 else nI r), C) := by
  intro m
  induction m with
  | zero =>
    intro a n h1 h2
    have h3 : a = 16 := by omega
    subst h3
    obtain ⟨n, rfl⟩ : ∃ k, n = k + 1 := ⟨n - 1, by omega⟩
    refine ⟨16, Nat.le_refl _, Nat.le_refl _, fun h => by omega, ?_, ?_⟩
    · unfold fn_X6_free_L2
      rw [if_pos i16']
    · unfold fn_X4_freeNumber_L2
      rw [if_pos i16', if_pos rfl]
  | succ m ih =>
    intro a n h1 h2
    obtain ⟨n, rfl⟩ : ∃ k, n = k + 1 := ⟨n - 1, by omega⟩
    have ha : a < 16 := by omega
    have e1 : fn_X6_free_L2 L q (n + 1) 143 (nI a) R = if C (pA 3 a) 3 = 0 then some (nI a, R) else fn_X6_free_L2 L q n 143 (nI (a + 1)) R := by
      rw [fn_X6_free_L2, if_neg (i16 ha), re_fl O]
      simp only [Option.bind_some, ref_lives O hN H ha, nI_1]
    have e2 : fn_X4_freeNumber_L2 L q (n + 1) 3 (nI a) C = if C (pA 3 a) 3 = 0 then some (nI a, C) else fn_X4_freeNumber_L2 L q n 3 (nI (a + 1)) C := by
      rw [fn_X4_freeNumber_L2, if_neg (i16 ha), po_ar P]
      simp only [Option.bind_some, po_an P ha, an_gI P ha 3 (by decide), nI_1]
    rw [e1, e2]
    by_cases hl : C (pA 3 a) 3 = 0
    · rw [if_pos hl, if_pos hl]
      exact ⟨a, Nat.le_refl _, by omega, fun _ => hl, rfl, by rw [if_neg (by omega)]⟩
    · rw [if_neg hl, if_neg hl]
      obtain ⟨r, r1, r2⟩ := ih (a + 1) n (by omega) (by omega)
      exact ⟨r, by omega, r2⟩
theorem sim_free (O : cp_ok L w h) (P : cp_okP L N 3) (hN : N ≤ 100) (hq : 2000 ≤ q) (H : Rel N 3 144 B C R) : ∃ r, r ≤ 16 ∧ (r < 16 → C (pA 3 r) 3 = 0) ∧ fn_X6_free L q 143 R = some (nI r, R) ∧ fn_X4_freeNumber L q 3 C = some ((if r = 16 then -1 else nI r), C) := by
  obtain ⟨r, -, r1⟩ := sim_free_L (q := q) O P hN H 16 0 q rfl (by omega)
  exact ⟨r, r1⟩
/-- how many live -/
theorem sim_count_L (O : cp_ok L w h) (P : cp_okP L N 3) (hN : N ≤ 100) (H : Rel N 3 144 B C R) : ∀ (m a n : Nat) (z : Int32), a + m = 16 → m < n → ∃ r, fn_X6_animals_L4 L q n 143 z (nI a) R = some (r, R) ∧ fn_X4_countAnimals_L4 L q n 3 z (nI a) C = some (r, C) := by
  intro m
  induction m with
  | zero =>
    intro a n z h1 h2
    have h3 : a = 16 := by omega
    subst h3
    obtain ⟨n, rfl⟩ : ∃ k, n = k + 1 := ⟨n - 1, by omega⟩
    refine ⟨z, ?_, ?_⟩
    · unfold fn_X6_animals_L4
      rw [if_pos i16']
    · unfold fn_X4_countAnimals_L4
      rw [if_pos i16']
  | succ m ih =>
    intro a n z h1 h2
    obtain ⟨n, rfl⟩ : ∃ k, n = k + 1 := ⟨n - 1, by omega⟩
    have ha : a < 16 := by omega
    rw [fn_X6_animals_L4, fn_X4_countAnimals_L4, if_neg (i16 ha), if_neg (i16 ha), re_fl O, po_ar P]
    simp only [Option.bind_some, ref_lives O hN H ha, nI_1, po_an P ha, an_gI P ha 3 (by decide)]
    by_cases hl : C (pA 3 a) 3 = 0
    · rw [if_pos hl, if_pos hl]
      exact ih (a + 1) n _ (by omega) (by omega)
    · rw [if_neg hl, if_neg hl]
      exact ih (a + 1) n _ (by omega) (by omega)
theorem sim_count (O : cp_ok L w h) (P : cp_okP L N 3) (hN : N ≤ 100) (hq : 2000 ≤ q) (H : Rel N 3 144 B C R) : ∃ r, fn_X6_animals L q 143 R = some (r, R) ∧ fn_X4_countAnimals L q 3 C = some (r, C) := by
  obtain ⟨r, r1, r2⟩ := sim_count_L (q := q) O P hN H 16 0 q 0 rfl (by omega)
  exact ⟨r, r1, r2⟩
/-- who is in a cell -/
theorem ref_inCell_L (O : cp_ok L w h) (hN : N ≤ 100) (H : Rel N 3 144 B C R) {c : Nat} (hc : c < N) : ∀ (m a n : Nat), a + m = 16 → m < n → (∀ x, x < a → ¬ R 144 (200 + 64 * x) = nI c) → fn_X6_inCell_L2 L q n 143 (nI c) (nI a) R = some (C (pDw 3) c, R) := by
  intro m
  induction m with
  | zero =>
    intro a n h1 h2 h3
    have h4 : a = 16 := by omega
    subst h4
    obtain ⟨n, rfl⟩ : ∃ k, n = k + 1 := ⟨n - 1, by omega⟩
    unfold fn_X6_inCell_L2
    rw [if_pos i16']
    rcases H.2.2.2.2.2.1 c hc with g | ⟨x, x1, x2, x3, x4⟩
    · rw [g]
    · obtain ⟨⟨k1, -⟩, -⟩ := rel_liv H x1 x3
      exact absurd (k1.trans x4) (h3 x x1)
  | succ m ih =>
    intro a n h1 h2 h3
    obtain ⟨n, rfl⟩ : ∃ k, n = k + 1 := ⟨n - 1, by omega⟩
    have ha : a < 16 := by omega
    rw [fn_X6_inCell_L2, if_neg (i16 ha), re_now O]
    simp (disch := omega) only [Option.bind_some, fn_X6_at, at_eq, re_I O, nI_1]
    by_cases hh : R 144 (200 + 64 * a) = nI c
    · rw [if_pos hh]
      rcases ref_home H hN ha with ⟨g1, c', c1, c2, c3, c4⟩ | ⟨g1, g2⟩
      · have : c' = c := (nI_eq (by omega) (by omega)).mp (c3.symm.trans hh)
        subst this
        rw [c4]
      · rw [g2] at hh
        exact absurd hh.symm (nI_m1 (by omega))
    · rw [if_neg hh]
      refine ih (a + 1) n (by omega) (by omega) (fun x hx => ?_)
      by_cases hxa : x = a
      · rw [hxa]
        exact hh
      · exact h3 x (by omega)
theorem ref_inCell (O : cp_ok L w h) (hN : N ≤ 100) (hq : 2000 ≤ q) (H : Rel N 3 144 B C R) {c : Nat} (hc : c < N) : fn_X6_inCell L q 143 (nI c) R = some (C (pDw 3) c, R) :=
  ref_inCell_L O hN H hc 16 0 q rfl (by omega) (fun x hx => by omega)
theorem dw_or (H : Rel N 3 144 B C R) {c : Nat} (hc : c < N) : C (pDw 3) c = -1 ∨ ∃ x, x < 16 ∧ C (pDw 3) c = nI x ∧ C (pA 3 x) 3 = 1 ∧ C (pA 3 x) 5 = nI c := H.2.2.2.2.2.1 c hc
end LK
