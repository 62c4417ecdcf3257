/-! Steps of the two systems side by side -/
theorem nk_1 (n : Nat) : nI n + 1 = nI (n + 1) := nI_add n 1
theorem nk_2 (n : Nat) : nI n + 2 = nI (n + 2) := nI_add n 2
theorem nk_3 (n : Nat) : nI n + 3 = nI (n + 3) := nI_add n 3
theorem nk_4 (n : Nat) : nI n + 4 = nI (n + 4) := nI_add n 4
theorem nk_5 (n : Nat) : nI n + 5 = nI (n + 5) := nI_add n 5
theorem nk_6 (n : Nat) : nI n + 6 = nI (n + 6) := nI_add n 6
theorem nk_7 (n : Nat) : nI n + 7 = nI (n + 7) := nI_add n 7
theorem nk_8 (n : Nat) : nI n + 8 = nI (n + 8) := nI_add n 8
theorem nk_9 (n : Nat) : nI n + 9 = nI (n + 9) := nI_add n 9
theorem nk_10 (n : Nat) : nI n + 10 = nI (n + 10) := nI_add n 10
theorem nk_18 (n : Nat) : nI n + 18 = nI (n + 18) := nI_add n 18
theorem nk_34 (n : Nat) : nI n + 34 = nI (n + 34) := nI_add n 34
theorem kk_1224 : (1224 : Int32) = nI 1224 := rfl
theorem kk_1225 : (1225 : Int32) = nI 1225 := rfl
theorem kk_1226 : (1226 : Int32) = nI 1226 := rfl
theorem kk_1227 : (1227 : Int32) = nI 1227 := rfl
theorem kk_1228 : (1228 : Int32) = nI 1228 := rfl
theorem kk_1229 : (1229 : Int32) = nI 1229 := rfl
theorem kk_1230 : (1230 : Int32) = nI 1230 := rfl
theorem at_eq (a : Nat) : (200 : Int32) + (64 : Int32) * nI a = nI (200 + 64 * a) := by
  rw [show (64 : Int32) = nI 64 from rfl, show (200 : Int32) = nI 200 from rfl, pk_mul, nI_add]
def Fr (b : Nat) (C C' : cp_Dt) : Prop := ∀ k, k < b ∨ b + 69 ≤ k → C' k = C k
def FrR (t : Nat) (R R' : cp_Dt) : Prop := ∀ k, k ≠ t → R' k = R k
theorem Fr.rf {b : Nat} {C : cp_Dt} : Fr b C C := fun _ _ => rfl
theorem FrR.rf {t : Nat} {R : cp_Dt} : FrR t R R := fun _ _ => rfl
theorem Fr.up {b k j : Nat} {v : Int32} {C C' : cp_Dt} (h : Fr b C C') (h1 : b ≤ k ∧ k < b + 69) : Fr b C (cp_up C' k j v) := fun i hi => by rw [cp_up_ne (by omega)]; exact h i hi
theorem FrR.up {t j : Nat} {v : Int32} {R R' : cp_Dt} (h : FrR t R R') : FrR t R (cp_up R' t j v) := fun i hi => by rw [cp_up_ne hi]; exact h i hi
theorem Fr.tr {b : Nat} {C C' C'' : cp_Dt} (h : Fr b C C') (h2 : Fr b C' C'') : Fr b C C'' := fun i hi => (h2 i hi).trans (h i hi)
theorem FrR.tr {t : Nat} {R R' R'' : cp_Dt} (h : FrR t R R') (h2 : FrR t R' R'') : FrR t R R'' := fun i hi => (h2 i hi).trans (h i hi)
/-- behind a step: still the same pond on both sides, nothing else touched, the same animals live -/
def Sm (N B : Nat) (C0 R0 C R : cp_Dt) : Prop := Rel N 3 144 B C R ∧ Fr 3 C0 C ∧ FrR 144 R0 R ∧ ∀ c, C (pA 3 c) 3 = C0 (pA 3 c) 3
section SM
variable {N B B' : Nat} {C0 R0 C R : cp_Dt}
theorem Sm.rf (h : Rel N 3 144 B C R) : Sm N B C R C R := ⟨h, Fr.rf, FrR.rf, fun _ => rfl⟩
theorem Sm.tr {C1 R1 : cp_Dt} (h : Sm N B C0 R0 C R) (h2 : Sm N B' C R C1 R1) : Sm N B' C0 R0 C1 R1 := ⟨h2.1, h.2.1.tr h2.2.1, h.2.2.1.tr h2.2.2.1, fun c => (h2.2.2.2 c).trans (h.2.2.2 c)⟩
theorem Sm.more (h : Sm N B C0 R0 C R) (hB : B ≤ B') : Sm N B' C0 R0 C R := ⟨h.1.more hB, h.2⟩
theorem pl_lt {a : Nat} (ha : a < 16) : (3 ≤ pA 3 a ∧ pA 3 a < 72) ∧ (3 ≤ pR 3 a ∧ pR 3 a < 72) ∧ (3 ≤ pM 3 a ∧ pM 3 a < 72) ∧ (3 ≤ pG 3 a ∧ pG 3 a < 72) := by
  unfold pA pR pM pG
  omega
theorem sm_an (h : Sm N B C0 R0 C R) (hB : B ≤ B') (hN : N ≤ 100) {a j : Nat} (ha : a < 16) (hj : 4 ≤ j ∧ j < 14 ∧ j ≠ 5 ∧ j ≠ 9) {v : Int32}
    (hv : (j = 4 → v = 0 ∨ v = 1) ∧ (j = 6 → ∃ d, d < 4 ∧ v = nI d) ∧ (j = 7 → ∃ e, e ≤ B' ∧ v = nI e) ∧ (j = 10 → ∃ p, p < 20 ∧ v = nI p) ∧ (j = 13 → ∃ g, g ≤ B' ∧ v = nI g)) :
    Sm N B' C0 R0 (cp_up C (pA 3 a) j v) (cp_up R 144 (200 + 64 * a + ro j) v) := by
  refine ⟨rel_an h.1 hB hN ha hj hv, h.2.1.up (pl_lt ha).1, h.2.2.1.up, fun c => ?_⟩
  rw [up_AA]
  by_cases hca : c = a
  · subst hca
    rw [if_pos rfl, upd_ne (by omega)]
    exact h.2.2.2 c
  · rw [if_neg hca]
    exact h.2.2.2 c
theorem sm_rg (h : Sm N B C0 R0 C R) (hN : N ≤ 100) {a i : Nat} (ha : a < 16) (hi : i < 8) {v : Int32} (hv : cp_by v) : Sm N B C0 R0 (cp_up C (pR 3 a) i v) (cp_up R 144 (200 + 64 * a + 10 + i) v) :=
  ⟨rel_rg h.1 hN ha hi hv, h.2.1.up (pl_lt ha).2.1, h.2.2.1.up, fun c => by rw [up_RA]; exact h.2.2.2 c⟩
theorem sm_me (h : Sm N B C0 R0 C R) (hN : N ≤ 100) {a i : Nat} (ha : a < 16) (hi : i < 16) {v : Int32} (hv : cp_by v) : Sm N B C0 R0 (cp_up C (pM 3 a) i v) (cp_up R 144 (200 + 64 * a + 18 + i) v) :=
  ⟨rel_me h.1 hN ha hi hv, h.2.1.up (pl_lt ha).2.2.1, h.2.2.1.up, fun c => by rw [up_MA]; exact h.2.2.2 c⟩
theorem sm_gr (h : Sm N B C0 R0 C R) (hN : N ≤ 100) {i g : Nat} (hi : i < N) (hg : g ≤ 250) {v : Int32} (hv : v = nI g) : Sm N B C0 R0 (cp_up C (pGr 3) i v) (cp_up R 144 i v) :=
  ⟨rel_gr h.1 hN hi hg hv, h.2.1.up (by unfold pGr; omega), h.2.2.1.up, fun c => by rw [up_gA]; exact h.2.2.2 c⟩
theorem sm_mk (h : Sm N B C0 R0 C R) (hN : N ≤ 100) {i : Nat} (hi : i < N) {v : Int32} (hv : cp_by v) : Sm N B C0 R0 (cp_up C (pMk 3) i v) (cp_up R 144 (100 + i) v) :=
  ⟨rel_mk h.1 hN hi hv, h.2.1.up (by unfold pMk; omega), h.2.2.1.up, fun c => by rw [up_mA]; exact h.2.2.2 c⟩
theorem sm_po (h : Sm N B C0 R0 C R) (hN : N ≤ 100) {j : Nat} (hj : 5 ≤ j ∧ j < 12) {v : Int32} (hv : (j = 6 → ∃ s, s ≤ 50 ∧ v = nI s) ∧ (j = 8 → ∃ u, u < N ∧ v = nI u)) : Sm N B C0 R0 (cp_up C 3 j v) (cp_up R 144 (1219 + j) v) :=
  ⟨rel_po h.1 hN hj hv, h.2.1.up (by omega), h.2.2.1.up, fun c => by rw [up_oA]; exact h.2.2.2 c⟩
end SM
/-- what the relation says of one living animal -/
theorem rel_liv {N b t B : Nat} {C R : cp_Dt} (h : Rel N b t B C R) {a : Nat} (ha : a < 16) (hl : C (pA b a) 3 = 1) : rL b t C R a ∧ rV N b B C a := by
  refine ⟨?_, h.2.2.2.1 a ha hl⟩
  rcases h.2.2.1 a ha with h1 | h1
  · exact h1.2
  · rw [h1.1] at hl
    exact absurd hl (by decide)
theorem cp_mn_nI {x y : Nat} (hx : x < 2 ^ 31) (hy : y < 2 ^ 31) : cp_mn (nI x) (nI y) = nI (min x y) := by
  unfold cp_mn
  by_cases hc : y < x
  · rw [if_pos (nI_lt hc hx), Nat.min_eq_right (by omega)]
  · rw [if_neg (nI_nlt (by omega) hy), Nat.min_eq_left (by omega)]
theorem least_nI {L : cp_Lay} {q x y : Nat} {D : cp_Dt} (hx : x < 2 ^ 31) (hy : y < 2 ^ 31) : fn_X6_least L q (nI x) (nI y) D = some (nI (min x y), D) := by
  unfold fn_X6_least
  by_cases hc : y ≤ x
  · rw [if_pos (nI_le hc hx), Nat.min_eq_right hc]
  · rw [if_neg (nI_ge (by omega) hy), Nat.min_eq_left (by omega)]
theorem sim_pay {L : cp_Lay} {w h N B q a x : Nat} {C0 R0 C R : cp_Dt} (O : cp_ok L w h) (P : cp_okP L N 3) (hN : N ≤ 100) (hB : B < 2 ^ 30) (hx : x < 2 ^ 30) (H : Sm N B C0 R0 C R) (ha : a < 16) (hl : C (pA 3 a) 3 = 1) :
    ∃ C' R', fn_X4_pay L q 3 (pA 3 a) (nI x) C = some C' ∧ fn_X6_pay L q 143 (nI a) (nI x) R = some R' ∧ Sm N B C0 R0 C' R' := by
  obtain ⟨⟨k1, k2, k3, k4, k5⟩, v1, v2, ⟨e, e1, e2⟩, v4, v5, v6⟩ := rel_liv H.1 ha hl
  have r2 : R 144 (200 + 64 * a + 2) = nI e := (k2 7 (by omega) (by omega) (by omega)).symm.trans e2
  have p5 : R 144 1224 = C 3 5 := (H.1.2.2.2.2.2.2.1 5 (by omega) (by omega)).symm
  refine ⟨cp_up (cp_up C (pA 3 a) 7 (nI (e - min x e))) 3 5 (C 3 5 + nI (min x e)), cp_up (cp_up R 144 (200 + 64 * a + 2) (nI (e - min x e))) 144 1224 (C 3 5 + nI (min x e)), ?_, ?_, ?_⟩
  · simp only [fn_X4_pay, an_gI P ha 7 (by decide), Option.bind_some, an_pI P ha 7 _ (by decide), po_gI P 5 (by decide), po_pI P 5 _ (by decide), up_Ao, e2]
    rw [cp_mn_nI (by omega) (by omega), pk_sub (by omega)]
  · simp (disch := omega) only [fn_X6_pay, re_now O, Option.bind_some, fn_X6_at, at_eq, nk_2, kk_1224, re_I O, re_S O, r2, least_nI]
    rw [pk_sub (by omega), cp_up_eq, upd_ne (by omega), p5]
  · exact sm_po (sm_an H (Nat.le_refl _) hN ha (j := 7) (by omega) ⟨by omega, by omega, fun _ => ⟨e - min x e, by omega, rfl⟩, by omega, by omega⟩) hN (j := 5) (by omega) ⟨by omega, by omega⟩
