/-! keep, back, differ -/
theorem cp_cp_of {L : cp_Lay} {D : cp_Dt} {t k0 k1 n n0 n1 : Nat} {t0 t1 : Nat → Option Nat} (h0 : cp_ar L k0 t = some (n0, t0)) (h1 : cp_ar L k1 t = some (n1, t1)) (hn0 : n ≤ n0) (hn1 : n ≤ n1) (hn : n < 2 ^ 31) (hb : t = 1 → ∀ i, i < n → cp_by (D k0 i)) :
    cp_cp L D t k0 0 k1 0 (nI n) = some (cp_upA D k1 (va_cpy (D k0) (D k1) 0 0 n)) := by
  have c0 : (0 : Int32).toNatClampNeg = 0 := by decide
  unfold cp_cp
  rw [h0, bind_of rfl, h1, bind_of rfl]
  dsimp only
  rw [c0, nI_clamp hn, if_neg, if_neg]
  · rintro ⟨e1, e2⟩
    have : (List.range n).all (fun i => fits .byte (.int (D k0 (0 + i)))) = true := by
      refine List.all_eq_true.mpr (fun i hi => ?_)
      have h := hb e1 i (List.mem_range.mp hi)
      rw [Nat.zero_add, ← h]
      exact pk_fb _
    rw [this] at e2
    cases e2
  · rintro (e | e | e | e | e)
    · exact absurd e (by decide)
    · exact absurd e (by decide)
    · exact nI_pos hn e
    · omega
    · omega
theorem cpy0 {f g : Nat → Int32} {n i : Nat} (hi : i < n) : va_cpy f g 0 0 n i = f i := by
  rw [pk_cpy_in (Nat.zero_le _) (by omega)]
  congr 1
  omega
def Src (N b : Nat) (C : cp_Dt) : Prop := (∀ a, a < 16 → (C (pA b a) 3 = 0 ∨ C (pA b a) 3 = 1) ∧ rW b C a) ∧ ∀ c, c < N → cp_by (C (pMk b) c)
theorem Rel.src {N b t B : Nat} {C R : cp_Dt} (H : Rel N b t B C R) : Src N b C := by
  refine ⟨fun a ha => ⟨?_, H.2.2.2.2.1 a ha⟩, fun c hc => (H.2.1 c hc).2⟩
  rcases H.2.2.1 a ha with h | h
  · exact Or.inr h.1
  · exact Or.inl h.1
section KP
variable {L : cp_Lay} {w h B q N a b b' t t' : Nat} {C R D : cp_Dt}
theorem cl_acopy (P : cp_okP L N b) (P' : cp_okP L N b') (hbb : b + 69 ≤ b' ∨ b' + 69 ≤ b) (ha : a < 16) (hs : D (pA b' a) 3 = 0 ∨ D (pA b' a) 3 = 1) (hw : rW b' D a) :
    ∃ D', fn_X1_copyFrom L q (pA b a) (pA b' a) D = some D' ∧ (∀ k, k ≠ pA b a → k ≠ pR b a → k ≠ pM b a → k ≠ pG b a → D' k = D k) ∧ (∀ j, 3 ≤ j → j < 14 → D' (pA b a) j = D (pA b' a) j) ∧ (∀ i, i < 8 → D' (pR b a) i = D (pR b' a) i) ∧ (∀ i, i < 16 → D' (pM b a) i = D (pM b' a) i) ∧ (∀ i, i < 20 → D' (pG b a) i = D (pG b' a) i) := by
  obtain ⟨w1, w2, w3, w4⟩ := hw
  obtain ⟨-, ⟨t1, q1⟩, ⟨t2, q2⟩, ⟨t3, q3⟩⟩ := P.2.2.2.2.2 a ha
  obtain ⟨-, ⟨u1, v1⟩, ⟨u2, v2⟩, ⟨u3, v3⟩⟩ := P'.2.2.2.2.2 a ha
  have hne : pA b' a ≠ pA b a := by unfold pA; omega
  have m1 : pM b' a ≠ pR b a := by unfold pM pR; omega
  have m2 : pG b' a ≠ pR b a := by unfold pG pR; omega
  have m3 : pG b' a ≠ pM b a := by unfold pG pM; omega
  have c1 := cp_cp_of (D := D) v1 q1 (n := 8) (by omega) (by omega) (by omega) (fun _ => w2)
  have c2 := cp_cp_of (D := cp_upA D (pR b a) (va_cpy (D (pR b' a)) (D (pR b a)) 0 0 8)) v2 q2 (n := 16) (by omega) (by omega) (by omega) (fun _ => by rw [cp_upA_ne m1]; exact w3)
  rw [cp_upA_ne m1] at c2
  generalize hD2 : cp_upA (cp_upA D (pR b a) (va_cpy (D (pR b' a)) (D (pR b a)) 0 0 8)) (pM b a) (va_cpy (D (pM b' a)) (cp_upA D (pR b a) (va_cpy (D (pR b' a)) (D (pR b a)) 0 0 8) (pM b a)) 0 0 16) = D2 at c2
  have g2 : D2 (pG b' a) = D (pG b' a) := by rw [← hD2, cp_upA_ne m3, cp_upA_ne m2]
  have c3 := cp_cp_of (D := D2) v3 q3 (n := 20) (by omega) (by omega) (by omega) (fun _ => by rw [g2]; exact w4)
  rw [g2] at c3
  generalize hD3 : cp_upA D2 (pG b a) (va_cpy (D (pG b' a)) (D2 (pG b a)) 0 0 20) = D3 at c3
  have e9 : D3 (pA b' a) = D (pA b' a) := by rw [← hD3, cp_upA_ne (by unfold pA pG; omega), ← hD2, cp_upA_ne (by unfold pA pM; omega), cp_upA_ne (by unfold pA pR; omega)]
  have hR3 : ∀ i, i < 8 → D3 (pR b a) i = D (pR b' a) i := fun i hi => by rw [← hD3, cp_upA_ne (by unfold pR pG; omega), ← hD2, cp_upA_ne (by unfold pR pM; omega), cp_upA_eq, cpy0 hi]
  have hM3 : ∀ i, i < 16 → D3 (pM b a) i = D (pM b' a) i := fun i hi => by rw [← hD3, cp_upA_ne (by unfold pM pG; omega), ← hD2, cp_upA_eq, cpy0 hi]
  have hG3 : ∀ i, i < 20 → D3 (pG b a) i = D (pG b' a) i := fun i hi => by rw [← hD3, cp_upA_eq, cpy0 hi]
  have hk3 : ∀ k, k ≠ pR b a → k ≠ pM b a → k ≠ pG b a → D3 k = D k := fun k h1 h2 h3 => by rw [← hD3, cp_upA_ne h3, ← hD2, cp_upA_ne h2, cp_upA_ne h1]
  clear hD2 hD3
  unfold fn_X1_copyFrom
  rw [bind_of (an_rg P' ha), bind_of (an_rg P ha), show (8 : Int32) = nI 8 from rfl, bind_of c1, bind_of (an_me P' ha), bind_of (an_me P ha), show (16 : Int32) = nI 16 from rfl, bind_of c2, bind_of (an_ge P' ha), bind_of (an_ge P ha), show (20 : Int32) = nI 20 from rfl, bind_of c3]
  rw [bind_of (an_gI P' ha 3 (by decide)), e9, bind_of (an_pZ P ha 3 _ hs (by decide))]
  rw [bind_of (an_gI P' ha 4 (by decide)), cp_up_ne hne, e9, bind_of (an_pZ P ha 4 _ w1 (by decide))]
  rw [bind_of (an_gI P' ha 5 (by decide)), cp_up_ne hne, cp_up_ne hne, e9, bind_of (an_pI P ha 5 _ (by decide))]
  rw [bind_of (an_gI P' ha 6 (by decide)), cp_up_ne hne, cp_up_ne hne, cp_up_ne hne, e9, bind_of (an_pI P ha 6 _ (by decide))]
  rw [bind_of (an_gI P' ha 7 (by decide)), cp_up_ne hne, cp_up_ne hne, cp_up_ne hne, cp_up_ne hne, e9, bind_of (an_pI P ha 7 _ (by decide))]
  rw [bind_of (an_gI P' ha 8 (by decide)), cp_up_ne hne, cp_up_ne hne, cp_up_ne hne, cp_up_ne hne, cp_up_ne hne, e9, bind_of (an_pI P ha 8 _ (by decide))]
  rw [bind_of (an_gI P' ha 9 (by decide)), cp_up_ne hne, cp_up_ne hne, cp_up_ne hne, cp_up_ne hne, cp_up_ne hne, cp_up_ne hne, e9, bind_of (an_pI P ha 9 _ (by decide))]
  rw [bind_of (an_gI P' ha 10 (by decide)), cp_up_ne hne, cp_up_ne hne, cp_up_ne hne, cp_up_ne hne, cp_up_ne hne, cp_up_ne hne, cp_up_ne hne, e9, bind_of (an_pI P ha 10 _ (by decide))]
  rw [bind_of (an_gI P' ha 11 (by decide)), cp_up_ne hne, cp_up_ne hne, cp_up_ne hne, cp_up_ne hne, cp_up_ne hne, cp_up_ne hne, cp_up_ne hne, cp_up_ne hne, e9, bind_of (an_pI P ha 11 _ (by decide))]
  rw [bind_of (an_gI P' ha 12 (by decide)), cp_up_ne hne, cp_up_ne hne, cp_up_ne hne, cp_up_ne hne, cp_up_ne hne, cp_up_ne hne, cp_up_ne hne, cp_up_ne hne, cp_up_ne hne, e9, bind_of (an_pI P ha 12 _ (by decide))]
  rw [bind_of (an_gI P' ha 13 (by decide)), cp_up_ne hne, cp_up_ne hne, cp_up_ne hne, cp_up_ne hne, cp_up_ne hne, cp_up_ne hne, cp_up_ne hne, cp_up_ne hne, cp_up_ne hne, cp_up_ne hne, e9, bind_of (an_pI P ha 13 _ (by decide))]
  refine ⟨_, rfl, fun k h1 h2 h3 h4 => ?_, fun j j1 j2 => ?_, fun i hi => ?_, fun i hi => ?_, fun i hi => ?_⟩
  · simp only [cp_up_ne h1]
    exact hk3 k h2 h3 h4
  · match j, j1, j2 with
    | 3, _, _ | 4, _, _ | 5, _, _ | 6, _, _ | 7, _, _ | 8, _, _ | 9, _, _ | 10, _, _ | 11, _, _ | 12, _, _ | 13, _, _ => simp [cp_up_eq, upd]
  · have x1 : pR b a ≠ pA b a := by unfold pR pA; omega
    simp only [cp_up_ne x1]
    exact hR3 i hi
  · have x1 : pM b a ≠ pA b a := by unfold pM pA; omega
    simp only [cp_up_ne x1]
    exact hM3 i hi
  · have x1 : pG b a ≠ pA b a := by unfold pG pA; omega
    simp only [cp_up_ne x1]
    exact hG3 i hi
theorem cl_pcopy_L (P : cp_okP L N b) (P' : cp_okP L N b') (hbb : b + 69 ≤ b' ∨ b' + 69 ≤ b) : ∀ (m k n : Nat) (D : cp_Dt), k + m = 16 → m < n → (∀ a, a < 16 → (D (pA b' a) 3 = 0 ∨ D (pA b' a) 3 = 1) ∧ rW b' D a) →
    ∃ D', fn_X4_copyFrom_L62 L q n b b' (nI k) D = some D' ∧ (∀ p, p < b ∨ b + 69 ≤ p → D' p = D p) ∧ D' (pGr b) = D (pGr b) ∧ D' (pMk b) = D (pMk b) ∧ D' (pDw b) = D (pDw b) ∧ (∀ j, 5 ≤ j → j < 12 → D' b j = D b' j) ∧
      ∀ a, a < 16 → (a < k → D' (pA b a) = D (pA b a) ∧ D' (pR b a) = D (pR b a) ∧ D' (pM b a) = D (pM b a) ∧ D' (pG b a) = D (pG b a)) ∧ (k ≤ a → (∀ j, 3 ≤ j → j < 14 → D' (pA b a) j = D (pA b' a) j) ∧ (∀ i, i < 8 → D' (pR b a) i = D (pR b' a) i) ∧ (∀ i, i < 16 → D' (pM b a) i = D (pM b' a) i) ∧ (∀ i, i < 20 → D' (pG b a) i = D (pG b' a) i)) := by
  intro m
  induction m with
  | zero =>
    intro k n D hk hn hs
    have : k = 16 := by omega
    subst this
    obtain ⟨n, rfl⟩ : ∃ z, n = z + 1 := ⟨n - 1, by omega⟩
    have hne : b' ≠ b := by omega
    rw [fn_X4_copyFrom_L62, if_pos i16']
    rw [bind_of (po_gI P' 5 (by decide)), bind_of (po_pI P 5 _ (by decide))]
    rw [bind_of (po_gI P' 6 (by decide)), cp_up_ne hne, bind_of (po_pI P 6 _ (by decide))]
    rw [bind_of (po_gI P' 7 (by decide)), cp_up_ne hne, cp_up_ne hne, bind_of (po_pI P 7 _ (by decide))]
    rw [bind_of (po_gI P' 8 (by decide)), cp_up_ne hne, cp_up_ne hne, cp_up_ne hne, bind_of (po_pI P 8 _ (by decide))]
    rw [bind_of (po_gI P' 9 (by decide)), cp_up_ne hne, cp_up_ne hne, cp_up_ne hne, cp_up_ne hne, bind_of (po_pI P 9 _ (by decide))]
    rw [bind_of (po_gI P' 10 (by decide)), cp_up_ne hne, cp_up_ne hne, cp_up_ne hne, cp_up_ne hne, cp_up_ne hne, bind_of (po_pI P 10 _ (by decide))]
    rw [bind_of (po_gI P' 11 (by decide)), cp_up_ne hne, cp_up_ne hne, cp_up_ne hne, cp_up_ne hne, cp_up_ne hne, cp_up_ne hne, bind_of (po_pI P 11 _ (by decide))]
    refine ⟨_, rfl, fun p hp => ?_, ?_, ?_, ?_, fun j j1 j2 => ?_, fun a ha => ⟨fun _ => ⟨?_, ?_, ?_, ?_⟩, fun h => by omega⟩⟩
    · have x1 : p ≠ b := by omega
      simp only [cp_up_ne x1]
    · simp only [up_og]
    · simp only [up_om]
    · simp only [up_od]
    · match j, j1, j2 with
      | 5, _, _ | 6, _, _ | 7, _, _ | 8, _, _ | 9, _, _ | 10, _, _ | 11, _, _ => simp [cp_up_eq, upd]
    · simp only [up_oA]
    · simp only [up_oR]
    · simp only [up_oM]
    · simp only [up_oG]
  | succ m ih =>
    intro k n D hk hn hs
    obtain ⟨n, rfl⟩ : ∃ z, n = z + 1 := ⟨n - 1, by omega⟩
    have ha : k < 16 := by omega
    obtain ⟨D1, z1, z2, z3, z4, z5, z6⟩ := cl_acopy (q := q) P P' hbb ha (hs k ha).1 (hs k ha).2
    have oA : ∀ x, x < 16 → D1 (pA b' x) = D (pA b' x) := fun x hx => z2 _ (by unfold pA; omega) (by unfold pA pR; omega) (by unfold pA pM; omega) (by unfold pA pG; omega)
    have oR : ∀ x, x < 16 → D1 (pR b' x) = D (pR b' x) := fun x hx => z2 _ (by unfold pR pA; omega) (by unfold pR; omega) (by unfold pR pM; omega) (by unfold pR pG; omega)
    have oM : ∀ x, x < 16 → D1 (pM b' x) = D (pM b' x) := fun x hx => z2 _ (by unfold pM pA; omega) (by unfold pM pR; omega) (by unfold pM; omega) (by unfold pM pG; omega)
    have oG : ∀ x, x < 16 → D1 (pG b' x) = D (pG b' x) := fun x hx => z2 _ (by unfold pG pA; omega) (by unfold pG pR; omega) (by unfold pG pM; omega) (by unfold pG; omega)
    have pA1 : ∀ x, x ≠ k → D1 (pA b x) = D (pA b x) := fun x hx => z2 _ (by unfold pA; omega) (by unfold pA pR; omega) (by unfold pA pM; omega) (by unfold pA pG; omega)
    have pR1 : ∀ x, x ≠ k → D1 (pR b x) = D (pR b x) := fun x hx => z2 _ (by unfold pR pA; omega) (by unfold pR; omega) (by unfold pR pM; omega) (by unfold pR pG; omega)
    have pM1 : ∀ x, x ≠ k → D1 (pM b x) = D (pM b x) := fun x hx => z2 _ (by unfold pM pA; omega) (by unfold pM pR; omega) (by unfold pM; omega) (by unfold pM pG; omega)
    have pG1 : ∀ x, x ≠ k → D1 (pG b x) = D (pG b x) := fun x hx => z2 _ (by unfold pG pA; omega) (by unfold pG pR; omega) (by unfold pG pM; omega) (by unfold pG; omega)
    rw [fn_X4_copyFrom_L62, if_neg (i16 ha), bind_of (po_ar P), bind_of (po_an P ha), bind_of (po_ar P'), bind_of (po_an P' ha), bind_of (an_fl P ha), bind_of z1, nI_1]
    obtain ⟨D', y1, y2, y3, y4, y5, y6, y7⟩ := ih (k + 1) n D1 (by omega) (by omega) (fun x hx => by
      unfold rW
      rw [oA x hx, oR x hx, oM x hx, oG x hx]
      exact hs x hx)
    refine ⟨D', y1, fun p hp => ?_, ?_, ?_, ?_, fun j j1 j2 => ?_, fun x hx => ⟨fun hxk => ?_, fun hxk => ?_⟩⟩
    · rw [y2 p hp]
      exact z2 p (by unfold pA; omega) (by unfold pR; omega) (by unfold pM; omega) (by unfold pG; omega)
    · rw [y3]
      exact z2 _ (by unfold pGr pA; omega) (by unfold pGr pR; omega) (by unfold pGr pM; omega) (by unfold pGr pG; omega)
    · rw [y4]
      exact z2 _ (by unfold pMk pA; omega) (by unfold pMk pR; omega) (by unfold pMk pM; omega) (by unfold pMk pG; omega)
    · rw [y5]
      exact z2 _ (by unfold pDw pA; omega) (by unfold pDw pR; omega) (by unfold pDw pM; omega) (by unfold pDw pG; omega)
    · rw [y6 j j1 j2, z2 b' (by unfold pA; omega) (by unfold pR; omega) (by unfold pM; omega) (by unfold pG; omega)]
    · obtain ⟨x1, x2, x3, x4⟩ := (y7 x hx).1 (by omega)
      rw [x1, x2, x3, x4]
      exact ⟨pA1 x (by omega), pR1 x (by omega), pM1 x (by omega), pG1 x (by omega)⟩
    · by_cases hxk2 : x = k
      · subst hxk2
        obtain ⟨x1, x2, x3, x4⟩ := (y7 x hx).1 (by omega)
        rw [x1, x2, x3, x4]
        exact ⟨z3, z4, z5, z6⟩
      · obtain ⟨x1, x2, x3, x4⟩ := (y7 x hx).2 (by omega)
        rw [oA x hx] at x1
        rw [oR x hx] at x2
        rw [oM x hx] at x3
        rw [oG x hx] at x4
        exact ⟨x1, x2, x3, x4⟩
def Cpd (N b b' : Nat) (C C' : cp_Dt) : Prop := (∀ c, c < N → C' (pGr b) c = C (pGr b') c ∧ C' (pMk b) c = C (pMk b') c ∧ C' (pDw b) c = C (pDw b') c) ∧ (∀ j, 5 ≤ j → j < 12 → C' b j = C b' j) ∧
  ∀ a, a < 16 → (∀ j, 3 ≤ j → j < 14 → C' (pA b a) j = C (pA b' a) j) ∧ (∀ i, i < 8 → C' (pR b a) i = C (pR b' a) i) ∧ (∀ i, i < 16 → C' (pM b a) i = C (pM b' a) i) ∧ (∀ i, i < 20 → C' (pG b a) i = C (pG b' a) i)
theorem cl_pcopy (O : cp_ok L w h) (hNe : N = w * h) (P : cp_okP L N b) (P' : cp_okP L N b') (hb3 : 3 ≤ b) (hbb : b + 69 ≤ b' ∨ b' + 69 ≤ b) (hq : 2000 ≤ q) (h12 : C 1 2 = nI N) (hs : Src N b' C) :
    ∃ C', fn_X4_copyFrom L q b b' C = some C' ∧ (∀ p, p < b ∨ b + 69 ≤ p → C' p = C p) ∧ Cpd N b b' C C' := by
  have hN : N ≤ 100 := by rw [hNe]; exact N_le O.1
  obtain ⟨t1, q1⟩ := P.2.2.1
  obtain ⟨t2, q2⟩ := P.2.2.2.1
  obtain ⟨t3, q3⟩ := P.2.2.2.2.1
  obtain ⟨u1, v1⟩ := P'.2.2.1
  obtain ⟨u2, v2⟩ := P'.2.2.2.1
  obtain ⟨u3, v3⟩ := P'.2.2.2.2.1
  have m1 : pMk b' ≠ pGr b := by unfold pMk pGr; omega
  have m2 : pDw b' ≠ pGr b := by unfold pDw pGr; omega
  have m3 : pDw b' ≠ pMk b := by unfold pDw pMk; omega
  have c1 := cp_cp_of (D := C) v1 q1 (n := N) (by omega) (by omega) (by omega) (fun e => by omega)
  have c2 := cp_cp_of (D := cp_upA C (pGr b) (va_cpy (C (pGr b')) (C (pGr b)) 0 0 N)) v2 q2 (n := N) (by omega) (by omega) (by omega) (fun _ => by rw [cp_upA_ne m1]; exact hs.2)
  rw [cp_upA_ne m1] at c2
  have k1 : cp_upA C (pGr b) (va_cpy (C (pGr b')) (C (pGr b)) 0 0 N) 1 2 = nI N := by rw [cp_upA_ne (by unfold pGr; omega)]; exact h12
  generalize hD2 : cp_upA (cp_upA C (pGr b) (va_cpy (C (pGr b')) (C (pGr b)) 0 0 N)) (pMk b) (va_cpy (C (pMk b')) (cp_upA C (pGr b) (va_cpy (C (pGr b')) (C (pGr b)) 0 0 N) (pMk b)) 0 0 N) = D2 at c2
  have g2 : D2 (pDw b') = C (pDw b') := by rw [← hD2, cp_upA_ne m3, cp_upA_ne m2]
  have k2 : D2 1 2 = nI N := by rw [← hD2, cp_upA_ne (by unfold pMk; omega)]; exact k1
  have c3 := cp_cp_of (D := D2) v3 q3 (n := N) (by omega) (by omega) (by omega) (fun e => by omega)
  rw [g2] at c3
  generalize hD3 : cp_upA D2 (pDw b) (va_cpy (C (pDw b')) (D2 (pDw b)) 0 0 N) = D3 at c3
  have hk3 : ∀ k, k ≠ pGr b → k ≠ pMk b → k ≠ pDw b → D3 k = C k := fun k h1 h2 h3 => by rw [← hD3, cp_upA_ne h3, ← hD2, cp_upA_ne h2, cp_upA_ne h1]
  have hG3 : ∀ i, i < N → D3 (pGr b) i = C (pGr b') i := fun i hi => by rw [← hD3, cp_upA_ne (by unfold pGr pDw; omega), ← hD2, cp_upA_ne (by unfold pGr pMk; omega), cp_upA_eq, cpy0 hi]
  have hM3 : ∀ i, i < N → D3 (pMk b) i = C (pMk b') i := fun i hi => by rw [← hD3, cp_upA_ne (by unfold pMk pDw; omega), ← hD2, cp_upA_eq, cpy0 hi]
  have hW3 : ∀ i, i < N → D3 (pDw b) i = C (pDw b') i := fun i hi => by rw [← hD3, cp_upA_eq, cpy0 hi]
  clear hD2 hD3
  have oA : ∀ x, D3 (pA b' x) = C (pA b' x) ∨ 16 ≤ x := fun x => by
    by_cases hx : x < 16
    · exact Or.inl (hk3 _ (by unfold pA pGr; omega) (by unfold pA pMk; omega) (by unfold pA pDw; omega))
    · exact Or.inr (by omega)
  have eA : ∀ x, x < 16 → D3 (pA b' x) = C (pA b' x) := fun x hx => (oA x).resolve_right (by omega)
  have eR : ∀ x, x < 16 → D3 (pR b' x) = C (pR b' x) := fun x hx => hk3 _ (by unfold pR pGr; omega) (by unfold pR pMk; omega) (by unfold pR pDw; omega)
  have eM : ∀ x, x < 16 → D3 (pM b' x) = C (pM b' x) := fun x hx => hk3 _ (by unfold pM pGr; omega) (by unfold pM pMk; omega) (by unfold pM pDw; omega)
  have eG : ∀ x, x < 16 → D3 (pG b' x) = C (pG b' x) := fun x hx => hk3 _ (by unfold pG pGr; omega) (by unfold pG pMk; omega) (by unfold pG pDw; omega)
  obtain ⟨D', y1, y2, y3, y4, y5, y6, y7⟩ := cl_pcopy_L (q := q) P P' hbb 16 0 q D3 rfl (by omega) (fun x hx => by
    unfold rW
    rw [eA x hx, eR x hx, eM x hx, eG x hx]
    exact hs.1 x hx)
  refine ⟨D', ?_, fun p hp => ?_, fun c hc => ⟨?_, ?_, ?_⟩, fun j j1 j2 => ?_, fun x hx => ?_⟩
  · unfold fn_X4_copyFrom
    rw [bind_of (po_gr P'), bind_of (po_gr P), bind_of (po_sh P), bind_of (sh_gI O 2 (by decide)), h12, show (0 : Int32) = nI 0 from rfl, show cp_cp L C 0 (pGr b') (nI 0) (pGr b) (nI 0) (nI N) = _ from c1, bind_of rfl, bind_of (po_mk P'), bind_of (po_mk P), bind_of (po_sh P), bind_of (sh_gI O 2 (by decide)), k1, show cp_cp L _ 1 (pMk b') (nI 0) (pMk b) (nI 0) (nI N) = _ from c2, bind_of rfl, bind_of (po_dw P'), bind_of (po_dw P), bind_of (po_sh P), bind_of (sh_gI O 2 (by decide)), k2, show cp_cp L _ 0 (pDw b') (nI 0) (pDw b) (nI 0) (nI N) = _ from c3, bind_of rfl]
    exact y1
  · rw [y2 p hp]
    exact hk3 p (by unfold pGr; omega) (by unfold pMk; omega) (by unfold pDw; omega)
  · rw [y3]; exact hG3 c hc
  · rw [y4]; exact hM3 c hc
  · rw [y5]; exact hW3 c hc
  · rw [y6 j j1 j2, hk3 b' (by unfold pGr; omega) (by unfold pMk; omega) (by unfold pDw; omega)]
  · obtain ⟨x1, x2, x3, x4⟩ := (y7 x hx).2 (by omega)
    rw [eA x hx] at x1
    rw [eR x hx] at x2
    rw [eM x hx] at x3
    rw [eG x hx] at x4
    exact ⟨x1, x2, x3, x4⟩
theorem rel_copy {C' R' : cp_Dt} (H : Rel N b' t' B C R) (hN : N ≤ 100) (X : Cpd N b b' C C') (hR : ∀ i, i < 1232 → R' t i = R t' i) : Rel N b t B C' R' := by
  obtain ⟨h1, h2, h3, h4, h5, h6, h7⟩ := H
  obtain ⟨x1, x2, x3⟩ := X
  refine ⟨fun c hc => ?_, fun c hc => ?_, fun c hc => ?_, fun c hc => ?_, fun c hc => ?_, fun c hc => ?_, ?_, ?_⟩
  · rw [(x1 c hc).1, hR _ (by omega)]
    exact h1 c hc
  · rw [(x1 c hc).2.1, hR _ (by omega)]
    exact h2 c hc
  · obtain ⟨a1, a2, a3, a4⟩ := x3 c hc
    rw [a1 3 (by omega) (by omega)]
    rcases h3 c hc with ⟨g1, k1, k2, k3, k4, k5⟩ | ⟨g1, g2⟩
    · refine Or.inl ⟨g1, ?_, fun j j1 j2 j3 => ?_, fun i hi => ?_, fun i hi => ?_, fun i l hl hl2 hi => ?_⟩
      · rw [hR _ (by omega), a1 5 (by omega) (by omega)]
        exact k1
      · have := ro_lt j
        rw [hR _ (by omega), a1 j (by omega) j2]
        exact k2 j j1 j2 j3
      · rw [hR _ (by omega), a2 i hi]
        exact k3 i hi
      · rw [hR _ (by omega), a3 i hi]
        exact k4 i hi
      · rw [a1 9 (by omega) (by omega)] at hl
        rw [hR _ (by omega), a4 i (by omega)]
        exact k5 i l hl hl2 hi
    · refine Or.inr ⟨g1, ?_⟩
      rw [hR _ (by omega)]
      exact g2
  · obtain ⟨a1, a2, a3, a4⟩ := x3 c hc
    rw [a1 3 (by omega) (by omega)]
    intro hl
    obtain ⟨⟨c1, v1, v2, v3⟩, v4⟩ := h4 c hc hl
    refine ⟨⟨c1, v1, ?_, ?_⟩, ?_⟩
    · rw [a1 5 (by omega) (by omega)]; exact v2
    · rw [(x1 c1 v1).2.2]; exact v3
    · rw [a1 6 (by omega) (by omega), a1 7 (by omega) (by omega), a1 10 (by omega) (by omega), a1 9 (by omega) (by omega), a1 13 (by omega) (by omega)]
      exact v4
  · obtain ⟨a1, a2, a3, a4⟩ := x3 c hc
    obtain ⟨w1, w2, w3, w4⟩ := h5 c hc
    refine ⟨?_, fun i hi => ?_, fun i hi => ?_, fun i hi => ?_⟩
    · rw [a1 4 (by omega) (by omega)]; exact w1
    · rw [a2 i hi]; exact w2 i hi
    · rw [a3 i hi]; exact w3 i hi
    · rw [a4 i hi]; exact w4 i hi
  · rw [(x1 c hc).2.2]
    rcases h6 c hc with g | ⟨x, y1, y2, y3, y4⟩
    · exact Or.inl g
    · obtain ⟨a1, -⟩ := x3 x y1
      exact Or.inr ⟨x, y1, y2, by rw [a1 3 (by omega) (by omega)]; exact y3, by rw [a1 5 (by omega) (by omega)]; exact y4⟩
  · intro j j1 j2
    rw [x2 j j1 j2, hR _ (by omega)]
    exact h7.1 j j1 j2
  · rw [x2 6 (by omega) (by omega), x2 8 (by omega) (by omega)]
    exact h7.2
theorem i1232 {k : Nat} (hk : k < 1232) : ¬ (1232 : Int32) ≤ nI k := nI_ge (b := 1232) hk (by decide)
theorem re_keep_L (O : cp_ok L w h) : ∀ (m k n : Nat) (D : cp_Dt), k + m = 1232 → m < n → ∃ D', fn_X6_keep_L12 L q n 143 (nI k) D = some D' ∧ (∀ p, p ≠ 145 → D' p = D p) ∧ (∀ i, i < k → D' 145 i = D 145 i) ∧ ∀ i, k ≤ i → i < 1232 → D' 145 i = D 144 i := by
  intro m
  induction m with
  | zero =>
    intro k n D hk hn
    have : k = 1232 := by omega
    subst this
    obtain ⟨n, rfl⟩ : ∃ z, n = z + 1 := ⟨n - 1, by omega⟩
    rw [fn_X6_keep_L12, if_pos (show (1232 : Int32) ≤ nI 1232 by decide)]
    exact ⟨D, rfl, fun _ _ => rfl, fun _ _ => rfl, fun i h1 h2 => by omega⟩
  | succ m ih =>
    intro k n D hk hn
    obtain ⟨n, rfl⟩ : ∃ z, n = z + 1 := ⟨n - 1, by omega⟩
    rw [fn_X6_keep_L12, if_neg (i1232 (by omega)), bind_of (re_was O), bind_of (re_now O), bind_of (re_I O (by omega)), bind_of (re_wS O (by omega)), nI_1]
    obtain ⟨D', y1, y2, y3, y4⟩ := ih (k + 1) n (cp_up D 145 k (D 144 k)) (by omega) (by omega)
    refine ⟨D', y1, fun p hp => ?_, fun i hi => ?_, fun i h1 h2 => ?_⟩
    · rw [y2 p hp, cp_up_ne hp]
    · rw [y3 i (by omega), cp_up_eq, upd_ne (by omega)]
    · by_cases hik : i = k
      · subst hik
        rw [y3 i (by omega), cp_up_eq, upd_eq]
      · rw [y4 i (by omega) h2, cp_up_ne (by omega)]
theorem re_back_L (O : cp_ok L w h) : ∀ (m k n : Nat) (D : cp_Dt), k + m = 1232 → m < n → D 143 4 = 1 → ∃ D', fn_X6_back_L7 L q n 143 (nI k) D = some (1, D') ∧ (∀ p, p ≠ 144 → D' p = D p) ∧ (∀ i, i < k → D' 144 i = D 144 i) ∧ ∀ i, k ≤ i → i < 1232 → D' 144 i = D 145 i := by
  intro m
  induction m with
  | zero =>
    intro k n D hk hn h4
    have : k = 1232 := by omega
    subst this
    obtain ⟨n, rfl⟩ : ∃ z, n = z + 1 := ⟨n - 1, by omega⟩
    rw [fn_X6_back_L7, if_pos (show (1232 : Int32) ≤ nI 1232 by decide), bind_of (re_gI O 4 (by omega)), h4, show cp_g01 1 = some () from if_pos (Or.inr rfl), bind_of rfl]
    exact ⟨D, rfl, fun _ _ => rfl, fun _ _ => rfl, fun i h1 h2 => by omega⟩
  | succ m ih =>
    intro k n D hk hn h4
    obtain ⟨n, rfl⟩ : ∃ z, n = z + 1 := ⟨n - 1, by omega⟩
    rw [fn_X6_back_L7, if_neg (i1232 (by omega)), bind_of (re_gI O 4 (by omega)), h4, if_neg (show ¬ (1 : Int32) = 0 by decide), bind_of (re_now O), bind_of (re_was O), bind_of (re_wI O (by omega)), bind_of (re_S O (by omega)), nI_1]
    obtain ⟨D', y1, y2, y3, y4⟩ := ih (k + 1) n (cp_up D 144 k (D 145 k)) (by omega) (by omega) (by rw [cp_up_ne (by omega)]; exact h4)
    refine ⟨D', y1, fun p hp => ?_, fun i hi => ?_, fun i h1 h2 => ?_⟩
    · rw [y2 p hp, cp_up_ne hp]
    · rw [y3 i (by omega), cp_up_eq, upd_ne (by omega)]
    · by_cases hik : i = k
      · subst hik
        rw [y3 i (by omega), cp_up_eq, upd_eq]
      · rw [y4 i (by omega) h2, cp_up_ne (by omega)]
theorem sim_keep (O : cp_ok L w h) (hq : 2000 ≤ q) (T : Top w h B C R) : ∃ C' R', fn_X0_keep L q 0 C = some C' ∧ fn_X6_keep L q 143 R = some R' ∧ Both w h B C R 0 0 C' R' := by
  have hN := N_le O.1
  have P : cp_okP L (w * h) 3 := O.2.2.2.2.1
  have P2 : cp_okP L (w * h) 72 := O.2.2.2.2.2.1
  obtain ⟨⟨⟨s1, s2, s3⟩, s4, s5, s6⟩, H, h5, hk⟩ := id T
  obtain ⟨C1, c1, c2, c3⟩ := cl_pcopy (q := q) O rfl P2 P (by omega) (by omega) hq s3 H.src
  obtain ⟨R1, r1, r2, -, r4⟩ := re_keep_L (q := q) O 1232 0 q (cp_up (cp_up R 143 0 0) 143 4 1) rfl (by omega)
  have q143 : R1 143 = cp_up (cp_up R 143 0 0) 143 4 1 143 := r2 143 (by omega)
  refine ⟨cp_up C1 0 5 1, R1, ?_, ?_, ⟨⟨⟨?_, ?_, ?_⟩, fun c d hc hd => ?_, ?_, ?_⟩, ?_, ?_, Or.inr ⟨?_, ?_⟩⟩, ?_, fun k hk => ?_, fun k hk => ?_, rfl⟩
  · unfold fn_X0_keep
    rw [bind_of (top_kept O), bind_of (top_now O), bind_of (po_fl P2), bind_of c1, bind_of (cp_pZ_of (Or.inr rfl) O.2.1 rfl)]
  · unfold fn_X6_keep
    rw [bind_of (re_pI O 0 _ (by omega)), bind_of (cp_pZ_of (Or.inr rfl) (re_fl O) rfl)]
    exact r1
  · rw [cp_up_ne (by omega), c2 1 (by omega)]; exact s1
  · rw [cp_up_ne (by omega), c2 1 (by omega)]; exact s2
  · rw [cp_up_ne (by omega), c2 1 (by omega)]; exact s3
  · rw [cp_up_ne (by omega), c2 2 (by omega)]; exact s4 c d hc hd
  · rw [q143, cp_up_eq, upd_ne (by omega), cp_up_eq, upd_ne (by omega)]; exact s5
  · rw [q143, cp_up_eq, upd_ne (by omega), cp_up_eq, upd_ne (by omega)]; exact s6
  · refine rel_congr H (fun k h1 h2 => ?_) ?_
    · rw [cp_up_ne (by omega), c2 k (by omega)]
    · rw [r2 144 (by omega), cp_up_ne (by omega), cp_up_ne (by omega)]
  · rw [q143, cp_up_eq, upd_eq, cp_up_eq, upd_eq]
  · rw [cp_up_eq, upd_eq]
  · refine rel_congr (C := C1) (R := R1) (rel_copy H hN c3 (fun i hi => ?_)) (fun k h1 h2 => cp_up_ne (by omega)) rfl
    rw [r4 i (by omega) hi, cp_up_ne (by omega), cp_up_ne (by omega)]
  · rw [q143, cp_up_eq, upd_ne (by omega), cp_up_eq, upd_eq]
  · rw [cp_up_ne (by omega), c2 k (by omega)]
  · rw [r2 k (by omega), cp_up_ne (by omega), cp_up_ne (by omega)]
theorem sim_back (O : cp_ok L w h) (hq : 2000 ≤ q) (T : Top w h B C R) : ∃ z C' R', fn_X0_back L q 0 C = some (z, C') ∧ fn_X6_back L q 143 R = some (z, R') ∧ Both w h B C R 0 z C' R' := by
  have hN := N_le O.1
  have P : cp_okP L (w * h) 3 := O.2.2.2.2.1
  have P2 : cp_okP L (w * h) 72 := O.2.2.2.2.2.1
  have g5 : cp_gI L C 0 0 5 = some (C 0 5) := cp_gI_of O.2.1 rfl
  obtain ⟨⟨⟨s1, s2, s3⟩, s4, s5, s6⟩, H, h5, hk⟩ := id T
  rcases hk with hk | ⟨hk, H2⟩
  · have r4 : cp_up R 143 0 0 143 4 = 0 := by rw [cp_up_eq, upd_ne (by omega), ← h5]; exact hk
    obtain ⟨n, hn⟩ : ∃ n, q = n + 1 := ⟨q - 1, by omega⟩
    refine ⟨0, C, cp_up R 143 0 0, ?_, ?_, Both.same T⟩
    · unfold fn_X0_back
      rw [bind_of g5, if_pos hk]
    · unfold fn_X6_back
      rw [bind_of (re_pI O 0 _ (by omega))]
      conv => lhs; arg 3; rw [hn]
      rw [fn_X6_back_L7, if_neg (by decide), re_gI O 4 (by omega), r4, bind_of rfl, if_pos rfl, bind_of rfl, show cp_g01 0 = some () from if_pos (Or.inl rfl), bind_of rfl]
  · obtain ⟨C1, c1, c2, c3⟩ := cl_pcopy (q := q) O rfl P P2 (by omega) (by omega) hq s3 H2.src
    have r4 : cp_up R 143 0 0 143 4 = 1 := by rw [cp_up_eq, upd_ne (by omega), ← h5]; exact hk
    obtain ⟨R1, r1, r2, -, r5⟩ := re_back_L (q := q) O 1232 0 q (cp_up R 143 0 0) rfl (by omega) r4
    have q143 : R1 143 = cp_up R 143 0 0 143 := r2 143 (by omega)
    refine ⟨1, C1, R1, ?_, ?_, ⟨⟨⟨?_, ?_, ?_⟩, fun c d hc hd => ?_, ?_, ?_⟩, ?_, ?_, Or.inr ⟨?_, ?_⟩⟩, ?_, fun k hk => ?_, fun k hk => ?_, rfl⟩
    · unfold fn_X0_back
      rw [bind_of g5, if_neg (by rw [hk]; decide), bind_of (top_now O), bind_of (top_kept O), bind_of (po_fl P), bind_of c1]
    · unfold fn_X6_back
      rw [bind_of (re_pI O 0 _ (by omega))]
      exact r1
    · rw [c2 1 (by omega)]; exact s1
    · rw [c2 1 (by omega)]; exact s2
    · rw [c2 1 (by omega)]; exact s3
    · rw [c2 2 (by omega)]; exact s4 c d hc hd
    · rw [q143, cp_up_eq, upd_ne (by omega)]; exact s5
    · rw [q143, cp_up_eq, upd_ne (by omega)]; exact s6
    · refine rel_copy H2 hN c3 (fun i hi => ?_)
      rw [r5 i (by omega) hi, cp_up_ne (by omega)]
    · rw [c2 0 (by omega), q143, r4]; exact hk
    · rw [c2 0 (by omega)]; exact hk
    · exact rel_congr H2 (fun k h1 h2 => c2 k (by omega)) (by rw [r2 145 (by omega), cp_up_ne (by omega)])
    · rw [q143, cp_up_eq, upd_eq]
    · exact c2 k (by omega)
    · rw [r2 k (by omega), cp_up_ne (by omega)]
end KP
