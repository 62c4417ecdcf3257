/-! What the constructors make: the shape, the whole pond, the reference -/
section EW
variable {S : cn_S} {D : cp_Dt} {B q w h : Nat} {ca : Nat → ClassId}
theorem tb_of {N i : Nat} {f : Nat → Int32} (h : i < N) (hN : N < 2 ^ 31) : cp_tb N f (nI i) = some (f i) := by
  unfold cp_tb
  rw [if_neg (nI_in h hN), nI_clamp (by omega)]
theorem aL_of {L : cp_Lay} {t k n : Nat} {tg : Nat → Option Nat} (h : cp_ar L k t = some (n, tg)) : cp_aL L t k = some (nI n) := by
  unfold cp_aL
  rw [h]
  rfl
def fl5 : List (Option (Option Nat)) := [none, none, none, some (some 2)]
theorem ev_cellAt {S1 : cn_S} (hw : 3 ≤ w ∧ w ≤ 10 ∧ 3 ≤ h ∧ h ≤ 10) (h3 : S1.1 = 3) (h4 : S1.2 1 = .inr (5, fl5)) (h1 : D 1 0 = nI w) (h2 : D 1 1 = nI h) (x y : Int32) : fn_X5_cellAt (cn_L B ca S1) q 1 x y D = some (cellv w h x y, D) := by
  have g0 : cp_gI (cn_L B ca S1) D 1 5 0 = some (D 1 0) := cp_gI_of (ev_fl (by omega) h4) rfl
  have g1 : cp_gI (cn_L B ca S1) D 1 5 1 = some (D 1 1) := cp_gI_of (ev_fl (by omega) h4) rfl
  unfold fn_X5_cellAt cellv
  rw [bind_of g0, h1, bind_of (fm_eq x (n := w) (by omega) (by omega))]
  dsimp only
  rw [bind_of g1, h2, bind_of (fm_eq y (n := h) (by omega) (by omega))]
  dsimp only
  rw [bind_of g0, h1]
theorem ev_shape_L35 {x1 x2 : Int32} (hw : 3 ≤ w ∧ w ≤ 10 ∧ 3 ≤ h ∧ h ≤ 10) (hS : S.1 = 2) {S1 : cn_S} {tg : Nat → Option Nat} (h3 : S1.1 = 3) (h4 : S1.2 1 = .inr (5, fl5)) (h5 : S1.2 2 = .inl (0, w * h * 4, tg)) : ∀ (m i n : Nat) (D : cp_Dt), i + m = w * h * 4 → m < n → D 1 0 = nI w → D 1 1 = nI h →
    ∃ D', fn_X5_init_L35 B ca q S n 1 x1 x2 (nI i) S1 D = some (S1, D') ∧ (∀ k, k ≠ 2 → D' k = D k) ∧ (∀ j, j < i → D' 2 j = D 2 j) ∧ ∀ j, i ≤ j → j < w * h * 4 → D' 2 j = nbv w h (j / 4) (j % 4) := by
  have hN := N_le hw
  have g1 : cp_gR (cn_L B ca S1) 1 5 3 = some 2 := cp_gR_of (ev_fl (by omega) h4) rfl
  have g2 : cp_ar (cn_L B ca S1) 2 0 = some (w * h * 4, tg) := ev_ar (by omega) h5
  intro m
  induction m with
  | zero =>
    intro i n D h1 h2 d1 d2
    have : i = w * h * 4 := by omega
    subst this
    obtain ⟨n, rfl⟩ : ∃ z, n = z + 1 := ⟨n - 1, by omega⟩
    rw [fn_X5_init_L35, bind_of g1, bind_of (aL_of g2), if_pos (nI_le (Nat.le_refl _) (by omega)), if_pos (by omega)]
    exact ⟨D, rfl, fun _ _ => rfl, fun _ _ => rfl, fun j g1 g2 => by omega⟩
  | succ m ih =>
    intro i n D h1 h2 d1 d2
    obtain ⟨n, rfl⟩ : ∃ z, n = z + 1 := ⟨n - 1, by omega⟩
    have gw : cp_gI (cn_L B ca S1) D 1 5 0 = some (nI w) := (cp_gI_of (ev_fl (by omega) h4) rfl).trans (congrArg some d1)
    have c1 : fn_X5_columnOf (cn_L B ca S1) q 1 (nI (i / 4)) D = some (nI (i / 4) - nI (i / 4) / nI w * nI w, D) := by
      unfold fn_X5_columnOf
      rw [bind_of gw, bind_of (nz_nI (by omega) (by omega))]
    have c2 : fn_X5_rowOf (cn_L B ca S1) q 1 (nI (i / 4)) D = some (nI (i / 4) / nI w, D) := by
      unfold fn_X5_rowOf
      rw [bind_of gw, bind_of (nz_nI (by omega) (by omega))]
    have gd : cn_gd (S1.1 + 0) (S.1 + 1) = some () := ev_gd (by omega)
    have gf : cp_fl (cn_L B ca S1) 1 5 = some fl5 := ev_fl (by omega) h4
    rw [fn_X5_init_L35, bind_of g1, bind_of (aL_of g2), if_neg (nI_ge (by omega) (by omega)), bind_of g1, show (4 : Int32) = nI 4 from rfl, pk_rem (by omega) (by omega) (by omega), pk_div (by omega) (by omega) (by omega), bind_of gd, bind_of gf, bind_of c1, bind_of (tb_of (Nat.mod_lt _ (by omega)) (by omega)), bind_of gd, bind_of gf]
    dsimp only
    rw [bind_of c2, bind_of (tb_of (Nat.mod_lt _ (by omega)) (by omega)), bind_of gd, bind_of gf]
    dsimp only
    rw [bind_of (ev_cellAt hw h3 h4 d1 d2 _ _)]
    dsimp only
    rw [bind_of (cp_aS_of g2 (by omega) (by omega)), nI_1]
    obtain ⟨D', y1, y2, y3, y4⟩ := ih (i + 1) n (cp_up D 2 i (nbv w h (i / 4) (i % 4))) (by omega) (by omega) (by rw [cp_up_ne (by omega)]; exact d1) (by rw [cp_up_ne (by omega)]; exact d2)
    refine ⟨D', y1, fun k hk => ?_, fun j hj => ?_, fun j g1 g2 => ?_⟩
    · rw [y2 k hk, cp_up_ne hk]
    · rw [y3 j (by omega), cp_up_eq, upd_ne (by omega)]
    · by_cases hji : j = i
      · subst hji
        rw [y3 j (by omega), cp_up_eq, upd_eq]
      · exact y4 j (by omega) g2
theorem ev_shape (hw : 3 ≤ w ∧ w ≤ 10 ∧ 3 ≤ h ∧ h ≤ 10) (hq : 2000 ≤ q) (hS : S.1 = 2) (hs : S.2 1 = .inr (5, flX5)) : ∃ S' D', fn_X5_init B ca q 1 (nI w) (nI h) S D = some (S', D') ∧ S'.1 = 3 ∧ S'.2 1 = .inr (5, fl5) ∧ (∃ t, S'.2 2 = .inl (0, w * h * 4, t)) ∧ S'.2 0 = S.2 0 ∧ (D' 1 0 = nI w ∧ D' 1 1 = nI h ∧ D' 1 2 = nI (w * h)) ∧ (∀ c d, c < w * h → d < 4 → D' 2 (4 * c + d) = nbv w h c d) ∧ D' 0 = D 0 := by
  have hN := N_le hw
  have f0 : cp_fl (cn_L B ca S) 1 5 = some flX5 := ev_fl (by omega) hs
  obtain ⟨S1, D1, m1, m2, m3, m4, m5, m6⟩ := ev_mk (S := S) (D := cp_up (cp_up (cp_up D 1 0 (nI w)) 1 1 (nI h)) 1 2 (nI (w * h))) (M := S.1 + 1) (z := .inl (0, w * h * 4, fun _ => none)) (by omega)
  obtain ⟨S2, p1, p2, p3, p4⟩ := ev_pR (S := S1) (k := 1) (ci := 5) (j := 3) (t := S.1) (fl := flX5) (by omega) (by rw [m4 1 (by omega)]; exact hs) (by decide)
  rw [hS] at m3 m5 p3
  have e1 : D1 1 = upd (upd (upd (D 1) 0 (nI w)) 1 (nI h)) 2 (nI (w * h)) := by
    rw [m6 1 (by omega), cp_up_eq, cp_up_eq, cp_up_eq]
  obtain ⟨D', y1, y2, y3, y4⟩ := ev_shape_L35 (B := B) (ca := ca) (q := q) (S := S) (x1 := nI w) (x2 := nI h) hw hS (S1 := S2) (tg := fun _ => none) (by omega) p3 (by rw [p4 2 (by omega)]; exact m3) (w * h * 4) 0 q D1 (Nat.zero_add _) (by omega) (by rw [e1, upd_ne (by omega), upd_ne (by omega), upd_eq]) (by rw [e1, upd_ne (by omega), upd_eq])
  refine ⟨S2, D', ?_, by omega, p3, ⟨fun _ => none, by rw [p4 2 (by omega)]; exact m3⟩, by rw [p4 0 (by omega), m4 0 (by omega)], ⟨?_, ?_, ?_⟩, fun c d hc hd => ?_, ?_⟩
  · unfold fn_X5_init
    rw [pk_mul, bind_of (cp_pI_of f0 rfl), bind_of (cp_pI_of f0 rfl), bind_of (cp_pI_of f0 rfl), bind_of (cp_gI_of f0 rfl), cp_up_eq, upd_eq, show (4 : Int32) = nI 4 from rfl, pk_mul, bind_of (ev_ln (by omega) (by omega)), bind_of m1]
    dsimp only
    rw [bind_of p1]
    exact y1
  · rw [y2 1 (by omega), e1, upd_ne (by omega), upd_ne (by omega), upd_eq]
  · rw [y2 1 (by omega), e1, upd_ne (by omega), upd_eq]
  · rw [y2 1 (by omega), e1, upd_eq]
  · rw [y4 _ (by omega) (by omega), show (4 * c + d) / 4 = c by omega, show (4 * c + d) % 4 = d by omega]
  · rw [y2 0 (by omega), m6 0 (by omega), cp_up_ne (by omega), cp_up_ne (by omega), cp_up_ne (by omega)]
theorem cl_io (x : Int32) : ∃ n, 3 ≤ n ∧ n ≤ 10 ∧ cp_mx (3 : Int32) (cp_mn (10 : Int32) x) = nI n ∧ ((10 : Int32) < x → n = 10) ∧ (¬ (10 : Int32) < x → (3 : Int32) ≤ x → nI n = x) ∧ (¬ (3 : Int32) ≤ x → n = 3) := by
  unfold cp_mx cp_mn
  by_cases h1 : x < 10
  · rw [if_pos h1]
    by_cases h2 : 3 < x
    · rw [if_pos h2]
      obtain ⟨j, j1, j2⟩ := nI_of (x := x) (fun h => absurd (Int32.lt_trans h2 h) (by decide : ¬ (3 : Int32) < 0))
      subst j2
      have a1 : j < 10 := (nI_ltI j1 (by omega)).mp h1
      have a2 : 3 < j := (nI_ltI (by omega) j1).mp h2
      exact ⟨j, by omega, by omega, rfl, fun h => absurd (Int32.lt_trans h h1) (Int32.lt_irrefl), fun _ _ => rfl, fun h => absurd (Int32.le_of_lt h2) h⟩
    · rw [if_neg h2]
      refine ⟨3, by omega, by omega, rfl, fun h => absurd (Int32.lt_trans h h1) (Int32.lt_irrefl), fun _ h => ?_, fun _ => rfl⟩
      exact Int32.le_antisymm h (Int32.not_lt.mp h2)
  · rw [if_neg h1]
    refine ⟨10, by omega, by omega, if_pos (by decide), fun _ => rfl, fun h _ => ?_, fun h => ?_⟩
    · exact Int32.le_antisymm (Int32.not_lt.mp h1) (Int32.not_lt.mp h)
    · exact absurd (Int32.le_trans (by decide : (3 : Int32) ≤ 10) (Int32.not_lt.mp h1)) h
end EW
