/-! The law's calls: class and reference agree -/
def Kd (P : Nat → Prop) (x : Option (Nat × cp_Dt)) : Prop := ∀ t, x = some t → P t.1
section KD
variable {P : Nat → Prop}
theorem Kd_none : Kd P none := fun t h => by cases h
theorem Kd_some {k : Nat} {D : cp_Dt} (h : P k) : Kd P (some (k, D)) := fun t e => by cases e; exact h
theorem Kd_ite {c : Prop} [Decidable c] {a b : Option (Nat × cp_Dt)} (h1 : Kd P a) (h2 : Kd P b) : Kd P (if c then a else b) := by
  by_cases h : c
  · rw [if_pos h]; exact h1
  · rw [if_neg h]; exact h2
theorem Kd_bind {α : Type} {x : Option α} {f : α → Option (Nat × cp_Dt)} (h : ∀ v, Kd P (f v)) : Kd P (x.bind f) := by
  cases x with
  | none => exact Kd_none
  | some v => exact h v
end KD
section KT
variable {L : cp_Lay} {q k : Nat} {D D' : cp_Dt}
theorem kd_animal {x1 x2 x3 x4 : Int32} : Kd (fun k => k = 1 ∨ k = 2) (tx_X0_animal L q 0 x1 x2 x3 x4 D) := by
  unfold tx_X0_animal
  repeat first | exact Kd_none | exact Kd_some (Or.inl rfl) | exact Kd_some (Or.inr rfl) | (refine Kd_bind (fun _ => ?_)) | (refine Kd_ite ?_ ?_)
theorem kd_code {x1 x2 : Int32} {x3 : Int64} : Kd (fun k => k = 1 ∨ k = 2) (tx_X0_code L q 0 x1 x2 x3 D) := by
  unfold tx_X0_code
  repeat first | exact Kd_none | exact Kd_some (Or.inl rfl) | exact Kd_some (Or.inr rfl) | (refine Kd_bind (fun _ => ?_)) | (refine Kd_ite ?_ ?_)
theorem kd_tick {x1 : Int32} : Kd (fun k => k = 1) (tx_X0_tick L q 0 x1 D) := by
  unfold tx_X0_tick
  repeat first | exact Kd_none | exact Kd_some rfl | (refine Kd_bind (fun _ => ?_)) | (refine Kd_ite ?_ ?_)
theorem kd_inner {x1 x2 x3 : Int32} : Kd (fun k => k = 3) (tx_X0_inner L q 0 x1 x2 x3 D) := by
  unfold tx_X0_inner
  repeat first | exact Kd_none | exact Kd_some rfl | (refine Kd_bind (fun _ => ?_)) | (refine Kd_ite ?_ ?_)
theorem kd_differ : Kd (fun k => k = 2) (tx_X0_differ L q 0 D) := by
  unfold tx_X0_differ
  repeat first | exact Kd_none | exact Kd_some rfl | (refine Kd_bind (fun _ => ?_)) | (refine Kd_ite ?_ ?_)
end KT
section LT
variable {L : cp_Lay} {w h B B' q N i : Nat} {D : cp_Dt} {xs : Nat → Int32}
theorem lt_f0 (O : cp_ok L w h) : cp_fl L 0 0 = some [some (some 1), some (some 3), some (some 72), some (some 141), some (some 142), none] := O.2.1
theorem lt_f6 (O : cp_ok L w h) : cp_fl L 143 6 = some [none, none, none, some (some 144), none, some (some 145)] := O.2.2.2.2.2.2.2.2.1
theorem lt_rd {j : Nat} (hi : i + 4 < N) (hN : N ≤ 2562) (hj : j ≤ 4) : cp_tb N xs (nI i + nI j) = some (xs (i + j)) := by
  rw [nI_add]
  exact tb_of (by omega) (by omega)
theorem lw_two {f g : cp_Dt → Option (Int32 × cp_Dt)} (hp : ∀ C R, Top w h B C R → ∃ z C' R', f C = some (z, C') ∧ g R = some (z, R') ∧ Both w h B' C R 0 z C' R') (T : Top w h B D D) :
    ∃ z C' D2, f D = some (z, C') ∧ g C' = some (z, D2) ∧ Top w h B' D2 D2 := by
  obtain ⟨z, C', h1, h2, h3⟩ := comb hp T
  obtain ⟨D2, g1, g2, -, -⟩ := h3 C' (fun _ _ => rfl) (fun k a _ => h2 k a)
  exact ⟨z, C', D2, h1, g1, g2⟩
theorem lw_try (O : cp_ok L w h) {f g : cp_Dt → Option (Int32 × cp_Dt)} {tx : cp_Dt → Option (Nat × cp_Dt)} {th : Nat → Int32} {CO : Nat × cp_Dt → Option (Int32 × cp_Dt)} (hp : ∀ C R, Top w h B C R → Thr w h B' f tx g th C R) (hc : ∀ k, tx D = some (k, D) → CO (k, D) = some (th k, D) ∧ th k ≠ 0) (T : Top w h B D D) :
    ∃ (y : Int32 × cp_Dt) (y2 : Int32) (D2 : cp_Dt), (match tx D with
      | some t => (cp_fl L 0 0).bind fun _ => CO t
      | none => (cp_fl L 0 0).bind fun _ => (f D).bind fun y2 => (cp_aS L y2.2 3 146 (0 : Int32) y2.1).bind fun D3 => some ((0 : Int32), D3)) = some y ∧ g y.2 = some (y2, D2) ∧ Top w h B' D2 D2 ∧ fn_X6_thrown L q 143 D2 = some (y.1, D2) ∧ (y.1 = 0 → cp_aI L D2 3 146 (0 : Int32) = some y2) := by
  have ht : ∀ E : cp_Dt, fn_X6_thrown L q 143 E = some (E 143 0, E) := fun E => by
    unfold fn_X6_thrown
    rw [bind_of (cp_gI_of (lt_f6 O) rfl)]
  obtain ⟨t, ha⟩ := O.2.2.2.2.2.2.2.2.2.2.2
  rcases hp D D T with ⟨h0, z, C', R', h1, h2, h3⟩ | ⟨k, y, R', h1, h2, h3, h4, -, h6, -⟩
  · have hs : cp_aS L C' 3 146 (0 : Int32) z = some (cp_up C' 146 0 z) := cp_aS_of (i := 0) ha (by omega) (by omega)
    rcases hp D (cp_up C' 146 0 z) (T.congr (fun _ _ => rfl) (fun k a1 a2 => by rw [cp_up_ne (by omega)]; exact h3.2.2.1 k a1)) with ⟨-, z2, C2, R2, g1, g2, g3, g4, -, g6, -⟩ | ⟨k, y, R2, g1, -⟩
    · rw [h1] at g1
      cases g1
      refine ⟨(0, cp_up C' 146 0 z), z, R2, ?_, g2, g3.congr (fun k hk => by rw [g6 k (Or.inl hk), cp_up_ne (by omega)]) (fun _ _ _ => rfl), ?_, fun _ => ?_⟩
      · rw [h0]
        dsimp only
        rw [bind_of (lt_f0 O), bind_of h1]
        dsimp only
        rw [bind_of hs]
      · rw [ht, g4]
      · refine (cp_aI_of (i := 0) ha (by omega) (by omega)).trans ?_
        rw [g6 146 (Or.inr (by omega)), cp_up_eq, upd_eq]
    · rw [h0] at g1
      cases g1
  · obtain ⟨c1, c2⟩ := hc k h1
    refine ⟨(th k, D), y, R', ?_, h2, h3.congr (fun k hk => h6 k (Or.inl hk)) (fun _ _ _ => rfl), ?_, fun h => absurd h c2⟩
    · rw [h1]
      dsimp only
      rw [bind_of (lt_f0 O), c1]
    · rw [ht, h4]
theorem lw_tl (O : cp_ok L w h) {g : cp_Dt → Option (Int32 × cp_Dt)} {y : Int32 × cp_Dt} {y2 : Int32} {D2 : cp_Dt} (h2 : g y.2 = some (y2, D2)) (h3 : fn_X6_thrown L q 143 D2 = some (y.1, D2)) (h4 : y.1 = 0 → cp_aI L D2 3 146 (0 : Int32) = some y2) :
    ((cp_fl L 143 6).bind fun _ => (g y.2).bind fun y11 => (cp_fl L 143 6).bind fun _ => (fn_X6_thrown L q 143 y11.2).bind fun y13 => if y13.1 = y.1 then (if y.1 = 0 then ((cp_aI L y13.2 3 146 (0 : Int32)).bind fun v16 => if v16 = y11.1 then (some y13.2) else none) else (some y13.2)) else (none)) = some D2 := by
  rw [bind_of (lt_f6 O), bind_of h2]
  dsimp only
  rw [bind_of (lt_f6 O), bind_of h3]
  dsimp only
  rw [if_pos rfl]
  by_cases h0 : y.1 = 0
  · rw [if_pos h0, bind_of (h4 h0), if_pos rfl]
  · rw [if_neg h0]
theorem lo_0 (O : cp_ok L w h) (hq : 2000 ≤ q) (hB : 1000 ≤ B) (hB2 : B + 51500 < 2 ^ 29) (T : Top w h B D D) (hi : i + 4 < N) (hN : N ≤ 2562) : ∃ D', lc_0 L q N xs (nI i) D = some D' ∧ Top w h (B + 51500) D' D' := by
  obtain ⟨z, C', D2, h1, h2, h3⟩ := lw_two (fun C R T => sim_set (q := q) O T (xs (i + 1)) (xs (i + 2))) T
  refine ⟨D2, ?_, h3.more (by omega)⟩
  have r1 : cp_tb N xs (nI i + (1 : Int32)) = some (xs (i + 1)) := lt_rd (j := 1) hi hN (by omega)
  have r2 : cp_tb N xs (nI i + (2 : Int32)) = some (xs (i + 2)) := lt_rd (j := 2) hi hN (by omega)
  unfold lc_0
  rw [bind_of r1, bind_of r2, bind_of (lt_f0 O), bind_of h1, bind_of r1, bind_of r2, bind_of (lt_f6 O)]
  dsimp only
  rw [bind_of h2]
  dsimp only
  rw [if_pos rfl]
theorem lo_1 (O : cp_ok L w h) (hq : 2000 ≤ q) (hB : 1000 ≤ B) (hB2 : B + 51500 < 2 ^ 29) (T : Top w h B D D) (hi : i + 4 < N) (hN : N ≤ 2562) : ∃ D', lc_1 L q N xs (nI i) D = some D' ∧ Top w h (B + 51500) D' D' := by
  obtain ⟨z, C', D2, h1, h2, h3⟩ := lw_two (fun C R T => sim_store (q := q) O T (xs (i + 1))) T
  refine ⟨D2, ?_, h3.more (by omega)⟩
  have r1 : cp_tb N xs (nI i + (1 : Int32)) = some (xs (i + 1)) := lt_rd (j := 1) hi hN (by omega)
  unfold lc_1
  rw [bind_of r1, bind_of (lt_f0 O), bind_of h1, bind_of r1, bind_of (lt_f6 O)]
  dsimp only
  rw [bind_of h2]
  dsimp only
  rw [if_pos rfl]
theorem lo_2 (O : cp_ok L w h) (hq : 2000 ≤ q) (hB : 1000 ≤ B) (hB2 : B + 51500 < 2 ^ 29) (T : Top w h B D D) (hi : i + 4 < N) (hN : N ≤ 2562) : ∃ D', lc_2 L q N xs (nI i) D = some D' ∧ Top w h (B + 51500) D' D' := by
  obtain ⟨z, C', D2, h1, h2, h3⟩ := lw_two (fun C R T => sim_grain (q := q) O T (xs (i + 1)) (xs (i + 2)) (xs (i + 3))) T
  refine ⟨D2, ?_, h3.more (by omega)⟩
  have r1 : cp_tb N xs (nI i + (1 : Int32)) = some (xs (i + 1)) := lt_rd (j := 1) hi hN (by omega)
  have r2 : cp_tb N xs (nI i + (2 : Int32)) = some (xs (i + 2)) := lt_rd (j := 2) hi hN (by omega)
  have r3 : cp_tb N xs (nI i + (3 : Int32)) = some (xs (i + 3)) := lt_rd (j := 3) hi hN (by omega)
  unfold lc_2
  rw [bind_of r1, bind_of r2, bind_of r3, bind_of (lt_f0 O), bind_of h1, bind_of r1, bind_of r2, bind_of r3, bind_of (lt_f6 O)]
  dsimp only
  rw [bind_of h2]
  dsimp only
  rw [if_pos rfl]
theorem lo_3 (O : cp_ok L w h) (hq : 2000 ≤ q) (hB : 1000 ≤ B) (hB2 : B + 51500 < 2 ^ 29) (T : Top w h B D D) (hi : i + 4 < N) (hN : N ≤ 2562) : ∃ D', lc_3 L q N xs (nI i) D = some D' ∧ Top w h (B + 51500) D' D' := by
  obtain ⟨y, y2, D2, h1, h2, h3, h4, h5⟩ := lw_try (q := q) (CO := fun t => if t.1 = 1 then some (1, t.2) else if t.1 = 2 then some (2, t.2) else none) O (fun C R T => thr_animal (q := q) O hq hB T (xs (i + 1)) (xs (i + 2)) (xs (i + 3)) (xs (i + 4))) (fun k hk => by
    rcases kd_animal _ hk with rfl | rfl
    · exact ⟨rfl, by decide⟩
    · exact ⟨rfl, by decide⟩) T
  refine ⟨D2, ?_, h3.more (by omega)⟩
  have r1 : cp_tb N xs (nI i + (1 : Int32)) = some (xs (i + 1)) := lt_rd (j := 1) hi hN (by omega)
  have r2 : cp_tb N xs (nI i + (2 : Int32)) = some (xs (i + 2)) := lt_rd (j := 2) hi hN (by omega)
  have r3 : cp_tb N xs (nI i + (3 : Int32)) = some (xs (i + 3)) := lt_rd (j := 3) hi hN (by omega)
  have r4 : cp_tb N xs (nI i + (4 : Int32)) = some (xs (i + 4)) := lt_rd (j := 4) hi hN (by omega)
  have hh : hx_L_animal L q 0 (xs (i + 1)) (xs (i + 2)) (xs (i + 3)) (xs (i + 4)) 146 D = some y := h1
  unfold lc_3
  rw [bind_of r1, bind_of r2, bind_of r3, bind_of r4, bind_of hh, bind_of r1, bind_of r2, bind_of r3, bind_of r4]
  exact lw_tl O h2 h4 h5
theorem lo_4 (O : cp_ok L w h) (hq : 2000 ≤ q) (hB : 1000 ≤ B) (hB2 : B + 51500 < 2 ^ 29) (T : Top w h B D D) (hi : i + 4 < N) (hN : N ≤ 2562) : ∃ D', lc_4 L q N xs (nI i) D = some D' ∧ Top w h (B + 51500) D' D' := by
  obtain ⟨y, y2, D2, h1, h2, h3, h4, h5⟩ := lw_try (q := q) (CO := fun t => if t.1 = 1 then some (1, t.2) else if t.1 = 2 then some (2, t.2) else none) O (fun C R T => thr_code (q := q) O hq T (xs (i + 1)) (xs (i + 2)) (((xs (i + 3)).toInt64 <<< ((32 : Int32).toInt64 &&& 63)) ||| ((xs (i + 4)).toInt64 &&& (4294967295 : Int64)))) (fun k hk => by
    rcases kd_code _ hk with rfl | rfl
    · exact ⟨rfl, by decide⟩
    · exact ⟨rfl, by decide⟩) T
  refine ⟨D2, ?_, h3.more (by omega)⟩
  have r1 : cp_tb N xs (nI i + (1 : Int32)) = some (xs (i + 1)) := lt_rd (j := 1) hi hN (by omega)
  have r2 : cp_tb N xs (nI i + (2 : Int32)) = some (xs (i + 2)) := lt_rd (j := 2) hi hN (by omega)
  have r3 : cp_tb N xs (nI i + (3 : Int32)) = some (xs (i + 3)) := lt_rd (j := 3) hi hN (by omega)
  have r4 : cp_tb N xs (nI i + (4 : Int32)) = some (xs (i + 4)) := lt_rd (j := 4) hi hN (by omega)
  have hh : hx_L_code L q 0 (xs (i + 1)) (xs (i + 2)) (((xs (i + 3)).toInt64 <<< ((32 : Int32).toInt64 &&& 63)) ||| ((xs (i + 4)).toInt64 &&& (4294967295 : Int64))) 146 D = some y := h1
  unfold lc_4
  rw [bind_of r1, bind_of r2, bind_of r3, bind_of r4, bind_of hh, bind_of r1, bind_of r2, bind_of r3, bind_of r4]
  exact lw_tl O h2 h4 h5
theorem lo_5 (O : cp_ok L w h) (hq : 2000 ≤ q) (hB : 1000 ≤ B) (hB2 : B + 51500 < 2 ^ 29) (T : Top w h B D D) (hi : i + 4 < N) (hN : N ≤ 2562) : ∃ D', lc_5 L q N xs (nI i) D = some D' ∧ Top w h (B + 51500) D' D' := by
  obtain ⟨y, y2, D2, h1, h2, h3, h4, h5⟩ := lw_try (q := q) (CO := fun t => if t.1 = 1 then some (1, t.2) else none) O (fun C R T => thr_tick (q := q) O hq hB2 T (xs (i + 1))) (fun k hk => by
    rcases kd_tick _ hk with rfl
    exact ⟨rfl, by decide⟩) T
  refine ⟨D2, ?_, h3⟩
  have r1 : cp_tb N xs (nI i + (1 : Int32)) = some (xs (i + 1)) := lt_rd (j := 1) hi hN (by omega)
  have hh : hx_L_tick L q 0 (xs (i + 1)) 146 D = some y := h1
  unfold lc_5
  rw [bind_of r1, bind_of hh, bind_of r1]
  exact lw_tl O h2 h4 h5
theorem lo_6 (O : cp_ok L w h) (hq : 2000 ≤ q) (hB : 1000 ≤ B) (hB2 : B + 51500 < 2 ^ 29) (T : Top w h B D D) (hi : i + 4 < N) (hN : N ≤ 2562) : ∃ D', lc_6 L q N xs (nI i) D = some D' ∧ Top w h (B + 51500) D' D' := by
  obtain ⟨z, C', D2, h1, h2, h3⟩ := lw_two (fun C R T => sim_cell (q := q) O hq T (xs (i + 1)) (xs (i + 2)) (xs (i + 3))) T
  refine ⟨D2, ?_, h3.more (by omega)⟩
  have r1 : cp_tb N xs (nI i + (1 : Int32)) = some (xs (i + 1)) := lt_rd (j := 1) hi hN (by omega)
  have r2 : cp_tb N xs (nI i + (2 : Int32)) = some (xs (i + 2)) := lt_rd (j := 2) hi hN (by omega)
  have r3 : cp_tb N xs (nI i + (3 : Int32)) = some (xs (i + 3)) := lt_rd (j := 3) hi hN (by omega)
  unfold lc_6
  rw [bind_of r1, bind_of r2, bind_of r3, bind_of (lt_f0 O), bind_of h1, bind_of r1, bind_of r2, bind_of r3, bind_of (lt_f6 O)]
  dsimp only
  rw [bind_of h2]
  dsimp only
  rw [if_pos rfl]
theorem lo_7 (O : cp_ok L w h) (hq : 2000 ≤ q) (hB : 1000 ≤ B) (hB2 : B + 51500 < 2 ^ 29) (T : Top w h B D D) (hi : i + 4 < N) (hN : N ≤ 2562) : ∃ D', lc_7 L q N xs (nI i) D = some D' ∧ Top w h (B + 51500) D' D' := by
  obtain ⟨z, C', D2, h1, h2, h3⟩ := lw_two (fun C R T => sim_field (q := q) O T (xs (i + 1)) (xs (i + 2))) T
  refine ⟨D2, ?_, h3.more (by omega)⟩
  have r1 : cp_tb N xs (nI i + (1 : Int32)) = some (xs (i + 1)) := lt_rd (j := 1) hi hN (by omega)
  have r2 : cp_tb N xs (nI i + (2 : Int32)) = some (xs (i + 2)) := lt_rd (j := 2) hi hN (by omega)
  unfold lc_7
  rw [bind_of r1, bind_of r2, bind_of (lt_f0 O), bind_of h1, bind_of r1, bind_of r2, bind_of (lt_f6 O)]
  dsimp only
  rw [bind_of h2]
  dsimp only
  rw [if_pos rfl]
theorem lo_8 (O : cp_ok L w h) (hq : 2000 ≤ q) (hB : 1000 ≤ B) (hB2 : B + 51500 < 2 ^ 29) (T : Top w h B D D) (hi : i + 4 < N) (hN : N ≤ 2562) : ∃ D', lc_8 L q N xs (nI i) D = some D' ∧ Top w h (B + 51500) D' D' := by
  have r1 : cp_tb N xs (nI i + (1 : Int32)) = some (xs (i + 1)) := lt_rd (j := 1) hi hN (by omega)
  have r2 : cp_tb N xs (nI i + (2 : Int32)) = some (xs (i + 2)) := lt_rd (j := 2) hi hN (by omega)
  have r3 : cp_tb N xs (nI i + (3 : Int32)) = some (xs (i + 3)) := lt_rd (j := 3) hi hN (by omega)
  have K : ∀ x : Int32, ∃ (y : Int32 × cp_Dt) (y2 : Int32) (D2 : cp_Dt), hx_L_inner L q 0 (xs (i + 1)) x (xs (i + 3)) 146 D = some y ∧ fn_X6_inner L q 143 (xs (i + 1)) x (xs (i + 3)) y.2 = some (y2, D2) ∧ Top w h B D2 D2 ∧ fn_X6_thrown L q 143 D2 = some (y.1, D2) ∧ (y.1 = 0 → cp_aI L D2 3 146 (0 : Int32) = some y2) := fun x => by
    obtain ⟨y, y2, D2, h1, h2, h3, h4, h5⟩ := lw_try (q := q) (CO := fun t => if t.1 = 3 then some (1, t.2) else none) O (fun C R T => thr_inner (q := q) O T (xs (i + 1)) x (xs (i + 3))) (fun k hk => by
      rcases kd_inner _ hk with rfl
      exact ⟨rfl, by decide⟩) T
    exact ⟨y, y2, D2, h1, h2, h3, h4, h5⟩
  unfold lc_8
  rw [bind_of r1, bind_of r2]
  by_cases h0 : xs (i + 2) = 0
  · obtain ⟨y, y2, D2, h1, h2, h3, h4, h5⟩ := K 0
    refine ⟨D2, ?_, h3.more (by omega)⟩
    rw [if_pos h0, bind_of r3, bind_of h1, bind_of r1, bind_of r2, if_pos h0, bind_of r3]
    exact lw_tl O h2 h4 h5
  · obtain ⟨y, y2, D2, h1, h2, h3, h4, h5⟩ := K 1
    refine ⟨D2, ?_, h3.more (by omega)⟩
    rw [if_neg h0, bind_of r3, bind_of h1, bind_of r1, bind_of r2, if_neg h0, bind_of r3]
    exact lw_tl O h2 h4 h5
theorem lo_9 (O : cp_ok L w h) (hq : 2000 ≤ q) (hB : 1000 ≤ B) (hB2 : B + 51500 < 2 ^ 29) (T : Top w h B D D) (hi : i + 4 < N) (hN : N ≤ 2562) : ∃ D', lc_9 L q N xs (nI i) D = some D' ∧ Top w h (B + 51500) D' D' := by
  obtain ⟨z, C', D2, h1, h2, h3⟩ := lw_two (fun C R T => sim_total (q := q) O hq T (xs (i + 1))) T
  refine ⟨D2, ?_, h3.more (by omega)⟩
  have r1 : cp_tb N xs (nI i + (1 : Int32)) = some (xs (i + 1)) := lt_rd (j := 1) hi hN (by omega)
  unfold lc_9
  rw [bind_of r1, bind_of (lt_f0 O), bind_of h1, bind_of r1, bind_of (lt_f6 O)]
  dsimp only
  rw [bind_of h2]
  dsimp only
  rw [if_pos rfl]
theorem lo_10 (O : cp_ok L w h) (hq : 2000 ≤ q) (hB : 1000 ≤ B) (hB2 : B + 51500 < 2 ^ 29) (T : Top w h B D D) (hi : i + 4 < N) (hN : N ≤ 2562) : ∃ D', lc_10 L q N xs (nI i) D = some D' ∧ Top w h (B + 51500) D' D' := by
  obtain ⟨C', D2, h1, h2, h3, -⟩ := combV (fun C R T => sim_keep (q := q) O hq T) T
  refine ⟨D2, ?_, h3.more (by omega)⟩
  unfold lc_10
  rw [bind_of (lt_f0 O), bind_of h1, bind_of (lt_f6 O), bind_of h2]
theorem lo_11 (O : cp_ok L w h) (hq : 2000 ≤ q) (hB : 1000 ≤ B) (hB2 : B + 51500 < 2 ^ 29) (T : Top w h B D D) (hi : i + 4 < N) (hN : N ≤ 2562) : ∃ D', lc_11 L q N xs (nI i) D = some D' ∧ Top w h (B + 51500) D' D' := by
  obtain ⟨y, y2, D2, h1, h2, h3, h4, h5⟩ := lw_try (q := q) (CO := fun t => if t.1 = 2 then some (1, t.2) else none) O (fun C R T => thr_differ (q := q) O hq T) (fun k hk => by
    rcases kd_differ _ hk with rfl
    exact ⟨rfl, by decide⟩) T
  refine ⟨D2, ?_, h3.more (by omega)⟩
  have hh : hx_L_differ L q 0 146 D = some y := h1
  unfold lc_11
  rw [bind_of hh]
  exact lw_tl O h2 h4 h5
theorem lo_12 (O : cp_ok L w h) (hq : 2000 ≤ q) (hB : 1000 ≤ B) (hB2 : B + 51500 < 2 ^ 29) (T : Top w h B D D) (hi : i + 4 < N) (hN : N ≤ 2562) : ∃ D', lc_12 L q N xs (nI i) D = some D' ∧ Top w h (B + 51500) D' D' := by
  obtain ⟨z, C', D2, h1, h2, h3⟩ := lw_two (fun C R T => sim_back (q := q) O hq T) T
  refine ⟨D2, ?_, h3.more (by omega)⟩
  unfold lc_12
  rw [bind_of (lt_f0 O), bind_of h1, bind_of (lt_f6 O)]
  dsimp only
  rw [bind_of h2]
  dsimp only
  rw [if_pos rfl]
theorem lo_turn (O : cp_ok L w h) (hq : 2000 ≤ q) (hB : 1000 ≤ B) (hB2 : B + 51500 < 2 ^ 29) (T : Top w h B D D) (hi : i + 4 < N) (hN : N ≤ 2562) : ∃ D', lc_turn L q N xs (nI i) D = some D' ∧ Top w h (B + 51500) D' D' := by
  have r0 : cp_tb N xs (nI i) = some (xs i) := tb_of (by omega) (by omega)
  unfold lc_turn
  rw [bind_of r0]
  generalize xs i &&& 15 = v
  by_cases c0 : v = 0
  · rw [if_pos c0]; exact lo_0 O hq hB hB2 T hi hN
  rw [if_neg c0]
  by_cases c1 : v = 1
  · rw [if_pos c1]; exact lo_1 O hq hB hB2 T hi hN
  rw [if_neg c1]
  by_cases c2 : v = 2
  · rw [if_pos c2]; exact lo_2 O hq hB hB2 T hi hN
  rw [if_neg c2]
  by_cases c3 : v = 3
  · rw [if_pos c3]; exact lo_3 O hq hB hB2 T hi hN
  rw [if_neg c3]
  by_cases c4 : v = 4
  · rw [if_pos c4]; exact lo_4 O hq hB hB2 T hi hN
  rw [if_neg c4]
  by_cases c5 : v = 5
  · rw [if_pos c5]; exact lo_5 O hq hB hB2 T hi hN
  rw [if_neg c5]
  by_cases c6 : v = 6
  · rw [if_pos c6]; exact lo_6 O hq hB hB2 T hi hN
  rw [if_neg c6]
  by_cases c7 : v = 7
  · rw [if_pos c7]; exact lo_7 O hq hB hB2 T hi hN
  rw [if_neg c7]
  by_cases c8 : v = 8
  · rw [if_pos c8]; exact lo_8 O hq hB hB2 T hi hN
  rw [if_neg c8]
  by_cases c9 : v = 9
  · rw [if_pos c9]; exact lo_9 O hq hB hB2 T hi hN
  rw [if_neg c9]
  by_cases c10 : v = 10
  · rw [if_pos c10]; exact lo_10 O hq hB hB2 T hi hN
  rw [if_neg c10]
  by_cases c11 : v = 11
  · rw [if_pos c11]; exact lo_11 O hq hB hB2 T hi hN
  rw [if_neg c11]
  by_cases c12 : v = 12
  · rw [if_pos c12]; exact lo_12 O hq hB hB2 T hi hN
  rw [if_neg c12]
  exact ⟨D, rfl, T.more (by omega)⟩
end LT
