/-! The whole pond and the reference, fresh -/
section EX
variable {S : cn_S} {D : cp_Dt} {B q w h : Nat} {ca : Nat → ClassId}
theorem ev_mind {b t : Nat} (hS : S.1 = b + 1) (hs : S.2 b = .inr (3, flX3)) : ∃ S', fn_X3_init B ca q b t S D = some (S', D) ∧ S'.1 = b + 1 ∧ S'.2 b = .inr (3, [some (some t)]) ∧ ∀ x, x ≠ b → S'.2 x = S.2 x := by
  obtain ⟨S1, p1, p2, p3, p4⟩ := ev_pR (S := S) (k := b) (ci := 3) (j := 0) (t := t) (fl := flX3) (by omega) hs (by decide)
  refine ⟨S1, ?_, by omega, p3, p4⟩
  unfold fn_X3_init
  rw [bind_of p1, if_pos (by omega)]
theorem ev_breed {b t : Nat} (hS : S.1 = b + 1) (hs : S.2 b = .inr (2, flX2)) : ∃ S', fn_X2_init B ca q b t S D = some (S', D) ∧ S'.1 = b + 1 ∧ S'.2 b = .inr (2, [some (some t)]) ∧ ∀ x, x ≠ b → S'.2 x = S.2 x := by
  obtain ⟨S1, p1, p2, p3, p4⟩ := ev_pR (S := S) (k := b) (ci := 2) (j := 0) (t := t) (fl := flX2) (by omega) hs (by decide)
  refine ⟨S1, ?_, by omega, p3, p4⟩
  unfold fn_X2_init
  rw [bind_of p1, if_pos (by omega)]
theorem PN.same {N b : Nat} {S' : cn_S} {D' : cp_Dt} (P : PN S N b D) (hS : ∀ k, b ≤ k → k < b + 69 → S'.2 k = S.2 k) (hD : ∀ k, b ≤ k → k < b + 69 → D' k = D k) : PN S' N b D' := by
  obtain ⟨h1, ⟨tg, h2, h3⟩, ⟨t2, h4⟩, ⟨t3, h5⟩, ⟨t4, h6⟩, h7, h8, h9⟩ := P
  refine ⟨?_, ⟨tg, ?_, h3⟩, ⟨t2, ?_⟩, ⟨t3, ?_⟩, ⟨t4, ?_⟩, fun a ha => ?_, fun j hj => ?_, fun k k1 k2 k3 => ?_⟩
  · rw [hS _ (by omega) (by omega)]; exact h1
  · rw [hS _ (by omega) (by omega)]; exact h2
  · rw [hS _ (by omega) (by omega)]; exact h4
  · rw [hS _ (by omega) (by omega)]; exact h5
  · rw [hS _ (by omega) (by omega)]; exact h6
  · unfold PA
    rw [hS (pA b a) (by unfold pA; omega) (by unfold pA; omega), hS (pR b a) (by unfold pR; omega) (by unfold pR; omega), hS (pM b a) (by unfold pM; omega) (by unfold pM; omega), hS (pG b a) (by unfold pG; omega) (by unfold pG; omega)]
    exact h7 a ha
  · rw [hD _ (by omega) (by omega)]; exact h8 j hj
  · rw [hD _ k1 k2]; exact h9 k k1 k2 k3
theorem ev_whole (hw : 3 ≤ w ∧ w ≤ 10 ∧ 3 ≤ h ∧ h ≤ 10) (hq : 2000 ≤ q) {x1 x2 : Int32} (h1 : cp_mx (3 : Int32) (cp_mn (10 : Int32) x1) = nI w) (h2 : cp_mx (3 : Int32) (cp_mn (10 : Int32) x2) = nI h) (hS : S.1 = 1) (hs : S.2 0 = .inr (0, flX0)) (hD : D 0 = fun _ => 0) :
    ∃ S' D', fn_X0_init B ca q 0 x1 x2 S D = some (S', D') ∧ S'.1 = 143 ∧ S'.2 0 = .inr (0, [some (some 1), some (some 3), some (some 72), some (some 141), some (some 142), none]) ∧ S'.2 1 = .inr (5, fl5) ∧ (∃ t, S'.2 2 = .inl (0, w * h * 4, t)) ∧ PN S' (w * h) 3 D' ∧ PN S' (w * h) 72 D' ∧ S'.2 141 = .inr (3, [some (some 3)]) ∧ S'.2 142 = .inr (2, [some (some 3)]) ∧ (D' 0 = fun _ => 0) ∧ (D' 1 0 = nI w ∧ D' 1 1 = nI h ∧ D' 1 2 = nI (w * h)) ∧ ∀ c d, c < w * h → d < 4 → D' 2 (4 * c + d) = nbv w h c d := by
  have hN := N_le hw
  obtain ⟨S1, D1, a1, a2, a3, a4, a5, a6⟩ := ev_mk (S := S) (D := D) (M := 1 + 142) (z := .inr (5, flX5)) (by omega)
  rw [hS] at a2 a3 a4 a5 a6
  obtain ⟨S2, D2, b1, b2, b3, ⟨bt, b4⟩, b5, ⟨b6, b7, b8⟩, b9, b10⟩ := ev_shape (B := B) (ca := ca) (q := q) (S := S1) (D := D1) hw hq (by omega) a3
  have s2 : S2.2 0 = .inr (0, flX0) := by rw [b5, a4 0 (by omega)]; exact hs
  obtain ⟨S4, c1, c2, c3, c4⟩ := ev_pR (S := S2) (k := 0) (ci := 0) (j := 0) (t := 1) (fl := flX0) (by omega) s2 (by decide)
  have n4 : S4.1 = 3 := by omega
  obtain ⟨S5, D5, d1, d2, d3, d4, d5, d6⟩ := ev_mk (S := S4) (D := D2) (M := 1 + 142) (z := .inr (4, flX4)) (by omega)
  rw [n4] at d2 d3 d4 d5 d6
  have s5 : S5.2 0 = .inr (0, flX0.set 0 (some (some 1))) := by rw [d4 0 (by omega)]; exact c3
  have t5 : S5.2 1 = .inr (5, fl5) := by rw [d4 1 (by omega), c4 1 (by omega)]; exact b3
  obtain ⟨S8, D8, e1, e2, e3, e4, e5⟩ := ev_pond (B := B) (ca := ca) (q := q) (S := S5) (D := D5) (b := 3) (N := w * h) hq (by omega) (by omega) (by omega) d3 d5 t5 rfl (by rw [d6 1 (by omega)]; exact b8)
  obtain ⟨S9, f1, f2, f3, f4⟩ := ev_pR (S := S8) (k := 0) (ci := 0) (j := 1) (t := 3) (by omega) ((e4 0 (by omega)).trans s5) (by simp [flX0])
  have n9 : S9.1 = 72 := by omega
  obtain ⟨S10, D10, g1, g2, g3, g4, g5, g6⟩ := ev_mk (S := S9) (D := D8) (M := 1 + 142) (z := .inr (4, flX4)) (by omega)
  rw [n9] at g2 g3 g4 g5 g6
  have s10 := (g4 0 (by omega)).trans f3
  have t10 : S10.2 1 = .inr (5, fl5) := by rw [g4 1 (by omega), f4 1 (by omega), e4 1 (by omega)]; exact t5
  obtain ⟨S13, D13, i1, i2, i3, i4, i5⟩ := ev_pond (B := B) (ca := ca) (q := q) (S := S10) (D := D10) (b := 72) (N := w * h) hq (by omega) (by omega) (by omega) g3 g5 t10 rfl (by rw [g6 1 (by omega), e5 1 (by omega), d6 1 (by omega)]; exact b8)
  obtain ⟨S14, j1, j2, j3, j4⟩ := ev_pR (S := S13) (k := 0) (ci := 0) (j := 2) (t := 72) (by omega) ((i4 0 (by omega)).trans s10) (by simp [flX0])
  have n14 : S14.1 = 141 := by omega
  obtain ⟨S15, D15, k1, k2, k3, k4, k5, k6⟩ := ev_mk (S := S14) (D := D13) (M := 1 + 142) (z := .inr (3, flX3)) (by omega)
  rw [n14] at k2 k3 k4 k5 k6
  have s15 := (k4 0 (by omega)).trans j3
  obtain ⟨S18, l1, l2, l3, l4⟩ := ev_mind (B := B) (ca := ca) (q := q) (S := S15) (D := D15) (b := 141) (t := 3) (by omega) k3
  obtain ⟨S19, m1, m2, m3, m4⟩ := ev_pR (S := S18) (k := 0) (ci := 0) (j := 3) (t := 141) (by omega) ((l4 0 (by omega)).trans s15) (by simp [flX0])
  have n19 : S19.1 = 142 := by omega
  obtain ⟨S20, D20, o1, o2, o3, o4, o5, o6⟩ := ev_mk (S := S19) (D := D15) (M := 1 + 142) (z := .inr (2, flX2)) (by omega)
  rw [n19] at o2 o3 o4 o5 o6
  have s20 := (o4 0 (by omega)).trans m3
  obtain ⟨S23, p1, p2, p3, p4⟩ := ev_breed (B := B) (ca := ca) (q := q) (S := S20) (D := D20) (b := 142) (t := 3) (by omega) o3
  obtain ⟨S24, q1, q2, q3, q4⟩ := ev_pR (S := S23) (k := 0) (ci := 0) (j := 4) (t := 142) (by omega) ((p4 0 (by omega)).trans s20) (by simp [flX0])
  have hi : ∀ k, k ≠ 0 → k < 141 → S24.2 k = S13.2 k := fun k h1 h2 => by rw [q4 k h1, p4 k (by omega), o4 k (by omega), m4 k h1, l4 k (by omega), k4 k (by omega), j4 k h1]
  have lo : ∀ k, k ≠ 0 → k < 72 → S24.2 k = S8.2 k := fun k h1 h2 => by rw [hi k h1 (by omega), i4 k h2, g4 k (by omega), f4 k h1]
  have dhi : ∀ k, k < 141 → D20 k = D13 k := fun k h1 => by rw [o6 k (by omega), k6 k (by omega)]
  have dlo : ∀ k, k < 72 → D20 k = D8 k := fun k h1 => by rw [dhi k (by omega), i5 k (by omega), g6 k (by omega)]
  have dl2 : ∀ k, k < 3 → D20 k = D2 k := fun k h1 => by rw [dlo k (by omega), e5 k (by omega), d6 k (by omega)]
  refine ⟨S24, D20, ?_, by omega, ?_, ?_, ⟨bt, ?_⟩, e3.same (fun k g1 g2 => lo k (by omega) (by omega)) (fun k g1 g2 => dlo k (by omega)), i3.same (fun k g1 g2 => hi k (by omega) (by omega)) (fun k g1 g2 => dhi k (by omega)), ?_, ?_, ?_, ?_, ?_⟩
  · unfold fn_X0_init
    rw [hS, bind_of a1]
    dsimp only
    rw [bind_of (ev_gd (by omega)), h1, h2, bind_of b1]
    dsimp only
    rw [bind_of c1, bind_of d1]
    dsimp only
    rw [bind_of (cp_gR_of (ev_fl (by omega) s5) rfl), bind_of (ev_gd (by omega)), n4, bind_of e1]
    dsimp only
    rw [bind_of f1, bind_of g1]
    dsimp only
    rw [bind_of (cp_gR_of (ev_fl (by omega) s10) rfl), bind_of (ev_gd (by omega)), n9, bind_of i1]
    dsimp only
    rw [bind_of j1, bind_of k1]
    dsimp only
    rw [bind_of (cp_gR_of (ev_fl (by omega) s15) rfl), bind_of (ev_gd (by omega)), n14, bind_of l1]
    dsimp only
    rw [bind_of m1, bind_of o1]
    dsimp only
    rw [bind_of (cp_gR_of (ev_fl (by omega) s20) rfl), bind_of (ev_gd (by omega)), n19, bind_of p1]
    dsimp only
    rw [bind_of q1, if_pos (by omega)]
  · exact q3
  · rw [lo 1 (by omega) (by omega), e4 1 (by omega)]; exact t5
  · rw [lo 2 (by omega) (by omega), e4 2 (by omega), d4 2 (by omega), c4 2 (by omega)]; exact b4
  · rw [q4 _ (by omega), p4 _ (by omega), o4 _ (by omega), m4 _ (by omega)]; exact l3
  · rw [q4 _ (by omega)]; exact p3
  · rw [dl2 0 (by omega), b10, a6 0 (by omega)]; exact hD
  · rw [dl2 1 (by omega)]; exact ⟨b6, b7, b8⟩
  · intro c d hc hd
    rw [dl2 2 (by omega)]; exact b9 c d hc hd
def fl6 : List (Option (Option Nat)) := [none, none, none, some (some 144), none, some (some 145)]
theorem ev_model_L74 {x1 x2 : Int32} (hS : S.1 = 144) {S1 : cn_S} {tg : Nat → Option Nat} (h3 : S1.1 = 146) (h4 : S1.2 143 = .inr (6, fl6)) (h5 : S1.2 144 = .inl (0, 1232, tg)) : ∀ (m i n : Nat) (D : cp_Dt), i + m = 16 → m < n →
    ∃ D', fn_X6_init_L74 B ca q S n 143 x1 x2 (nI i) S1 D = some (S1, D') ∧ (∀ k, k ≠ 144 → D' k = D k) ∧ (∀ a, i ≤ a → a < 16 → D' 144 (200 + 64 * a) = -1) ∧ ∀ j, (∀ a, i ≤ a → a < 16 → j ≠ 200 + 64 * a) → D' 144 j = D 144 j := by
  have g1 : cp_gR (cn_L B ca S1) 143 6 3 = some 144 := cp_gR_of (ev_fl (by omega) h4) rfl
  have g2 : cp_ar (cn_L B ca S1) 144 0 = some (1232, tg) := ev_ar (by omega) h5
  intro m
  induction m with
  | zero =>
    intro i n D h1 h2
    have : i = 16 := by omega
    subst this
    obtain ⟨n, rfl⟩ : ∃ z, n = z + 1 := ⟨n - 1, by omega⟩
    rw [fn_X6_init_L74, if_pos i16', if_pos (by omega)]
    exact ⟨D, rfl, fun _ _ => rfl, fun a k1 k2 => by omega, fun _ _ => rfl⟩
  | succ m ih =>
    intro i n D h1 h2
    obtain ⟨n, rfl⟩ : ∃ z, n = z + 1 := ⟨n - 1, by omega⟩
    rw [fn_X6_init_L74, if_neg (i16 (by omega)), bind_of g1, show (64 : Int32) = nI 64 from rfl, show (200 : Int32) = nI 200 from rfl, pk_mul, nI_add, bind_of (cp_aS_of g2 (by omega) (by omega)), nI_1]
    obtain ⟨D', y1, y2, y3, y4⟩ := ih (i + 1) n (cp_up D 144 (200 + 64 * i) (-1)) (by omega) (by omega)
    refine ⟨D', y1, fun k hk => ?_, fun a k1 k2 => ?_, fun j hj => ?_⟩
    · rw [y2 k hk, cp_up_ne hk]
    · by_cases hai : a = i
      · subst hai
        rw [y4 _ (fun c c1 c2 => by omega), cp_up_eq, upd_eq]
      · exact y3 a (by omega) k2
    · rw [y4 j (fun c c1 c2 => hj c (by omega) c2), cp_up_eq, upd_ne (hj i (by omega) (by omega))]
theorem ev_model (hq : 2000 ≤ q) {x1 x2 : Int32} (c1 : ((3 : Int32) ≤ x1 ∧ x1 ≤ 10 ∧ x1 = nI w) ∨ ((3 : Int32) ≤ x1 ∧ ¬ x1 ≤ 10 ∧ (10 : Int32) = nI w) ∨ (¬ (3 : Int32) ≤ x1 ∧ (3 : Int32) = nI w)) (c2 : ((3 : Int32) ≤ x2 ∧ x2 ≤ 10 ∧ x2 = nI h) ∨ ((3 : Int32) ≤ x2 ∧ ¬ x2 ≤ 10 ∧ (10 : Int32) = nI h) ∨ (¬ (3 : Int32) ≤ x2 ∧ (3 : Int32) = nI h)) (hS : S.1 = 144) (hs : S.2 143 = .inr (6, flX6)) (hD : D 143 = fun _ => 0) :
    ∃ S' D', fn_X6_init B ca q 143 x1 x2 S D = some (S', D') ∧ S'.1 = 146 ∧ S'.2 143 = .inr (6, fl6) ∧ (∃ t, S'.2 144 = .inl (0, 1232, t)) ∧ (∃ t, S'.2 145 = .inl (0, 1232, t)) ∧ (∀ k, k < 143 → S'.2 k = S.2 k) ∧ (∀ k, k < 143 → D' k = D k) ∧ D' 143 = upd (upd (fun _ => 0) 1 (nI w)) 2 (nI h) ∧ (∀ a, a < 16 → D' 144 (200 + 64 * a) = -1) ∧ ∀ j, (∀ a, a < 16 → j ≠ 200 + 64 * a) → D' 144 j = 0 := by
  obtain ⟨S1, D1, a1, a2, a3, a4, a5, a6⟩ := ev_mk (S := S) (D := D) (M := S.1 + 2) (z := .inl (0, 1232, fun _ => none)) (by omega)
  rw [hS] at a3 a4 a5 a6
  obtain ⟨S3, b1, b2, b3, b4⟩ := ev_pR (S := S1) (k := 143) (ci := 6) (j := 3) (t := S.1) (fl := flX6) (by omega) (by rw [a4 _ (by omega)]; exact hs) (by decide)
  obtain ⟨S4, D4, d1, d2, d3, d4, d5, d6⟩ := ev_mk (S := S3) (D := D1) (M := S.1 + 2) (z := .inl (0, 1232, fun _ => none)) (by omega)
  have n3 : S3.1 = 145 := by omega
  rw [n3] at d3 d4 d5 d6
  obtain ⟨S6, e1, e2, e3, e4⟩ := ev_pR (S := S4) (k := 143) (ci := 6) (j := 5) (t := S3.1) (by omega) ((d4 143 (by omega)).trans b3) (by simp [flX6])
  have s6 : S6.2 143 = .inr (6, fl6) := by rw [e3, hS, n3]; rfl
  have t6 : S6.2 144 = .inl (0, 1232, fun _ => none) := by rw [e4 _ (by omega), d4 _ (by omega), b4 _ (by omega)]; exact a3
  have u6 : S6.2 145 = .inl (0, 1232, fun _ => none) := by rw [e4 _ (by omega)]; exact d3
  have f6 : cp_fl (cn_L B ca S6) 143 6 = some fl6 := ev_fl (by omega) s6
  have x143 : D4 143 = fun _ => 0 := by rw [d6 _ (by omega), a6 _ (by omega)]; exact hD
  have x144 : D4 144 = fun _ => 0 := by rw [d6 _ (by omega)]; exact a5
  have tail : ∀ v1 v2 : Int32, v1 = nI w → v2 = nI h → ∃ S' D', fn_X6_init_L74 B ca q S q 143 x1 x2 (0 : Int32) S6 (cp_up (cp_up D4 143 1 v1) 143 2 v2) = some (S', D') ∧ S'.1 = 146 ∧ S'.2 143 = .inr (6, fl6) ∧ (∃ t, S'.2 144 = .inl (0, 1232, t)) ∧ (∃ t, S'.2 145 = .inl (0, 1232, t)) ∧ (∀ k, k < 143 → S'.2 k = S.2 k) ∧ (∀ k, k < 143 → D' k = D k) ∧ D' 143 = upd (upd (fun _ => 0) 1 (nI w)) 2 (nI h) ∧ (∀ a, a < 16 → D' 144 (200 + 64 * a) = -1) ∧ ∀ j, (∀ a, a < 16 → j ≠ 200 + 64 * a) → D' 144 j = 0 := by
    rintro v1 v2 rfl rfl
    obtain ⟨D', y1, y2, y3, y4⟩ := ev_model_L74 (B := B) (ca := ca) (q := q) (x1 := x1) (x2 := x2) hS (S1 := S6) (by omega) s6 t6 16 0 q (cp_up (cp_up D4 143 1 (nI w)) 143 2 (nI h)) rfl (by omega)
    refine ⟨S6, D', y1, by omega, s6, ⟨_, t6⟩, ⟨_, u6⟩, fun k hk => ?_, fun k hk => ?_, ?_, fun a ha => y3 a (by omega) ha, fun j hj => ?_⟩
    · rw [e4 _ (by omega), d4 _ (by omega), b4 _ (by omega), a4 _ (by omega)]
    · rw [y2 _ (by omega), cp_up_ne (by omega), cp_up_ne (by omega), d6 _ (by omega), a6 _ (by omega)]
    · rw [y2 _ (by omega), cp_up_eq, cp_up_eq, x143]
    · rw [y4 j (fun a _ ha => hj a ha), cp_up_ne (by omega), cp_up_ne (by omega), x144]
  have pI : ∀ (E : cp_Dt) (v : Int32), cp_pI (cn_L B ca S6) E 143 6 1 v = some (cp_up E 143 1 v) := fun E v => cp_pI_of f6 rfl
  have pJ : ∀ (E : cp_Dt) (v : Int32), cp_pI (cn_L B ca S6) E 143 6 2 v = some (cp_up E 143 2 v) := fun E v => cp_pI_of f6 rfl
  unfold fn_X6_init
  rw [show cn_ln (1232 : Int32) 1232 = some 1232 from rfl, bind_of rfl, bind_of a1]
  dsimp only
  rw [bind_of b1, bind_of rfl, bind_of d1]
  dsimp only
  rw [bind_of e1]
  rcases c1 with ⟨g1, g2, g3⟩ | ⟨g1, g2, g3⟩ | ⟨g1, g3⟩
  · rw [if_pos g1, if_pos g2, bind_of (pI _ _)]
    rcases c2 with ⟨k1, k2, k3⟩ | ⟨k1, k2, k3⟩ | ⟨k1, k3⟩
    · rw [if_pos k1, if_pos k2, bind_of (pJ _ _)]; exact tail _ _ g3 k3
    · rw [if_pos k1, if_neg k2, bind_of (pJ _ _)]; exact tail _ _ g3 k3
    · rw [if_neg k1, bind_of (pJ _ _)]; exact tail _ _ g3 k3
  · rw [if_pos g1, if_neg g2, bind_of (pI _ _)]
    rcases c2 with ⟨k1, k2, k3⟩ | ⟨k1, k2, k3⟩ | ⟨k1, k3⟩
    · rw [if_pos k1, if_pos k2, bind_of (pJ _ _)]; exact tail _ _ g3 k3
    · rw [if_pos k1, if_neg k2, bind_of (pJ _ _)]; exact tail _ _ g3 k3
    · rw [if_neg k1, bind_of (pJ _ _)]; exact tail _ _ g3 k3
  · rw [if_neg g1, bind_of (pI _ _)]
    rcases c2 with ⟨k1, k2, k3⟩ | ⟨k1, k2, k3⟩ | ⟨k1, k3⟩
    · rw [if_pos k1, if_pos k2, bind_of (pJ _ _)]; exact tail _ _ g3 k3
    · rw [if_pos k1, if_neg k2, bind_of (pJ _ _)]; exact tail _ _ g3 k3
    · rw [if_neg k1, bind_of (pJ _ _)]; exact tail _ _ g3 k3
theorem cl_cs (x : Int32) : ∃ n, 3 ≤ n ∧ n ≤ 10 ∧ cp_mx (3 : Int32) (cp_mn (10 : Int32) x) = nI n ∧ (((3 : Int32) ≤ x ∧ x ≤ 10 ∧ x = nI n) ∨ ((3 : Int32) ≤ x ∧ ¬ x ≤ 10 ∧ (10 : Int32) = nI n) ∨ (¬ (3 : Int32) ≤ x ∧ (3 : Int32) = nI n)) := by
  obtain ⟨n, h1, h2, h3, h4, h5, h6⟩ := cl_io x
  refine ⟨n, h1, h2, h3, ?_⟩
  by_cases a : (3 : Int32) ≤ x
  · by_cases b : x ≤ (10 : Int32)
    · exact Or.inl ⟨a, b, (h5 (Int32.not_lt.mpr b) a).symm⟩
    · refine Or.inr (Or.inl ⟨a, b, ?_⟩)
      rw [h4 (Int32.not_le.mp b)]
      rfl
  · refine Or.inr (Or.inr ⟨a, ?_⟩)
    rw [h6 a]
    rfl
theorem PN.okP {N b : Nat} (P : PN S N b D) (hb : b + 69 ≤ S.1) : cp_okP (cn_L B ca S) N b := by
  obtain ⟨h1, ⟨tg, h2, h3⟩, ⟨t2, h4⟩, ⟨t3, h5⟩, ⟨t4, h6⟩, h7, -, -⟩ := P
  refine ⟨ev_fl (by omega) h1, ⟨tg, ev_ar (by unfold pAr; omega) h2, h3⟩, ⟨t2, ev_ar (by unfold pGr; omega) h4⟩, ⟨t3, ev_ar (by unfold pMk; omega) h5⟩, ⟨t4, ev_ar (by unfold pDw; omega) h6⟩, fun a ha => ?_⟩
  obtain ⟨g1, ⟨u1, g2⟩, ⟨u2, g3⟩, ⟨u3, g4⟩⟩ := h7 a ha
  exact ⟨ev_fl (by unfold pA; omega) g1, ⟨u1, ev_ar (by unfold pR; omega) g2⟩, ⟨u2, ev_ar (by unfold pM; omega) g3⟩, ⟨u3, ev_ar (by unfold pG; omega) g4⟩⟩
theorem PN.rel {N b t : Nat} (P : PN S N b D) (hN : 0 < N ∧ N ≤ 100) (h1 : ∀ a, a < 16 → D t (200 + 64 * a) = -1) (h2 : ∀ j, (∀ a, a < 16 → j ≠ 200 + 64 * a) → D t j = 0) : Rel N b t 1000 D D := by
  obtain ⟨-, -, -, -, -, -, h8, h9⟩ := P
  have z : ∀ k j, b ≤ k → k < b + 69 → k ≠ b + 4 → D k j = 0 := fun k j g1 g2 g3 => by rw [h9 k g1 g2 g3]
  have by0 : cp_by 0 := by unfold cp_by; decide
  refine ⟨fun c hc => ⟨?_, 0, by omega, ?_⟩, fun c hc => ⟨?_, ?_⟩, fun a ha => Or.inr ⟨?_, h1 a ha⟩, fun a ha h => ?_, fun a ha => ⟨Or.inl ?_, fun i _ => ?_, fun i _ => ?_, fun i _ => ?_⟩, fun c hc => Or.inl (h8 c hc), fun j j1 j2 => ?_, ⟨0, by omega, ?_⟩, ⟨0, by omega, ?_⟩⟩
  · rw [z _ _ (by unfold pGr; omega) (by unfold pGr; omega) (by unfold pGr; omega), h2 c (fun a _ => by omega)]
  · rw [z _ _ (by unfold pGr; omega) (by unfold pGr; omega) (by unfold pGr; omega)]; rfl
  · rw [z _ _ (by unfold pMk; omega) (by unfold pMk; omega) (by unfold pMk; omega), h2 (100 + c) (fun a _ => by omega)]
  · rw [z _ _ (by unfold pMk; omega) (by unfold pMk; omega) (by unfold pMk; omega)]; exact by0
  · rw [z _ _ (by unfold pA; omega) (by unfold pA; omega) (by unfold pA; omega)]
  · rw [z _ _ (by unfold pA; omega) (by unfold pA; omega) (by unfold pA; omega)] at h
    exact absurd h (by decide)
  · rw [z _ _ (by unfold pA; omega) (by unfold pA; omega) (by unfold pA; omega)]
  · rw [z _ _ (by unfold pR; omega) (by unfold pR; omega) (by unfold pR; omega)]; exact by0
  · rw [z _ _ (by unfold pM; omega) (by unfold pM; omega) (by unfold pM; omega)]; exact by0
  · rw [z _ _ (by unfold pG; omega) (by unfold pG; omega) (by unfold pG; omega)]; exact by0
  · rw [z _ _ (by omega) (by omega) (by omega), h2 (1219 + j) (fun a _ => by omega)]
  · rw [z _ _ (by omega) (by omega) (by omega)]; rfl
  · rw [z _ _ (by omega) (by omega) (by omega)]; rfl
end EX
