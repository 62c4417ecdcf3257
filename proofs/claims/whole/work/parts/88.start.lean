/-! What the constructors make -/
section EV
variable {S : cn_S} {D : cp_Dt} {B q b : Nat} {ca : Nat → ClassId}
theorem ev_mk {M : Nat} {z : cp_Sh} (h : S.1 + 1 ≤ M) : ∃ S' D', cn_mk M S D z = some (S', D') ∧ S'.1 = S.1 + 1 ∧ S'.2 S.1 = z ∧ (∀ k, k ≠ S.1 → S'.2 k = S.2 k) ∧ D' S.1 = (fun _ => 0) ∧ ∀ k, k ≠ S.1 → D' k = D k := by
  refine ⟨cn_nw S z, cn_z D S.1, if_pos h, rfl, if_pos rfl, fun k hk => if_neg hk, cp_upA_eq, fun k hk => cp_upA_ne hk⟩
theorem ev_pR {k ci j t : Nat} {fl : List (Option (Option Nat))} (hk : k < S.1) (hs : S.2 k = .inr (ci, fl)) (hj : j < fl.length) : ∃ S', cn_pR S k ci j t = some S' ∧ S'.1 = S.1 ∧ S'.2 k = .inr (ci, fl.set j (some (some t))) ∧ ∀ x, x ≠ k → S'.2 x = S.2 x := by
  refine ⟨(S.1, va_up S.2 k (.inr (ci, fl.set j (some (some t))))), ?_, rfl, if_pos rfl, fun x hx => if_neg hx⟩
  unfold cn_pR
  rw [if_pos hk, hs]
  exact if_pos ⟨rfl, hj⟩
theorem ev_aR {k t i n : Nat} {tg : Nat → Option Nat} {fl : List (Option (Option Nat))} (hk : k < S.1) (ht : t < S.1) (hs : S.2 k = .inl (2, n, tg)) (hs2 : S.2 t = .inr (1, fl)) (hi : i < n) (hn : n < 2 ^ 31) : ∃ S', cn_aR S k (nI i) t = some S' ∧ S'.1 = S.1 ∧ S'.2 k = .inl (2, n, va_up tg i (some t)) ∧ ∀ x, x ≠ k → S'.2 x = S.2 x := by
  refine ⟨(S.1, va_up S.2 k (.inl (2, n, va_up tg i (some t)))), ?_, rfl, if_pos rfl, fun x hx => if_neg hx⟩
  unfold cn_aR
  rw [if_pos ⟨hk, ht⟩, hs, hs2]
  show (if 2 = 2 ∧ 1 = 1 ∧ ¬ (nI i < 0 ∨ n ≤ (nI i).toNatClampNeg) then some (S.1, va_up S.2 k (.inl (2, n, va_up tg (nI i).toNatClampNeg (some t)))) else none) = _
  rw [if_pos ⟨rfl, rfl, nI_in hi hn⟩, nI_clamp (by omega)]
theorem ev_ln {n K : Nat} (h : n ≤ K) (hn : n < 2 ^ 31) : cn_ln (nI n) K = some n := by
  unfold cn_ln
  rw [nI_clamp hn, if_neg]
  rintro (h1 | h1)
  · exact nI_pos hn h1
  · omega
theorem ev_gd {a M : Nat} (h : a ≤ M) : cn_gd a M = some () := if_pos h
theorem ev_fl {k ci : Nat} {fl : List (Option (Option Nat))} (h1 : k < S.1) (h2 : S.2 k = .inr (ci, fl)) : cp_fl (cn_L B ca S) k ci = some fl := cn_fls h1 h2
theorem ev_ar {k t n : Nat} {tg : Nat → Option Nat} (h1 : k < S.1) (h2 : S.2 k = .inl (t, n, tg)) : cp_ar (cn_L B ca S) k t = some (n, tg) := by
  unfold cp_ar
  rw [if_pos (show k < (cn_L B ca S).1 from h1)]
  show (match S.2 k with | .inl a => if a.1 = t then some a.2 else none | .inr _ => none) = _
  rw [h2]
  exact if_pos rfl
theorem ev_animal (hn : S.1 = b + 1) (hs : S.2 b = .inr (1, flX1)) : ∃ S' D', fn_X1_init B ca q b S D = some (S', D') ∧ S'.1 = b + 4 ∧ S'.2 b = .inr (1, [some (some (b + 1)), some (some (b + 2)), some (some (b + 3)), none, none, none, none, none, none, none, none, none, none, none]) ∧ (∃ t, S'.2 (b + 1) = .inl (1, 8, t)) ∧ (∃ t, S'.2 (b + 2) = .inl (1, 16, t)) ∧ (∃ t, S'.2 (b + 3) = .inl (1, 20, t)) ∧ (∀ k, k < b → S'.2 k = S.2 k) ∧ (∀ k, k < b + 1 → D' k = D k) ∧ ∀ k, b + 1 ≤ k → k < b + 4 → D' k = fun _ => 0 := by
  obtain ⟨S1, D1, m1, m2, m3, m4, m5, m6⟩ := ev_mk (S := S) (D := D) (M := S.1 + 3) (z := .inl (1, 8, fun _ => none)) (by omega)
  obtain ⟨S2, p1, p2, p3, p4⟩ := ev_pR (S := S1) (k := b) (ci := 1) (j := 0) (t := S.1) (fl := flX1) (by omega) (by rw [m4 b (by omega)]; exact hs) (by decide)
  obtain ⟨S3, D3, n1, n2, n3, n4, n5, n6⟩ := ev_mk (S := S2) (D := D1) (M := S.1 + 3) (z := .inl (1, 16, fun _ => none)) (by omega)
  obtain ⟨S4, q1, q2, q3, q4⟩ := ev_pR (S := S3) (k := b) (ci := 1) (j := 1) (t := S2.1) (by omega) (by rw [n4 b (by omega)]; exact p3) (by simp [flX1])
  obtain ⟨S5, D5, o1, o2, o3, o4, o5, o6⟩ := ev_mk (S := S4) (D := D3) (M := S.1 + 3) (z := .inl (1, 20, fun _ => none)) (by omega)
  obtain ⟨S6, r1, r2, r3, r4⟩ := ev_pR (S := S5) (k := b) (ci := 1) (j := 2) (t := S4.1) (by omega) (by rw [o4 b (by omega)]; exact q3) (by simp [flX1])
  have e2 : S2.1 = b + 2 := by omega
  have e4 : S4.1 = b + 3 := by omega
  rw [hn] at m3 m5 p3
  rw [e2] at n3 n5 q3
  rw [e4] at o3 o5 r3
  refine ⟨S6, D5, ?_, by omega, ?_, ⟨fun _ => none, ?_⟩, ⟨fun _ => none, ?_⟩, ⟨fun _ => none, ?_⟩, fun k hk => ?_, fun k hk => ?_, fun k h1 h2 => ?_⟩
  · unfold fn_X1_init
    rw [show cn_ln (8 : Int32) 8 = some 8 from rfl, bind_of rfl, bind_of m1]
    dsimp only
    rw [bind_of p1, show cn_ln (16 : Int32) 16 = some 16 from rfl, bind_of rfl, bind_of n1]
    dsimp only
    rw [bind_of q1, show cn_ln (20 : Int32) 20 = some 20 from rfl, bind_of rfl, bind_of o1]
    dsimp only
    rw [bind_of r1, if_pos (by omega)]
  · rw [r3, hn, e2]
    rfl
  · rw [r4 _ (by omega), o4 _ (by omega), q4 _ (by omega), n4 _ (by omega), p4 _ (by omega), m3]
  · rw [r4 _ (by omega), o4 _ (by omega), q4 _ (by omega), n3]
  · rw [r4 _ (by omega), o3]
  · rw [r4 _ (by omega), o4 _ (by omega), q4 _ (by omega), n4 _ (by omega), p4 _ (by omega), m4 _ (by omega)]
  · rw [o6 _ (by omega), n6 _ (by omega), m6 _ (by omega)]
  · by_cases h3 : k = b + 3
    · rw [h3]; exact o5
    · by_cases h4 : k = b + 2
      · rw [o6 _ (by omega), h4]; exact n5
      · rw [o6 _ (by omega), n6 _ (by omega), show k = b + 1 by omega]; exact m5
def PA (S : cn_S) (b a : Nat) : Prop := S.2 (pA b a) = .inr (1, cp_flA b a) ∧ (∃ t, S.2 (pR b a) = .inl (1, 8, t)) ∧ (∃ t, S.2 (pM b a) = .inl (1, 16, t)) ∧ ∃ t, S.2 (pG b a) = .inl (1, 20, t)
theorem ev_pond_L73 {k1 : Nat} (hS : S.1 = b + 1) : ∀ (m i n : Nat) (S1 : cn_S) (D : cp_Dt), i + m = 16 → m < n → S1.1 = b + 5 + 4 * i → S1.2 b = .inr (4, cp_flP b) → (∃ tg, S1.2 (b + 1) = .inl (2, 16, tg) ∧ ∀ a, a < i → tg a = some (pA b a)) → (∀ a, a < i → PA S1 b a) →
    ∃ S' D', fn_X4_init_L73 B ca q S n b k1 (nI i) S1 D = some (S', D') ∧ S'.1 = b + 69 ∧ (∃ tg, S'.2 (b + 1) = .inl (2, 16, tg) ∧ ∀ a, a < 16 → tg a = some (pA b a)) ∧ (∀ a, a < 16 → PA S' b a) ∧ (∀ k, k < b + 5 → k ≠ b + 1 → S'.2 k = S1.2 k) ∧ (∀ k, k < b + 5 + 4 * i → D' k = D k) ∧ ∀ k, b + 5 + 4 * i ≤ k → k < b + 69 → D' k = fun _ => 0 := by
  intro m
  induction m with
  | zero =>
    intro i n S1 D h1 h2 h3 h4 h5 h6
    have : i = 16 := by omega
    subst this
    obtain ⟨n, rfl⟩ : ∃ z, n = z + 1 := ⟨n - 1, by omega⟩
    rw [fn_X4_init_L73, if_pos i16', if_pos (by omega)]
    exact ⟨S1, D, rfl, by omega, h5, h6, fun _ _ _ => rfl, fun _ _ => rfl, fun k g1 g2 => by omega⟩
  | succ m ih =>
    intro i n S1 D h1 h2 h3 h4 h5 h6
    obtain ⟨n, rfl⟩ : ∃ z, n = z + 1 := ⟨n - 1, by omega⟩
    obtain ⟨tg, t1, t2⟩ := h5
    have hpa : pA b i = S1.1 := by unfold pA; omega
    obtain ⟨S2, D2, m1, m2, m3, m4, m5, m6⟩ := ev_mk (S := S1) (D := D) (M := S.1 + 68) (z := .inr (1, flX1)) (by omega)
    obtain ⟨S3, D3, a1, a2, a3, ⟨u1, a4⟩, ⟨u2, a5⟩, ⟨u3, a6⟩, a7, a8, a9⟩ := ev_animal (B := B) (ca := ca) (q := q) (S := S2) (D := D2) (b := S1.1) (by omega) m3
    obtain ⟨S4, r1, r2, r3, r4⟩ := ev_aR (S := S3) (k := b + 1) (t := S1.1) (i := i) (n := 16) (by omega) (by omega) (by rw [a7 _ (by omega), m4 _ (by omega)]; exact t1) a3 (by omega) (by omega)
    have g1 : cp_gR (cn_L B ca S1) b 4 4 = some (b + 1) := cp_gR_of (ev_fl (by omega) h4) rfl
    rw [fn_X4_init_L73, if_neg (i16 (by omega)), bind_of g1, bind_of m1, bind_of (ev_gd (by dsimp only; omega))]
    dsimp only
    rw [bind_of a1]
    dsimp only
    rw [bind_of r1, nI_1]
    have old : ∀ k, k < S1.1 → k ≠ b + 1 → S4.2 k = S1.2 k := fun k hk hk2 => by rw [r4 _ hk2, a7 _ hk, m4 _ (by omega)]
    have hPi : PA S4 b i := by
      refine ⟨?_, ⟨u1, ?_⟩, ⟨u2, ?_⟩, ⟨u3, ?_⟩⟩
      · rw [hpa, r4 _ (by omega), a3]
        unfold cp_flA pR pM pG
        rw [show b + 6 + 4 * i = S1.1 + 1 by omega, show b + 7 + 4 * i = S1.1 + 2 by omega, show b + 8 + 4 * i = S1.1 + 3 by omega]
      · rw [show pR b i = S1.1 + 1 by unfold pR; omega, r4 _ (by omega)]; exact a4
      · rw [show pM b i = S1.1 + 2 by unfold pM; omega, r4 _ (by omega)]; exact a5
      · rw [show pG b i = S1.1 + 3 by unfold pG; omega, r4 _ (by omega)]; exact a6
    obtain ⟨S', D', y1, y2, y3, y4, y5, y6, y7⟩ := ih (i + 1) n S4 D3 (by omega) (by omega) (by omega) (by rw [old b (by omega) (by omega)]; exact h4) ⟨_, r3, fun a ha => by
        by_cases hai : a = i
        · subst hai
          rw [show va_up tg a (some S1.1) a = some S1.1 from if_pos rfl, hpa]
        · rw [show va_up tg i (some S1.1) a = tg a from if_neg hai]
          exact t2 a (by omega)⟩ (fun a ha => by
        by_cases hai : a = i
        · subst hai
          exact hPi
        · obtain ⟨f1, f2, f3, f4⟩ := h6 a (by omega)
          unfold PA
          rw [old (pA b a) (by unfold pA; omega) (by unfold pA; omega), old (pR b a) (by unfold pR; omega) (by unfold pR; omega), old (pM b a) (by unfold pM; omega) (by unfold pM; omega), old (pG b a) (by unfold pG; omega) (by unfold pG; omega)]
          exact ⟨f1, f2, f3, f4⟩)
    refine ⟨S', D', y1, y2, y3, y4, fun k g1 g2 => ?_, fun k hk => ?_, fun k g1 g2 => ?_⟩
    · rw [y5 k g1 g2, old k (by omega) g2]
    · rw [y6 k (by omega), a8 k (by omega), m6 k (by omega)]
    · by_cases hk : b + 5 + 4 * (i + 1) ≤ k
      · exact y7 k hk g2
      · rw [y6 k (by omega)]
        by_cases hk2 : k = S1.1
        · rw [a8 k (by omega), hk2]; exact m5
        · exact a9 k (by omega) (by omega)
theorem ev_pond_L50 {k1 N : Nat} (hS : S.1 = b + 1) (hk1 : k1 < b) (hN : N ≤ 100) {S1 : cn_S} {tg3 : Nat → Option Nat} (h3 : S1.1 = b + 5) (h4 : S1.2 b = .inr (4, cp_flP b)) (hd : S1.2 (b + 4) = .inl (0, N, tg3)) {fl : List (Option (Option Nat))} (hsh : S1.2 k1 = .inr (5, fl)) (hfl : fl[2]? = some none) : ∀ (m i n : Nat) (D : cp_Dt), i + m = N → m < n → D k1 2 = nI N →
    ∃ D', fn_X4_init_L50 B ca q S n b k1 (nI i) S1 D = fn_X4_init_L73 B ca q S 17 b k1 (nI 0) S1 D' ∧ (∀ k, k ≠ b + 4 → D' k = D k) ∧ (∀ j, j < i → D' (b + 4) j = D (b + 4) j) ∧ ∀ j, i ≤ j → j < N → D' (b + 4) j = -1 := by
  intro m
  induction m with
  | zero =>
    intro i n D h1 h2 hc
    have : i = N := by omega
    subst this
    obtain ⟨n, rfl⟩ : ∃ z, n = z + 1 := ⟨n - 1, by omega⟩
    rw [fn_X4_init_L50, bind_of (cp_gI_of (ev_fl (by omega) hsh) hfl), hc, if_pos (nI_le (Nat.le_refl _) (by omega))]
    exact ⟨D, rfl, fun _ _ => rfl, fun _ _ => rfl, fun j g1 g2 => by omega⟩
  | succ m ih =>
    intro i n D h1 h2 hc
    obtain ⟨n, rfl⟩ : ∃ z, n = z + 1 := ⟨n - 1, by omega⟩
    have g1 : cp_gR (cn_L B ca S1) b 4 3 = some (b + 4) := cp_gR_of (ev_fl (by omega) h4) rfl
    rw [fn_X4_init_L50, bind_of (cp_gI_of (ev_fl (by omega) hsh) hfl), hc, if_neg (nI_ge (by omega) (by omega)), bind_of g1, bind_of (cp_aS_of (ev_ar (by omega) hd) (by omega) (by omega)), nI_1]
    obtain ⟨D', y1, y2, y3, y4⟩ := ih (i + 1) n (cp_up D (b + 4) i (-1)) (by omega) (by omega) (by rw [cp_up_ne (by omega)]; exact hc)
    refine ⟨D', y1, fun k hk => ?_, fun j hj => ?_, fun j g1 g2 => ?_⟩
    · rw [y2 k hk, cp_up_ne hk]
    · rw [y3 j (by omega), cp_up_eq, upd_ne (by omega)]
    · by_cases hji : j = i
      · subst hji
        rw [y3 j (by omega), cp_up_eq, upd_eq]
      · exact y4 j (by omega) g2
/-- a pond at b, fresh -/
def PN (S : cn_S) (N b : Nat) (D : cp_Dt) : Prop := S.2 b = .inr (4, cp_flP b) ∧ (∃ tg, S.2 (b + 1) = .inl (2, 16, tg) ∧ ∀ a, a < 16 → tg a = some (pA b a)) ∧ (∃ t, S.2 (b + 2) = .inl (0, N, t)) ∧ (∃ t, S.2 (b + 3) = .inl (1, N, t)) ∧ (∃ t, S.2 (b + 4) = .inl (0, N, t)) ∧ (∀ a, a < 16 → PA S b a) ∧ (∀ j, j < N → D (b + 4) j = -1) ∧ ∀ k, b ≤ k → k < b + 69 → k ≠ b + 4 → D k = fun _ => 0
theorem ev_pond {N : Nat} (hq : 2000 ≤ q) (hb : 1 < b) (hN : N ≤ 100) (hS : S.1 = b + 1) (hs : S.2 b = .inr (4, flX4)) (hD : D b = fun _ => 0) {fl : List (Option (Option Nat))} (hsh : S.2 1 = .inr (5, fl)) (hfl : fl[2]? = some none) (hc : D 1 2 = nI N) :
    ∃ S' D', fn_X4_init B ca q b 1 S D = some (S', D') ∧ S'.1 = b + 69 ∧ PN S' N b D' ∧ (∀ k, k < b → S'.2 k = S.2 k) ∧ ∀ k, k < b + 1 → D' k = D k := by
  obtain ⟨S1, D1, m1, m2, m3, m4, m5, m6⟩ := ev_mk (S := S) (D := D) (M := S.1 + 68) (z := .inl (2, 16, fun _ => none)) (by omega)
  obtain ⟨S2, p1, p2, p3, p4⟩ := ev_pR (S := S1) (k := b) (ci := 4) (j := 4) (t := S.1) (fl := flX4) (by omega) (by rw [m4 b (by omega)]; exact hs) (by decide)
  obtain ⟨S3, o1, o2, o3, o4⟩ := ev_pR (S := S2) (k := b) (ci := 4) (j := 0) (t := 1) (by omega) p3 (by simp [flX4])
  have c3 : S3.2 1 = .inr (5, fl) := by rw [o4 _ (by omega), p4 _ (by omega), m4 _ (by omega)]; exact hsh
  have d1 : D1 1 2 = nI N := by rw [m6 1 (by omega)]; exact hc
  obtain ⟨S4, D4, a1, a2, a3, a4, a5, a6⟩ := ev_mk (S := S3) (D := D1) (M := S.1 + 68) (z := .inl (0, N, fun _ => none)) (by omega)
  obtain ⟨S5, b1, b2, b3, b4⟩ := ev_pR (S := S4) (k := b) (ci := 4) (j := 1) (t := S3.1) (by omega) (by rw [a4 b (by omega)]; exact o3) (by simp [flX4])
  have c5 : S5.2 1 = .inr (5, fl) := by rw [b4 _ (by omega), a4 _ (by omega)]; exact c3
  have d4 : D4 1 2 = nI N := by rw [a6 1 (by omega)]; exact d1
  obtain ⟨S6, D6, e1, e2, e3, e4, e5, e6⟩ := ev_mk (S := S5) (D := D4) (M := S.1 + 68) (z := .inl (1, N, fun _ => none)) (by omega)
  obtain ⟨S7, f1, f2, f3, f4⟩ := ev_pR (S := S6) (k := b) (ci := 4) (j := 2) (t := S5.1) (by omega) (by rw [e4 b (by omega)]; exact b3) (by simp [flX4])
  have c7 : S7.2 1 = .inr (5, fl) := by rw [f4 _ (by omega), e4 _ (by omega)]; exact c5
  have d6 : D6 1 2 = nI N := by rw [e6 1 (by omega)]; exact d4
  obtain ⟨S8, D8, g1, g2, g3, g4, g5, g6⟩ := ev_mk (S := S7) (D := D6) (M := S.1 + 68) (z := .inl (0, N, fun _ => none)) (by omega)
  obtain ⟨S9, h1, h2, h3, h4⟩ := ev_pR (S := S8) (k := b) (ci := 4) (j := 3) (t := S7.1) (by omega) (by rw [g4 b (by omega)]; exact f3) (by simp [flX4])
  have c9 : S9.2 1 = .inr (5, fl) := by rw [h4 _ (by omega), g4 _ (by omega)]; exact c7
  have d8 : D8 1 2 = nI N := by rw [g6 1 (by omega)]; exact d6
  have x1 : S3.1 = b + 2 := by omega
  have x2 : S5.1 = b + 3 := by omega
  have x3 : S7.1 = b + 4 := by omega
  rw [hS] at m3 m5
  rw [x1] at a3 a5
  rw [x2] at e3 e5
  rw [x3] at g3 g5
  have hflP : S9.2 b = .inr (4, cp_flP b) := by
    rw [h3, hS, x1, x2, x3]
    rfl
  have w4 : S9.2 (b + 4) = .inl (0, N, fun _ => none) := by rw [h4 _ (by omega)]; exact g3
  have w3 : S9.2 (b + 3) = .inl (1, N, fun _ => none) := by rw [h4 _ (by omega), g4 _ (by omega), f4 _ (by omega)]; exact e3
  have w2 : S9.2 (b + 2) = .inl (0, N, fun _ => none) := by rw [h4 _ (by omega), g4 _ (by omega), f4 _ (by omega), e4 _ (by omega), b4 _ (by omega)]; exact a3
  have w1 : S9.2 (b + 1) = .inl (2, 16, fun _ => none) := by rw [h4 _ (by omega), g4 _ (by omega), f4 _ (by omega), e4 _ (by omega), b4 _ (by omega), a4 _ (by omega), o4 _ (by omega), p4 _ (by omega)]; exact m3
  have wo : ∀ k, k < b → S9.2 k = S.2 k := fun k hk => by rw [h4 _ (by omega), g4 _ (by omega), f4 _ (by omega), e4 _ (by omega), b4 _ (by omega), a4 _ (by omega), o4 _ (by omega), p4 _ (by omega), m4 _ (by omega)]
  obtain ⟨D9, y1, y2, y3, y4⟩ := ev_pond_L50 (B := B) (ca := ca) (q := q) (S := S) (k1 := 1) hS (by omega) hN (by omega) hflP w4 c9 hfl N 0 q D8 (Nat.zero_add _) (by omega) d8
  obtain ⟨S', D', z1, z2, z3, z4, z5, z6, z7⟩ := ev_pond_L73 (B := B) (ca := ca) (q := q) (S := S) (k1 := 1) hS 16 0 17 S9 D9 rfl (by omega) (by omega) hflP ⟨_, w1, fun a ha => by omega⟩ (fun a ha => by omega)
  refine ⟨S', D', ?_, z2, ⟨?_, z3, ⟨fun _ => none, ?_⟩, ⟨fun _ => none, ?_⟩, ⟨fun _ => none, ?_⟩, z4, fun j hj => ?_, fun k k1 k2 k3 => ?_⟩, fun k hk => ?_, fun k hk => ?_⟩
  · unfold fn_X4_init
    rw [show cn_ln (16 : Int32) 16 = some 16 from rfl, bind_of rfl, bind_of m1]
    dsimp only
    rw [bind_of p1, bind_of o1, bind_of (cp_gI_of (ev_fl (by omega) c3) hfl), d1, bind_of (ev_ln hN (by omega)), bind_of a1]
    dsimp only
    rw [bind_of b1, bind_of (cp_gI_of (ev_fl (by omega) c5) hfl), d4, bind_of (ev_ln hN (by omega)), bind_of e1]
    dsimp only
    rw [bind_of f1, bind_of (cp_gI_of (ev_fl (by omega) c7) hfl), d6, bind_of (ev_ln hN (by omega)), bind_of g1]
    dsimp only
    rw [bind_of h1]
    exact y1.trans z1
  · rw [z5 b (by omega) (by omega)]; exact hflP
  · rw [z5 _ (by omega) (by omega)]; exact w2
  · rw [z5 _ (by omega) (by omega)]; exact w3
  · rw [z5 _ (by omega) (by omega)]; exact w4
  · rw [z6 _ (by omega)]
    exact y4 j (by omega) hj
  · by_cases hk : b + 5 ≤ k
    · exact z7 k (by omega) k2
    · rw [z6 _ (by omega), y2 _ k3]
      by_cases q1 : k = b + 3
      · rw [g6 _ (by omega), q1]; exact e5
      · by_cases q2 : k = b + 2
        · rw [g6 _ (by omega), e6 _ (by omega), q2]; exact a5
        · by_cases q3 : k = b + 1
          · rw [g6 _ (by omega), e6 _ (by omega), a6 _ (by omega), q3]; exact m5
          · rw [g6 _ (by omega), e6 _ (by omega), a6 _ (by omega), m6 _ (by omega), show k = b by omega]; exact hD
  · rw [z5 k (by omega) (by omega)]; exact wo k hk
  · rw [z6 _ (by omega), y2 _ (by omega), g6 _ (by omega), e6 _ (by omega), a6 _ (by omega), m6 _ (by omega)]
end EV
