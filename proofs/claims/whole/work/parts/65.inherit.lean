/-! A child's code -/
def Gz (N B : Nat) (C0 R0 : cp_Dt) (z n : Nat) (C R : cp_Dt) : Prop := Sm N B C0 R0 C (cp_up R 144 (200 + 64 * z + 5) (nI n)) ∧ C (pA 3 z) 9 = nI n
section IH
variable {L : cp_Lay} {w h B q N x y z : Nat} {C0 R0 C R : cp_Dt}
theorem re_inh_step {i j k s ls n f : Nat} (O : cp_ok L w h) (hx : x < 16) (hy : y < 16) (hz : z < 16) (hs : s = if k < i ∨ j ≤ k then x else y) (hi : i ≤ 20) (hj : j ≤ 30) (hk : k < 20) (hn : n ≤ k) (hls : ls ≤ 20) (hr5 : R 144 (200 + 64 * s + 5) = nI ls) :
    fn_X6_inherit_L38 L q (f + 1) 143 (nI z) (nI x) (nI y) (nI i) (nI j) (nI n) (nI k) R = if ls ≤ k then fn_X6_inherit_L38 L q f 143 (nI z) (nI x) (nI y) (nI i) (nI j) (nI n) (nI (k + 1)) R else fn_X6_inherit_L38 L q f 143 (nI z) (nI x) (nI y) (nI i) (nI j) (nI (n + 1)) (nI (k + 1)) (cp_up R 144 (200 + 64 * z + 34 + n) (R 144 (200 + 64 * s + 34 + k))) := by
  rw [fn_X6_inherit_L38, if_neg (show ¬ (20 : Int32) ≤ nI k from nI_ge (b := 20) hk (by decide)), re_now O]
  by_cases h1 : k < i
  · rw [if_pos (Or.inl h1)] at hs
    subst hs
    rw [if_pos (nI_lt h1 (by omega))]
    · rw [bind_of rfl, fn_X6_at, bind_of rfl, at_eq]
      dsimp only
      rw [nk_5, bind_of (re_I O (by omega)), hr5]
      by_cases hlk : ls ≤ k
      · rw [if_pos (nI_le hlk (by omega)), if_pos hlk, nI_1]
      · rw [if_neg (nI_ge (by omega) (by omega)), if_neg hlk, bind_of rfl, fn_X6_at, bind_of rfl, at_eq]
        dsimp only
        rw [bind_of rfl, fn_X6_at, bind_of rfl, at_eq]
        dsimp only
        rw [nk_34, nI_add, bind_of (re_I O (by omega)), nk_34, nI_add, bind_of (re_S O (by omega)), nI_1, nI_1]
  · rw [if_neg (nI_nlt (by omega) (by omega))]
    by_cases h2 : j ≤ k
    · rw [if_pos (Or.inr h2)] at hs
      subst hs
      rw [if_pos (nI_le h2 (by omega))]
      rw [bind_of rfl, fn_X6_at, bind_of rfl, at_eq]
      dsimp only
      rw [nk_5, bind_of (re_I O (by omega)), hr5]
      by_cases hlk : ls ≤ k
      · rw [if_pos (nI_le hlk (by omega)), if_pos hlk, nI_1]
      · rw [if_neg (nI_ge (by omega) (by omega)), if_neg hlk, bind_of rfl, fn_X6_at, bind_of rfl, at_eq]
        dsimp only
        rw [bind_of rfl, fn_X6_at, bind_of rfl, at_eq]
        dsimp only
        rw [nk_34, nI_add, bind_of (re_I O (by omega)), nk_34, nI_add, bind_of (re_S O (by omega)), nI_1, nI_1]
    · rw [if_neg (by omega)] at hs
      subst hs
      rw [if_neg (nI_ge (by omega) (by omega))]
      rw [bind_of rfl, fn_X6_at, bind_of rfl, at_eq]
      dsimp only
      rw [nk_5, bind_of (re_I O (by omega)), hr5]
      by_cases hlk : ls ≤ k
      · rw [if_pos (nI_le hlk (by omega)), if_pos hlk, nI_1]
      · rw [if_neg (nI_ge (by omega) (by omega)), if_neg hlk, bind_of rfl, fn_X6_at, bind_of rfl, at_eq]
        dsimp only
        rw [bind_of rfl, fn_X6_at, bind_of rfl, at_eq]
        dsimp only
        rw [nk_34, nI_add, bind_of (re_I O (by omega)), nk_34, nI_add, bind_of (re_S O (by omega)), nI_1, nI_1]
theorem sim_seg {i j s ls : Nat} {x3 x4 : Int32} (O : cp_ok L w h) (P : cp_okP L N 3) (hN : N ≤ 100) (hx : x < 16) (hy : y < 16) (hz : z < 16) (hss : s = x ∨ s = y) (hsz : s ≠ z) (hi : i ≤ 20) (hj : j ≤ 30) (hls : ls ≤ 20) (hlz : C0 (pA 3 s) 3 = 1) : ∀ (m k e n nc nr nt : Nat) (C R : cp_Dt), k + m = e → e ≤ 20 → n ≤ k → m < nc → nt = nr + m → Gz N B C0 R0 z n C R → C (pA 3 s) 9 = nI ls →
    (∀ k', k ≤ k' → k' < e → s = if k' < i ∨ j ≤ k' then x else y) →
    ∃ (n' : Nat) (C' R' : cp_Dt), n' ≤ e ∧ fn_X2_growFrom_L14 L q nc 142 (pA 3 z) (pA 3 s) x3 x4 (nI (min e ls)) (nI k) C = some C' ∧ fn_X6_inherit_L38 L q nt 143 (nI z) (nI x) (nI y) (nI i) (nI j) (nI n) (nI k) R = fn_X6_inherit_L38 L q nr 143 (nI z) (nI x) (nI y) (nI i) (nI j) (nI n') (nI e) R' ∧ Gz N B C0 R0 z n' C' R' ∧ ∀ p, p ≠ z → C' (pA 3 p) 9 = C (pA 3 p) 9 := by
  have hs16 : s < 16 := by
    rcases hss with e | e
    · rw [e]; exact hx
    · rw [e]; exact hy
  intro m
  induction m with
  | zero =>
    intro k e n nc nr nt C R h1 h2 h3 h4 h5 H h9 h6
    have : k = e := by omega
    subst this
    have : nt = nr := by omega
    subst this
    obtain ⟨nc, rfl⟩ : ∃ z, nc = z + 1 := ⟨nc - 1, by omega⟩
    rw [fn_X2_growFrom_L14, if_pos (nI_le (by omega) (by omega))]
    exact ⟨n, C, R, h3, rfl, rfl, H, fun p _ => rfl⟩
  | succ m ih =>
    intro k e n nc nr nt C R h1 h2 h3 h4 h5 H h9 h6
    obtain ⟨nc, rfl⟩ : ∃ z, nc = z + 1 := ⟨nc - 1, by omega⟩
    obtain ⟨f, rfl⟩ : ∃ f, nt = f + 1 := ⟨nt - 1, by omega⟩
    obtain ⟨H, hn9⟩ := H
    have hls1 : C (pA 3 s) 3 = 1 := (H.2.2.2 s).trans hlz
    obtain ⟨⟨-, k2, -, -, k5⟩, -⟩ := rel_liv H.1 hs16 hls1
    have r5 : R 144 (200 + 64 * s + 5) = nI ls := by
      have := (k2 9 (by omega) (by omega) (by omega)).symm.trans h9
      rw [show ro 9 = 5 from rfl, cp_up_eq, upd_ne (by omega)] at this
      exact this
    rw [re_inh_step (f := f) (q := q) O hx hy hz (h6 k (by omega) (by omega)) hi hj (by omega) h3 hls r5]
    by_cases hlk : ls ≤ k
    · rw [if_pos hlk]
      obtain ⟨n', C', R', d1, d2, d3, d4, d5⟩ := ih (k + 1) e n nc nr f C R (by omega) h2 (by omega) (by omega) (by omega) ⟨H, hn9⟩ h9 (fun k' a1 a2 => h6 k' (by omega) a2)
      refine ⟨n', C', R', d1, ?_, d3, d4, d5⟩
      obtain ⟨nc, rfl⟩ : ∃ z, nc = z + 1 := ⟨nc - 1, by omega⟩
      rw [fn_X2_growFrom_L14, if_pos (nI_le (by omega) (by omega))]
      rw [fn_X2_growFrom_L14, if_pos (nI_le (by omega) (by omega))] at d2
      exact d2
    · rw [if_neg hlk]
      have rg : R 144 (200 + 64 * s + 34 + k) = C (pG 3 s) k := by
        have := (k5 k ls h9 hls (by omega)).symm
        rw [cp_up_eq, upd_ne (by omega)] at this
        exact this
      have hb : cp_by (C (pG 3 s) k) := (H.1.2.2.2.2.1 s hs16).2.2.2 k (by omega)
      have H1 := sm_grow H hN hz (n := n) (by omega) hn9 hb
      rw [cp_up_comm (D := R) (by omega), cp_up_up] at H1
      rw [rg]
      obtain ⟨n', C', R', d1, d2, d3, d4, d5⟩ := ih (k + 1) e (n + 1) nc nr f (cp_up (cp_up C (pG 3 z) n (C (pG 3 s) k)) (pA 3 z) 9 (nI (n + 1))) (cp_up R 144 (200 + 64 * z + 34 + n) (C (pG 3 s) k)) (by omega) h2 (by omega) (by omega) (by omega) ⟨H1, by rw [up_AA, if_pos rfl, upd_eq]⟩ (by rw [up_AA, if_neg hsz, up_GA]; exact h9) (fun k' a1 a2 => h6 k' (by omega) a2)
      refine ⟨n', C', R', d1, ?_, d3, d4, fun p hp => ?_⟩
      · rw [fn_X2_growFrom_L14, if_neg (nI_ge (by omega) (by omega)), bind_of (an_ge P hs16), bind_of (an_geI P hs16 (by omega)), bind_of (an_fl P hz), bind_of (cl_grow P hz (n := n) (by omega) hn9 hb), nI_1]
        exact d2
      · rw [d5 p hp, up_AA, if_neg hp, up_GA]
theorem sim_inherit {l1 l2 : Nat} (O : cp_ok L w h) (P : cp_okP L N 3) (hN : N ≤ 100) (hq : 2000 ≤ q) (H : Sm N B C0 R0 C R) (hx : x < 16) (hy : y < 16) (hz : z < 16) (hxz : x ≠ z) (hyz : y ≠ z) (hlx : C0 (pA 3 x) 3 = 1) (hly : C0 (pA 3 y) 3 = 1) (hlz : C0 (pA 3 z) 3 = 1) (h9z : C (pA 3 z) 9 = nI 0) (h9x : C (pA 3 x) 9 = nI l1) (h9y : C (pA 3 y) 9 = nI l2) (hl1 : l1 ≤ 20) (hl2 : l2 ≤ 20) :
    ∃ C1 C' R', fn_X2_mixCode L q 142 (pA 3 z) (pA 3 x) (pA 3 y) C = some C1 ∧ fn_X2_changeCode L q 142 (pA 3 z) C1 = some C' ∧ fn_X6_inherit L q 143 (nI z) (nI x) (nI y) R = some R' ∧ Sm N B C0 R0 C' R' := by
  obtain ⟨u, C1, R1, u1, n1, n2, H1, s1, t1⟩ := sim_next' (q := q) O P hN H
  obtain ⟨v, C2, R2, v1, m1, m2, H2, s2, t2⟩ := sim_next' (q := q) O P hN H1
  have a1 : ∀ p, C1 (pA 3 p) = C (pA 3 p) := fun p => s1 _ (by unfold pA; omega)
  have a2 : ∀ p, C2 (pA 3 p) = C (pA 3 p) := fun p => (s2 _ (by unfold pA; omega)).trans (a1 p)
  have r5x : R1 144 (200 + 64 * x + 5) = nI l1 := by
    obtain ⟨⟨-, k2, -⟩, -⟩ := rel_liv H1.1 hx ((H1.2.2.2 x).trans hlx)
    exact (k2 9 (by omega) (by omega) (by omega)).symm.trans (by rw [a1]; exact h9x)
  have hG : Gz N B C0 R0 z 0 C2 R2 := by
    have hz9 : C2 (pA 3 z) 9 = nI 0 := by rw [a2]; exact h9z
    refine ⟨?_, hz9⟩
    obtain ⟨⟨-, k2, -⟩, -⟩ := rel_liv H2.1 hz ((H2.2.2.2 z).trans hlz)
    have e5 : R2 144 (200 + 64 * z + 5) = nI 0 := (k2 9 (by omega) (by omega) (by omega)).symm.trans hz9
    rw [cp_up_same e5]
    exact H2
  have hi : u % (l1 + 1) ≤ l1 := by
    have := Nat.mod_lt u (show 0 < l1 + 1 by omega)
    omega
  have hj : v % 8 < 8 := Nat.mod_lt _ (by omega)
  generalize hie : u % (l1 + 1) = i at hi
  generalize hje : i + v % 8 = j at *
  have hj30 : i ≤ j ∧ j ≤ 30 := by omega
  have c9x : C2 (pA 3 x) 9 = nI l1 := by rw [a2]; exact h9x
  have c9y : C2 (pA 3 y) 9 = nI l2 := by rw [a2]; exact h9y
  obtain ⟨k1, C3, R3, b1, b2, b3, G3, b5⟩ := sim_seg (q := q) (i := i) (j := j) (s := x) (ls := l1) (x3 := 0) (x4 := nI i) O P hN hx hy hz (Or.inl rfl) hxz (by omega) (by omega) hl1 hlx i 0 i 0 q (q - i) q C2 R2 (by omega) (by omega) (by omega) (by omega) (by omega) hG c9x (fun k' _ h2 => by rw [if_pos (Or.inl h2)])
  have d9y : C3 (pA 3 y) 9 = nI l2 := by rw [b5 y hyz]; exact c9y
  have d9x : C3 (pA 3 x) 9 = nI l1 := by rw [b5 x hxz]; exact c9x
  obtain ⟨k2, C4, R4, e1, e2, e3, G4, e5⟩ := sim_seg (q := q) (i := i) (j := j) (s := y) (ls := l2) (x3 := nI i) (x4 := nI j) O P hN hx hy hz (Or.inr rfl) hyz (by omega) (by omega) hl2 hly (min j 20 - i) i (min j 20) k1 q (q - i - (min j 20 - i)) (q - i) C3 R3 (by omega) (by omega) b1 (by omega) (by omega) G3 d9y (fun k' _ h2 => by rw [if_neg (by omega)])
  have f9x : C4 (pA 3 x) 9 = nI l1 := by rw [e5 x hxz]; exact d9x
  have last : ∃ (k3 nr : Nat) (C5 R5 : cp_Dt), k3 ≤ 20 ∧ 0 < nr ∧ fn_X2_growFrom_L14 L q q 142 (pA 3 z) (pA 3 x) (nI j) (nI l1) (nI l1) (nI j) C4 = some C5 ∧ fn_X6_inherit_L38 L q (q - i - (min j 20 - i)) 143 (nI z) (nI x) (nI y) (nI i) (nI j) (nI k2) (nI (min j 20)) R4 = fn_X6_inherit_L38 L q nr 143 (nI z) (nI x) (nI y) (nI i) (nI j) (nI k3) (nI 20) R5 ∧ Gz N B C0 R0 z k3 C5 R5 := by
    by_cases hj20 : j < 20
    · rw [Nat.min_eq_left (by omega)] at e1 e3 ⊢
      obtain ⟨k3, C5, R5, f1, f2, f3, G5, -⟩ := sim_seg (q := q) (i := i) (j := j) (s := x) (ls := l1) (x3 := nI j) (x4 := nI l1) O P hN hx hy hz (Or.inl rfl) hxz (by omega) (by omega) hl1 hlx (20 - j) j 20 k2 q (q - i - (j - i) - (20 - j)) (q - i - (j - i)) C4 R4 (by omega) (by omega) e1 (by omega) (by omega) G4 f9x (fun k' h1 _ => by rw [if_pos (Or.inr h1)])
      rw [Nat.min_eq_right hl1] at f2
      exact ⟨k3, _, C5, R5, f1, by omega, f2, f3, G5⟩
    · rw [Nat.min_eq_right (by omega)] at e1 e3 ⊢
      refine ⟨k2, _, C4, R4, e1, ?_, ?_, rfl, G4⟩
      · omega
      · obtain ⟨q', hq'⟩ : ∃ z, q = z + 1 := ⟨q - 1, by omega⟩
        conv => lhs; arg 3; rw [hq']
        rw [fn_X2_growFrom_L14, if_pos (nI_le (by omega) (by omega))]
  obtain ⟨k3, nr, C5, R5, g1, g2, g3, g4, H5, h5z⟩ := last
  obtain ⟨o, C6, R6, o1, o2, o3, H6, s6, t6⟩ := sim_next' (q := q) O P hN H5
  have z6 : C6 (pA 3 z) 9 = nI k3 := by rw [s6 _ (by unfold pA; omega)]; exact h5z
  have t4 : (4 : Int32) = nI 4 := rfl
  have t8 : (8 : Int32) = nI 8 := rfl
  have mix : fn_X2_mixCode L q 142 (pA 3 z) (pA 3 x) (pA 3 y) C = some C5 := by
    unfold fn_X2_mixCode
    rw [br_po O, bind_of rfl, bind_of (po_fl P), bind_of n1]
    dsimp only
    rw [bind_of (an_gI P hx 9 (by decide)), a1, h9x, nI_1, bind_of (nz_nI (by omega) (by omega)), bind_of rfl, bind_of (po_fl P), bind_of m1]
    dsimp only
    rw [pk_rem (by omega) (by omega) (by omega), hie, t8, pk_rem (by omega) (by omega) (by omega), nI_add, hje, br_fl O, bind_of rfl, fn_X2_growFrom, bind_of (an_gI P hx 9 (by decide)), c9x, cp_mn_nI (by omega) (by omega), show fn_X2_growFrom_L14 L q q 142 (pA 3 z) (pA 3 x) 0 (nI i) (nI (min i l1)) 0 C2 = _ from b2, bind_of rfl, bind_of rfl, fn_X2_growFrom, bind_of (an_gI P hy 9 (by decide)), d9y, cp_mn_nI (by omega) (by omega), show min j l2 = min (min j 20) l2 by omega, bind_of e2, bind_of (an_gI P hx 9 (by decide)), f9x, bind_of rfl, fn_X2_growFrom, bind_of (an_gI P hx 9 (by decide)), f9x, cp_mn_nI (by omega) (by omega), Nat.min_self, bind_of g3]
  have inh : fn_X6_inherit L q 143 (nI z) (nI x) (nI y) R = fn_X6_inherit_L38 L q nr 143 (nI z) (nI x) (nI y) (nI i) (nI j) (nI k3) (nI 20) R5 := by
    unfold fn_X6_inherit
    rw [re_fl O, bind_of rfl, bind_of n2, bind_of (re_now O), fn_X6_at, bind_of rfl, at_eq]
    dsimp only
    rw [nk_5, bind_of (re_I O (by omega)), r5x, nI_1, bind_of (nz_nI (by omega) (by omega)), bind_of rfl, bind_of m2]
    dsimp only
    rw [pk_rem (by omega) (by omega) (by omega), hie, t8, pk_rem (by omega) (by omega) (by omega), nI_add, hje]
    exact b3.trans (e3.trans g4)
  obtain ⟨nr, rfl⟩ : ∃ z, nr = z + 1 := ⟨nr - 1, by omega⟩
  refine ⟨C5, ?_⟩
  rw [mix, inh, fn_X6_inherit_L38, if_pos (show (20 : Int32) ≤ nI 20 by decide), re_now O, bind_of rfl, fn_X6_at, bind_of rfl, at_eq]
  dsimp only
  rw [nk_5, bind_of (re_S O (by omega)), re_fl O, bind_of rfl, bind_of o3]
  unfold fn_X2_changeCode
  rw [br_po O, bind_of rfl, bind_of (po_fl P), bind_of o2]
  dsimp only
  rw [t4, pk_rem (by omega) (by omega) (by omega), bind_of (an_gI P hz 9 (by decide)), z6]
  by_cases hm : nI (o % 4) = 0
  · rw [if_pos hm, if_pos hm]
    by_cases hk0 : k3 = 0
    · subst hk0
      rw [if_pos (show nI 0 ≤ 0 by decide), if_pos (show nI 0 ≤ 0 by decide)]
      exact ⟨_, _, rfl, rfl, rfl, H6⟩
    · obtain ⟨c, C7, R7, c1, c2, c3, H7, s7, t7⟩ := sim_next' (q := q) O P hN H6
      obtain ⟨d, C8, R8, d1, d2, d3, H8, s8, t8⟩ := sim_next' (q := q) O P hN H7
      have z7 : C7 (pA 3 z) 9 = nI k3 := by rw [s7 _ (by unfold pA; omega)]; exact z6
      have hc := Nat.mod_lt c (show 0 < k3 by omega)
      rw [if_neg (nI_nle (by omega) (by omega)), if_neg (nI_nle (by omega) (by omega)), bind_of rfl, bind_of (po_fl P), bind_of c2, bind_of (an_fl P hz), bind_of (wr_eq P hz z7 (by omega) g1 (by omega)), bind_of (an_ge P hz), bind_of rfl, bind_of (po_fl P)]
      dsimp only
      rw [bind_of d2, bind_of (an_geS P hz (by omega)), bind_of rfl, bind_of c3, bind_of (nz_nI (by omega) (by omega)), bind_of rfl]
      dsimp only
      rw [bind_of d3, bind_of rfl, fn_X6_at, bind_of rfl, at_eq]
      dsimp only
      rw [nk_34, pk_rem (by omega) (by omega) (by omega), nI_add, bind_of (re_S O (by omega)), by_of (nI d)]
      exact ⟨_, _, rfl, rfl, rfl, sm_gene H8 hN hz (by omega) (by_of (nI d))⟩
  · rw [if_neg hm, if_neg hm]
    exact ⟨_, _, rfl, rfl, rfl, H6⟩
end IH
