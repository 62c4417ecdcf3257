/-! animal, code, inner, tick: what they throw, and what they do -/
section TH
variable {L : cp_Lay} {w h B B' q N a : Nat} {C R C' R' D : cp_Dt}
/-- a call that may throw: which exception stands in tx -/
def Thr (w h B' : Nat) (f : cp_Dt → Option (Int32 × cp_Dt)) (tx : cp_Dt → Option (Nat × cp_Dt)) (g : cp_Dt → Option (Int32 × cp_Dt)) (th : Nat → Int32) (C R : cp_Dt) : Prop :=
  (tx C = none ∧ ∃ z C' R', f C = some (z, C') ∧ g R = some (z, R') ∧ Both w h B' C R 0 z C' R') ∨ ∃ k y R', tx C = some (k, C) ∧ g R = some (y, R') ∧ Both w h B' C R (th k) y C R'
theorem combT {f g : cp_Dt → Option (Int32 × cp_Dt)} {tx : cp_Dt → Option (Nat × cp_Dt)} {th : Nat → Int32} (hp : ∀ C R, Top w h B C R → Thr w h B' f tx g th C R) (T : Top w h B D D) :
    (∃ z C', f D = some (z, C') ∧ (∀ k, 143 ≤ k → C' k = D k) ∧ ∀ D1, (∀ k, k < 143 → D1 k = C' k) → (∀ k, 143 ≤ k → k < 146 → D1 k = D k) → ∃ D2, g D1 = some (z, D2) ∧ Top w h B' D2 D2 ∧ D2 143 0 = 0 ∧ ∀ k, 146 ≤ k → D2 k = D1 k) ∨
    ∃ k y D2, tx D = some (k, D) ∧ g D = some (y, D2) ∧ Top w h B' D2 D2 ∧ D2 143 0 = th k ∧ ∀ k, 146 ≤ k → D2 k = D k := by
  rcases hp D D T with ⟨h0, z, C', R', h1, h2, h3⟩ | ⟨k, y, R', h1, h2, h3, h4, -, h6, -⟩
  · refine Or.inl ⟨z, C', h1, h3.2.2.1, fun D1 a1 a2 => ?_⟩
    rcases hp D D1 (T.congr (fun _ _ => rfl) a2) with ⟨-, z2, C2, R2, g1, g2, g3, g4, -, g6, -⟩ | ⟨k, y, R2, g1, -⟩
    · rw [h1] at g1
      cases g1
      exact ⟨R2, g2, g3.congr (fun k hk => (g6 k (Or.inl hk)).trans (a1 k hk)) (fun _ _ _ => rfl), g4, fun k hk => g6 k (Or.inr hk)⟩
    · rw [h0] at g1
      cases g1
  · exact Or.inr ⟨k, y, R', h1, h2, h3.congr (fun k hk => h6 k (Or.inl hk)) (fun _ _ _ => rfl), h4, fun k hk => h6 k (Or.inr hk)⟩
theorem re_t (O : cp_ok L w h) (v : Int32) : cp_gI L (cp_up R 143 0 v) 143 6 0 = some v := by
  rw [re_gI O 0 (by omega), cp_up_eq, upd_eq]
theorem thr_tick (O : cp_ok L w h) (hq : 2000 ≤ q) (hB : B + 51500 < 2 ^ 29) (T : Top w h B C R) (x1 : Int32) : Thr w h (B + 51500) (fn_X0_tick L q 0 x1) (tx_X0_tick L q 0 x1) (fn_X6_tick L q 143 x1) (fun _ => 1) C R := by
  have bad : ∀ D, fn_X6_tick_L21 L q q 143 x1 0 (cp_up D 143 0 1) = some (0, cp_up D 143 0 1) := by
    intro D
    obtain ⟨n, hn⟩ : ∃ n, q = n + 1 := ⟨q - 1, by omega⟩
    conv => lhs; arg 3; rw [hn]
    rw [fn_X6_tick_L21, re_t O 1, bind_of rfl, bind_of rfl, if_neg (show ¬ (1 : Int32) ≤ 0 by decide), if_neg (show ¬ (1 : Int32) = 0 by decide), ite_self]
  by_cases h0 : x1 < 0
  · refine Or.inr ⟨1, 0, cp_up R 143 0 1, ?_, ?_, ?_⟩
    · unfold tx_X0_tick
      rw [if_pos h0]
    · unfold fn_X6_tick
      rw [if_pos h0, bind_of (re_pI O 0 _ (by omega)), bad]
    · exact Both.of T (by omega) ⟨(T.th 1).2.1.more (by omega), Fr.rf, FrR.rf⟩
  · by_cases h1 : x1 ≤ 50
    · obtain ⟨j, j1, j2⟩ := le_of_nlt (n := 50) (by omega) h0 h1
      refine Or.inl ⟨?_, ?_⟩
      · unfold tx_X0_tick
        rw [if_neg h0, if_pos h1]
      · rw [j2]
        exact sim_tick O hq hB T j1
    · refine Or.inr ⟨1, 0, cp_up R 143 0 1, ?_, ?_, ?_⟩
      · unfold tx_X0_tick
        rw [if_neg h0, if_neg h1]
      · unfold fn_X6_tick
        rw [if_neg h0, if_neg h1, bind_of (re_pI O 0 _ (by omega)), bad]
      · exact Both.of T (by omega) ⟨(T.th 1).2.1.more (by omega), Fr.rf, FrR.rf⟩
theorem thr_animal (O : cp_ok L w h) (hq : 2000 ≤ q) (hB : 1000 ≤ B) (T : Top w h B C R) (x1 x2 x3 x4 : Int32) : Thr w h B (fn_X0_animal L q 0 x1 x2 x3 x4) (tx_X0_animal L q 0 x1 x2 x3 x4) (fn_X6_animal L q 143 x1 x2 x3 x4) nI C R := by
  have hN := N_le O.1
  have P : cp_okP L (w * h) 3 := O.2.2.2.2.1
  obtain ⟨⟨s1, s2, -⟩, -, s5, s6⟩ := id T.1
  have H := T.2.1
  obtain ⟨c, c1, c2⟩ := cellv_in x1 x2 O.1
  unfold Thr tx_X0_animal fn_X6_animal fn_X0_animal
  by_cases h0 : x3 < 0
  · rw [if_pos h0, if_pos h0, if_pos h0, bind_of (re_pI O 0 _ (by omega)), bind_of (re_t O 1), if_neg (show ¬ (1 : Int32) ≤ 0 by decide)]
    exact Or.inr ⟨1, 0, _, rfl, rfl, Both.same T⟩
  rw [if_neg h0, if_neg h0, if_neg h0]
  by_cases h3 : (4 : Int32) ≤ x3
  · have h3' : (3 : Int32) < x3 := by
      rw [Int32.le_iff_toInt_le] at h3
      rw [Int32.lt_iff_toInt_lt]
      have e1 : (4 : Int32).toInt = 4 := by decide
      have e2 : (3 : Int32).toInt = 3 := by decide
      omega
    rw [if_pos h3, if_pos h3, if_pos h3', bind_of (re_pI O 0 _ (by omega)), bind_of (re_t O 1), if_neg (show ¬ (1 : Int32) ≤ 0 by decide)]
    exact Or.inr ⟨1, 0, _, rfl, rfl, Both.same T⟩
  have h3' : ¬ (3 : Int32) < x3 := by
    rw [Int32.le_iff_toInt_le] at h3
    rw [Int32.lt_iff_toInt_lt]
    have e1 : (4 : Int32).toInt = 4 := by decide
    have e2 : (3 : Int32).toInt = 3 := by decide
    omega
  rw [if_neg h3, if_neg h3, if_neg h3']
  obtain ⟨d, d1, rfl⟩ := le_of_nlt (n := 3) (by omega) h0 (Int32.not_lt.mp h3')
  by_cases h4 : x4 < 1
  · rw [if_pos h4, if_pos h4, if_pos h4, bind_of (re_pI O 0 _ (by omega)), bind_of (re_t O 1), if_neg (show ¬ (1 : Int32) ≤ 0 by decide)]
    exact Or.inr ⟨1, 0, _, rfl, rfl, Both.same T⟩
  rw [if_neg h4, if_neg h4, if_neg h4]
  by_cases h5 : x4 ≤ 1000
  · have h4' : ¬ x4 < 0 := by
      intro hh
      apply h4
      rw [Int32.lt_iff_toInt_lt] at hh ⊢
      have e1 : (0 : Int32).toInt = 0 := by decide
      have e2 : (1 : Int32).toInt = 1 := by decide
      omega
    obtain ⟨e, e1, rfl⟩ := le_of_nlt (n := 1000) (by omega) h4' h5
    obtain ⟨z, z1, z2, z3, z4⟩ := sim_free (q := q) O P hN hq H
    rw [if_pos h5, if_pos h5, if_pos h5]
    generalize hf : ((cp_gR L 0 0 0).bind fun r5 => (cp_fl L r5 5).bind fun f6 => (fn_X5_cellAt L q r5 x1 x2 C).bind fun y7 => (cp_gR L 0 0 1).bind fun r8 => (cp_fl L r8 4).bind fun f9 => (fn_X4_freeNumber L q r8 y7.2).bind fun y10 => (cp_gR L 0 0 1).bind fun r11 => (cp_gR L r11 4 3).bind fun r12 => (cp_aI L y10.2 0 r12 y7.1).bind fun v13 => if v13 = (-1 : Int32) then (if y10.1 = (-1 : Int32) then (none : Option (Int32 × cp_Dt)) else ((cp_gR L 0 0 1).bind fun r16 => (cp_fl L r16 4).bind fun f17 => (fn_X4_settle L q r16 y10.1 y7.1 (nI d) (nI e) y10.2).bind fun y18 => some (y10.1, y18.2))) else (none)) = f
    generalize ht : ((cp_gR L 0 0 0).bind fun r5 => (cp_fl L r5 5).bind fun f6 => (fn_X5_cellAt L q r5 x1 x2 C).bind fun y7 => (cp_gR L 0 0 1).bind fun r8 => (cp_fl L r8 4).bind fun f9 => (fn_X4_freeNumber L q r8 y7.2).bind fun y10 => (cp_gR L 0 0 1).bind fun r11 => (cp_gR L r11 4 3).bind fun r12 => (cp_aI L y10.2 0 r12 y7.1).bind fun v13 => if v13 = (-1 : Int32) then (if y10.1 = (-1 : Int32) then (some (2, y10.2) : Option (Nat × cp_Dt)) else ((cp_gR L 0 0 1).bind fun r16 => none)) else (some (2, y10.2))) = t
    rw [bind_of (top_sh O), bind_of O.2.2.1, bind_of (cl_cellAt O s1 s2 x1 x2), bind_of (top_now O), bind_of (po_fl P), c2] at hf ht
    dsimp only at hf ht
    rw [bind_of z4, bind_of (top_now O), bind_of (po_dw P)] at hf ht
    dsimp only at hf ht
    rw [bind_of (po_dwI P (by omega) c1)] at hf ht
    rw [bind_of (re_fl O), bind_of (re_cellAt O s5 s6 x1 x2), bind_of (re_fl O), c2]
    dsimp only
    rw [bind_of (ref_inCell O hN hq H c1)]
    dsimp only
    rcases dw_or H c1 with g | ⟨x, y1, y2, -⟩
    · rw [g, if_pos rfl] at hf ht
      rw [g, if_neg (show ¬ (0 : Int32) ≤ -1 by decide), bind_of (re_fl O), bind_of z3]
      dsimp only
      by_cases hz : z = 16
      · subst hz
        rw [if_pos rfl, if_pos rfl] at ht
        rw [if_pos (show nI 16 = 16 from rfl), bind_of (re_pI O 0 _ (by omega)), bind_of (re_t O 2), if_neg (show ¬ (2 : Int32) ≤ 0 by decide)]
        exact Or.inr ⟨2, 0, _, ht.symm, rfl, Both.same T⟩
      · have hz16 : z < 16 := by omega
        have T1 := T.th 0
        obtain ⟨z', z1', z2', z3', z4'⟩ := sim_free (q := q) O P hN hq T1.2.1
        have hzz : z' = z := by
          rw [z4] at z4'
          have := congrArg Prod.fst (Option.some.inj z4')
          dsimp only at this
          rw [if_neg hz] at this
          by_cases hz' : z' = 16
          · rw [if_pos hz'] at this
            exact absurd this (nI_m1 (by omega))
          · rw [if_neg hz'] at this
            exact (nI_inj (by omega) (by omega) this).symm
        subst hzz
        obtain ⟨C3, m1, X⟩ := cl_settle (q := q) (C := C) (d := d) (e := e) P hN hq hz16 c1
        obtain ⟨R3, m2, Y⟩ := re_make (q := q) (R := cp_up R 143 0 0) (x1 := nI c) (x2 := nI d) (x3 := nI e) O hz16 hq
        have A7 := rel_born T1.2.1 hN hz16 (z2 hz16) c1 g (by omega) (Nat.le_trans e1 hB) X Y
        obtain ⟨X0, -⟩ := X
        obtain ⟨Y0, -⟩ := Y
        rw [if_neg hz, if_neg (nI_m1 (by omega)), bind_of (top_now O), bind_of (po_fl P), bind_of m1] at hf
        rw [if_neg hz, if_neg (nI_m1 (by omega)), bind_of (top_now O)] at ht
        rw [if_neg (show ¬ nI z' = (16 : Int32) from fun e => hz (nI_inj (c := 16) (by omega) (by omega) e)), bind_of (re_pI O 0 _ (by omega)), bind_of (re_t O 0), if_pos (show (0 : Int32) ≤ 0 by decide), bind_of (re_fl O), bind_of z3', bind_of (re_fl O)]
        dsimp only
        rw [bind_of (re_cellAt O T1.1.2.2.1 T1.1.2.2.2 x1 x2), c2, bind_of (re_fl O)]
        dsimp only
        rw [bind_of m2]
        refine Or.inl ⟨ht.symm, _, _, _, hf.symm, rfl, Both.of T (Nat.le_refl _) ⟨A7, fun k hk => X0 k (by have := (pl_lt hz16).1; omega) (by have := (pl_lt hz16).2.1; omega) (by have := (pl_lt hz16).2.2.1; omega) (by unfold pDw; omega), Y0⟩⟩
    · rw [y2, if_neg (nI_m1 (by omega))] at ht
      rw [y2, if_pos (nI_pos' (by omega)), bind_of (re_pI O 0 _ (by omega)), bind_of (re_t O 2), if_neg (show ¬ (2 : Int32) ≤ 0 by decide)]
      exact Or.inr ⟨2, 0, _, ht.symm, rfl, Both.same T⟩
  · rw [if_neg h5, if_neg h5, if_neg h5, bind_of (re_pI O 0 _ (by omega)), bind_of (re_t O 1), if_neg (show ¬ (1 : Int32) ≤ 0 by decide)]
    exact Or.inr ⟨1, 0, _, rfl, rfl, Both.same T⟩
theorem sim_code_L {x1 x2 : Int32} {x3 : Int64} {C0 R0 : cp_Dt} (O : cp_ok L w h) (P : cp_okP L N 3) (hN : N ≤ 100) (ha : a < 16) (hla : C0 (pA 3 a) 3 = 1) : ∀ (m l n : Nat) (C R : cp_Dt), l + m ≤ 20 → m < n → Sm N B C0 R0 C R → C (pA 3 a) 9 = nI l →
    ∃ z C' R', fn_X0_code_L70 L q n 0 x1 x2 x3 (pA 3 a) (nI m - 1) C = some (z, C') ∧ fn_X6_code_L82 L q n 143 x1 x2 x3 (nI (200 + 64 * a)) (nI m - 1) R = some (z, R') ∧ Sm N B C0 R0 C' R' := by
  intro m
  induction m with
  | zero =>
    intro l n C R h1 h2 H h9
    obtain ⟨n, rfl⟩ : ∃ k, n = k + 1 := ⟨n - 1, by omega⟩
    obtain ⟨⟨-, k2, -⟩, -⟩ := rel_liv H.1 ha ((H.2.2.2 a).trans hla)
    have r5 : R 144 (200 + 64 * a + 5) = nI l := (k2 9 (by omega) (by omega) (by omega)).symm.trans h9
    rw [fn_X0_code_L70, fn_X6_code_L82, if_pos (show nI 0 - 1 < 0 by decide), if_pos (show nI 0 - 1 < 0 by decide), bind_of (an_gI P ha 9 (by decide)), h9, bind_of (re_now O), nk_5, bind_of (re_I O (by omega)), r5]
    exact ⟨_, _, _, rfl, rfl, H⟩
  | succ m ih =>
    intro l n C R h1 h2 H h9
    obtain ⟨n, rfl⟩ : ∃ k, n = k + 1 := ⟨n - 1, by omega⟩
    obtain ⟨⟨-, k2, -⟩, -⟩ := rel_liv H.1 ha ((H.2.2.2 a).trans hla)
    have r5 : R 144 (200 + 64 * a + 5) = nI l := (k2 9 (by omega) (by omega) (by omega)).symm.trans h9
    rw [nI_pred]
    generalize hv : (((x3 >>> (((8 : Int32) * nI m).toInt64 &&& 63)).toInt32).toInt8.toInt32) = v
    have hb : cp_by v := by rw [← hv]; exact by_of _
    have H1 := sm_grow H hN ha (n := l) (by omega) h9 hb
    have e1 : nI m + -1 = nI m - 1 := (Int32.sub_eq_add_neg (nI m) 1).symm
    rw [fn_X0_code_L70, fn_X6_code_L82, if_neg (nI_pos (by omega)), if_neg (nI_pos (by omega)), bind_of (an_fl P ha), hv, bind_of (cl_grow P ha (n := l) (by omega) h9 hb), re_now O, bind_of rfl, bind_of rfl, nk_5, bind_of (re_I O (by omega)), r5, nk_34, nI_add, bind_of (re_S O (by omega)), bind_of rfl, bind_of (re_I O (by omega)), cp_up_eq, upd_ne (by omega), r5, nI_1, bind_of (re_S O (by omega)), e1]
    exact ih (l + 1) n _ _ (by omega) (by omega) H1 (by rw [up_AA, if_pos rfl, upd_eq])
theorem thr_code (O : cp_ok L w h) (hq : 2000 ≤ q) (T : Top w h B C R) (x1 x2 : Int32) (x3 : Int64) : Thr w h B (fn_X0_code L q 0 x1 x2 x3) (tx_X0_code L q 0 x1 x2 x3) (fn_X6_code L q 143 x1 x2 x3) nI C R := by
  have hN := N_le O.1
  have P : cp_okP L (w * h) 3 := O.2.2.2.2.1
  unfold Thr tx_X0_code fn_X6_code fn_X0_code
  by_cases h0 : x2 < 1
  · rw [if_pos h0, if_pos h0, if_pos h0, bind_of (re_pI O 0 _ (by omega)), bind_of (re_t O 1), if_neg (show ¬ (1 : Int32) ≤ 0 by decide)]
    exact Or.inr ⟨1, 0, _, rfl, rfl, Both.same T⟩
  rw [if_neg h0, if_neg h0, if_neg h0]
  by_cases h8 : 8 < x2
  · rw [if_pos h8, if_pos h8, if_pos h8, bind_of (re_pI O 0 _ (by omega)), bind_of (re_t O 1), if_neg (show ¬ (1 : Int32) ≤ 0 by decide)]
    exact Or.inr ⟨1, 0, _, rfl, rfl, Both.same T⟩
  rw [if_neg h8, if_neg h8, if_neg h8, bind_of (top_now O), bind_of (po_fl P), bind_of (top_now O), bind_of (po_fl P), bind_of (re_fl O)]
  have h0' : ¬ x2 < 0 := by
    intro hh
    apply h0
    rw [Int32.lt_iff_toInt_lt] at hh ⊢
    have e1 : (0 : Int32).toInt = 0 := by decide
    have e2 : (1 : Int32).toInt = 1 := by decide
    omega
  obtain ⟨n, n1, rfl⟩ := le_of_nlt (n := 8) (by omega) h0' (Int32.not_lt.mp h8)
  rcases no_ani (q := q) O T x1 with ⟨e1, e2⟩ | ⟨a, ha, rfl, hl, e1, e2⟩
  · rw [bind_of e1, bind_of e1, bind_of e2, if_pos rfl, if_pos rfl, if_pos rfl, bind_of (re_pI O 0 _ (by omega)), bind_of (re_t O 1), if_neg (show ¬ (1 : Int32) ≤ 0 by decide)]
    exact Or.inr ⟨1, 0, _, rfl, rfl, Both.same T⟩
  · have T1 := T.th 0
    obtain ⟨⟨k1, k2, k3, -⟩, -, -, -, -, ⟨l, l1, l2⟩, -⟩ := rel_liv T1.2.1 ha hl
    have r5 : cp_up R 143 0 0 144 (200 + 64 * a + 5) = nI l := (k2 9 (by omega) (by omega) (by omega)).symm.trans l2
    rw [bind_of e1, bind_of e1, bind_of e2]
    dsimp only
    rw [if_neg (show ¬ (1 : Int32) = 0 by decide), if_neg (show ¬ (1 : Int32) = 0 by decide), if_neg (show ¬ (1 : Int32) = 0 by decide), bind_of (top_now O), bind_of (po_ar P), bind_of (po_an P ha), bind_of (an_gI P ha 9 (by decide)), bind_of (top_now O), bind_of (po_ar P), bind_of (po_an P ha), bind_of (an_gI P ha 9 (by decide)), l2, bind_of (re_pI O 0 _ (by omega)), bind_of (re_t O 0), if_pos (show (0 : Int32) ≤ 0 by decide), fn_X6_at, bind_of rfl, at_eq, bind_of (re_now O)]
    dsimp only
    rw [nk_5, bind_of (re_I O (by omega)), r5]
    by_cases h20 : nI l + nI n ≤ 20
    · have hln : l + n ≤ 20 := by
        rw [nI_add] at h20
        exact (nI_leI (b := 20) (by omega) (by omega)).mp h20
      rw [if_pos h20, if_pos h20, if_pos h20, bind_of (re_pI O 0 _ (by omega)), cp_up_up, bind_of (re_t O 0), if_pos (show (0 : Int32) ≤ 0 by decide)]
      obtain ⟨z, C2, R2, y1, y2, y3⟩ := sim_code_L (q := q) (x1 := nI a) (x2 := nI n) (x3 := x3) (C0 := C) (R0 := cp_up R 143 0 0) O P hN ha hl n l q C (cp_up R 143 0 0) hln (by omega) (Sm.rf T1.2.1) l2
      exact Or.inl ⟨rfl, z, C2, R2, y1, y2, Both.of T (Nat.le_refl _) y3.x⟩
    · rw [if_neg h20, if_neg h20, if_neg h20, bind_of (re_pI O 0 _ (by omega)), cp_up_up, bind_of (re_t O 2), if_neg (show ¬ (2 : Int32) ≤ 0 by decide)]
      exact Or.inr ⟨2, 0, _, rfl, rfl, Both.same T⟩
theorem thr_inner (O : cp_ok L w h) (T : Top w h B C R) (x1 x2 x3 : Int32) : Thr w h B (fn_X0_inner L q 0 x1 x2 x3) (tx_X0_inner L q 0 x1 x2 x3) (fn_X6_inner L q 143 x1 x2 x3) (fun _ => 1) C R := by
  have hN := N_le O.1
  have P : cp_okP L (w * h) 3 := O.2.2.2.2.1
  unfold Thr tx_X0_inner fn_X6_inner fn_X0_inner
  rw [bind_of (top_now O), bind_of (po_fl P), bind_of (top_now O), bind_of (po_fl P), bind_of (re_fl O)]
  rcases no_ani (q := q) O T x1 with ⟨e1, e2⟩ | ⟨a, ha, rfl, hl, e1, e2⟩
  · rw [bind_of e1, bind_of e1, bind_of e2, if_pos rfl, if_pos rfl, if_pos rfl, bind_of (re_pI O 0 _ (by omega)), bind_of (re_t O 1), if_neg (show ¬ (1 : Int32) ≤ 0 by decide)]
    exact Or.inr ⟨3, 0, _, rfl, rfl, Both.same T⟩
  · have T1 := T.th 0
    obtain ⟨⟨k1, k2, k3, k4, k5⟩, -, -, -, -, ⟨l, l1, l2⟩, -⟩ := rel_liv T1.2.1 ha hl
    obtain ⟨-, -, bm, bg⟩ := T1.2.1.2.2.2.2.1 a ha
    have r5 : cp_up R 143 0 0 144 (200 + 64 * a + 5) = nI l := (k2 9 (by omega) (by omega) (by omega)).symm.trans l2
    rw [bind_of e1, bind_of e1, bind_of e2]
    dsimp only
    rw [if_neg (show ¬ (1 : Int32) = 0 by decide), if_neg (show ¬ (1 : Int32) = 0 by decide), if_neg (show ¬ (1 : Int32) = 0 by decide), bind_of (top_now O), bind_of (po_ar P), bind_of (po_an P ha), bind_of (top_now O), bind_of (po_ar P), bind_of (po_an P ha), an_gI P ha 9 (by decide), bind_of rfl, bind_of rfl, l2]
    by_cases h3 : x3 < 0
    · rw [if_pos h3, if_pos h3, if_pos h3, if_pos h3, if_neg (show ¬ (0 : Int32) ≤ x3 from Int32.not_le.mpr h3), bind_of (re_pI O 0 _ (by omega)), bind_of (re_t O 1), if_neg (show ¬ (1 : Int32) ≤ 0 by decide), ite_self]
      exact Or.inr ⟨3, 0, _, rfl, rfl, Both.same T⟩
    · rw [if_neg h3, if_neg h3, if_neg h3, if_neg h3, if_pos (show (0 : Int32) ≤ x3 from Int32.not_lt.mp h3), bind_of (re_pI O 0 _ (by omega)), bind_of (re_t O 0), if_pos (show (0 : Int32) ≤ 0 by decide)]
      obtain ⟨j, j1, rfl⟩ := nI_of h3
      by_cases h2 : x2 = 0
      · rw [if_pos h2, if_pos h2, if_pos h2, if_pos h2, if_pos h2]
        by_cases h16 : nI j < 16
        · have hj : j < 16 := (nI_ltI (b := 16) j1 (by omega)).mp h16
          rw [if_pos h16, if_pos h16, if_pos h16, bind_of (an_me P ha), bind_of (an_meI P ha hj), bind_of (an_me P ha), bind_of (an_meI P ha hj), bind_of (re_pI O 0 _ (by omega)), cp_up_up, bind_of (re_t O 0), if_pos (show (0 : Int32) ≤ 0 by decide), bind_of (re_now O), fn_X6_at, bind_of rfl, at_eq, if_pos h2]
          dsimp only
          rw [nk_18, nI_add, bind_of (re_I O (by omega)), ← k4 j hj, bm j hj, show cp_gby (C (pM 3 a) j) = some () from if_pos (bm j hj), bind_of rfl, bind_of rfl]
          exact Or.inl ⟨rfl, _, _, _, rfl, rfl, Both.same T⟩
        · rw [if_neg h16, if_neg h16, if_neg h16, bind_of (re_pI O 0 _ (by omega)), cp_up_up, bind_of (re_t O 1), if_neg (show ¬ (1 : Int32) ≤ 0 by decide)]
          exact Or.inr ⟨3, 0, _, rfl, rfl, Both.same T⟩
      · rw [if_neg h2, if_neg h2, if_neg h2, if_neg h2, if_neg h2, bind_of (re_now O), fn_X6_at, bind_of rfl, at_eq]
        dsimp only
        rw [nk_5, bind_of (re_I O (by omega)), r5]
        by_cases hjl : nI j < nI l
        · have hj : j < l := (nI_ltI j1 (by omega)).mp hjl
          rw [if_pos hjl, if_pos hjl, if_pos hjl, bind_of (an_ge P ha), bind_of (an_geI P ha (by omega)), bind_of (an_ge P ha), bind_of (an_geI P ha (by omega)), bind_of (re_pI O 0 _ (by omega)), cp_up_up, bind_of (re_t O 0), if_pos (show (0 : Int32) ≤ 0 by decide), bind_of (re_now O), fn_X6_at, bind_of rfl, at_eq, if_neg h2]
          dsimp only
          rw [nk_34, nI_add, bind_of (re_I O (by omega)), ← k5 j l l2 l1 hj, bg j (by omega), show cp_gby (C (pG 3 a) j) = some () from if_pos (bg j (by omega)), bind_of rfl, bind_of rfl]
          exact Or.inl ⟨rfl, _, _, _, rfl, rfl, Both.same T⟩
        · rw [if_neg hjl, if_neg hjl, if_neg hjl, bind_of (re_pI O 0 _ (by omega)), cp_up_up, bind_of (re_t O 1), if_neg (show ¬ (1 : Int32) ≤ 0 by decide)]
          exact Or.inr ⟨3, 0, _, rfl, rfl, Both.same T⟩
end TH
