/-! Cells go round: floorMod and the reference's round are one -/
def rnd (x n : Int32) : Int32 := if 0 ≤ (x - x / n * n) then (x - x / n * n) else ((x - x / n * n) + n)
theorem ti_sub {a b : Int32} (h1 : -2147483648 ≤ a.toInt - b.toInt) (h2 : a.toInt - b.toInt ≤ 2147483647) : (a - b).toInt = a.toInt - b.toInt := by
  rw [Int32.toInt_sub]
  exact Int.bmod_eq_of_le (by omega) (by omega)
theorem ti_add {a b : Int32} (h1 : -2147483648 ≤ a.toInt + b.toInt) (h2 : a.toInt + b.toInt ≤ 2147483647) : (a + b).toInt = a.toInt + b.toInt := by
  rw [Int32.toInt_add]
  exact Int.bmod_eq_of_le (by omega) (by omega)
theorem ti_mul {a b : Int32} (h1 : -2147483648 ≤ a.toInt * b.toInt) (h2 : a.toInt * b.toInt ≤ 2147483647) : (a * b).toInt = a.toInt * b.toInt := by
  rw [Int32.toInt_mul]
  exact Int.bmod_eq_of_le (by omega) (by omega)
theorem ti_rng (x : Int32) : -2147483648 ≤ x.toInt ∧ x.toInt ≤ 2147483647 := by
  have h1 := Int32.le_toInt x
  have h2 := Int32.toInt_lt x
  omega
theorem rm_toInt (x : Int32) {n : Nat} (h0 : 0 < n) (hn : n < 2 ^ 31) : (x - x / nI n * nI n).toInt = x.toInt.tmod n := by
  have hx := ti_rng x
  have hn1 := nI_toInt hn
  have hd : (x / nI n).toInt = x.toInt.tdiv n := by
    rw [Int32.toInt_div, hn1]
    have a1 : (x.toInt.tdiv n).natAbs ≤ x.toInt.natAbs := Int.natAbs_tdiv_le_natAbs _ _
    refine Int.bmod_eq_of_le ?_ ?_
    · have := Int.natAbs_tdiv_le_natAbs x.toInt n
      omega
    · by_cases hp : 0 ≤ x.toInt
      · have := Int.natAbs_tdiv_le_natAbs x.toInt n
        omega
      · have : x.toInt.tdiv n ≤ 0 := by
          have e : x.toInt = -(-x.toInt) := by omega
          rw [e, Int.neg_tdiv]
          have := Int.tdiv_nonneg (a := -x.toInt) (b := n) (by omega) (by omega)
          omega
        omega
  have hm := Int.tdiv_mul_add_tmod x.toInt n
  have hk : (x.toInt.tmod n).natAbs ≤ x.toInt.natAbs := by
    rw [Int.natAbs_tmod]
    exact Nat.mod_le _ _
  have hs : 0 ≤ x.toInt → 0 ≤ x.toInt.tmod n := fun h => Int.tmod_nonneg _ h
  have hs2 : x.toInt ≤ 0 → x.toInt.tmod n ≤ 0 := fun h => by
    have e : x.toInt = -(-x.toInt) := by omega
    rw [e, Int.neg_tmod]
    have := Int.tmod_nonneg n (a := -x.toInt) (by omega)
    omega
  have hp : (x / nI n * nI n).toInt = x.toInt.tdiv n * n := by
    rw [ti_mul, hd, hn1]
    · rw [hd, hn1]
      omega
    · rw [hd, hn1]
      omega
  rw [ti_sub, hp]
  · omega
  · rw [hp]
    omega
  · rw [hp]
    omega
theorem rnd_in (x : Int32) {n : Nat} (h0 : 0 < n) (hn : n < 2 ^ 30) : ∃ r, r < n ∧ rnd x (nI n) = nI r := by
  have h1 := rm_toInt x h0 (by omega)
  have hn1 := nI_toInt (n := n) (by omega)
  have h2 : (x.toInt.tmod n).natAbs < n := by
    rw [Int.natAbs_tmod]
    exact Nat.mod_lt _ (by omega)
  unfold rnd
  by_cases hc : 0 ≤ (x - x / nI n * nI n)
  · rw [if_pos hc]
    have h3 : 0 ≤ (x - x / nI n * nI n).toInt := Int32.le_iff_toInt_le.mp hc
    refine ⟨(x - x / nI n * nI n).toInt.toNat, by omega, Int32.toInt_inj.mp ?_⟩
    rw [nI_toInt (by omega)]
    omega
  · rw [if_neg hc]
    have h3 : (x - x / nI n * nI n).toInt < 0 := by
      have := mt Int32.le_iff_toInt_le.mpr hc
      have z : (0 : Int32).toInt = 0 := by decide
      omega
    have h4 : ((x - x / nI n * nI n) + nI n).toInt = (x - x / nI n * nI n).toInt + n := by
      rw [ti_add, hn1] <;> omega
    refine ⟨((x - x / nI n * nI n) + nI n).toInt.toNat, by omega, Int32.toInt_inj.mp ?_⟩
    rw [nI_toInt (by omega)]
    omega
theorem xor_sign (x : Int32) {n : Nat} (hn : n < 2 ^ 31) : 0 ≤ (x ^^^ nI n) ↔ 0 ≤ x := by
  have key : ∀ y : Int32, 0 ≤ y ↔ y.toBitVec.msb = false := by
    intro y
    rw [Int32.le_iff_toInt_le]
    have z : (0 : Int32).toInt = 0 := by decide
    rw [z]
    have e : y.toInt = y.toBitVec.toInt := rfl
    rw [e, BitVec.toInt_eq_msb_cond]
    have hl := y.toBitVec.isLt
    cases h : y.toBitVec.msb with
    | true =>
      simp
      omega
    | false => simp
  rw [key, key]
  have hm : (nI n).toBitVec.msb = false := (key (nI n)).mp (nI_pos' hn)
  have e : (x ^^^ nI n).toBitVec = x.toBitVec ^^^ (nI n).toBitVec := rfl
  rw [e, BitVec.msb_xor, hm]
  simp
section CE
variable {L : cp_Lay} {w h N B q : Nat} {C R D : cp_Dt}
theorem nz_nI {n : Nat} (h0 : 0 < n) (hn : n < 2 ^ 31) : cp_nz (nI n) = some () := if_neg (nI_ne0 h0 hn)
theorem fm_eq (x : Int32) {n : Nat} (h0 : 0 < n) (hn : n < 2 ^ 30) : fn_J_floorMod L q x (nI n) D = some (rnd x (nI n), D) := by
  unfold fn_J_floorMod
  rw [nz_nI h0 (by omega)]
  simp only [Option.bind_some]
  have h1 := rm_toInt x h0 (by omega)
  have z : (0 : Int32).toInt = 0 := by decide
  unfold rnd
  by_cases hx : 0 ≤ x
  · rw [if_pos ((xor_sign x (by omega)).mpr hx), if_pos]
    rw [Int32.le_iff_toInt_le, h1, z]
    exact Int.tmod_nonneg _ (by have := Int32.le_iff_toInt_le.mp hx; omega)
  · rw [if_neg (fun h => hx ((xor_sign x (by omega)).mp h))]
    by_cases hm : (x - x / nI n * nI n) = 0
    · rw [if_pos hm, if_pos (by rw [hm]; decide)]
    · rw [if_neg hm, if_neg]
      intro hc
      have h3 := Int32.le_iff_toInt_le.mp hc
      have h4 : x.toInt < 0 := by
        have := mt Int32.le_iff_toInt_le.mpr hx
        omega
      have h5 : x.toInt.tmod n ≤ 0 := by
        have e : x.toInt = -(-x.toInt) := by omega
        rw [e, Int.neg_tmod]
        have := Int.tmod_nonneg n (a := -x.toInt) (by omega)
        omega
      exact hm (Int32.toInt_inj.mp (by omega))
theorem ro_eq (x : Int32) {n : Nat} (h0 : 0 < n) (hn : n < 2 ^ 31) : fn_X6_round L q x (nI n) D = some (rnd x (nI n), D) := by
  unfold fn_X6_round rnd
  rw [nz_nI h0 hn]
  simp only [Option.bind_some]
  by_cases hc : 0 ≤ (x - x / nI n * nI n)
  · rw [if_pos hc, if_pos hc]
  · rw [if_neg hc, if_neg hc]
def cellv (w h : Nat) (x y : Int32) : Int32 := rnd x (nI w) + rnd y (nI h) * nI w
theorem cellv_in (x y : Int32) (hw : 3 ≤ w ∧ w ≤ 10 ∧ 3 ≤ h ∧ h ≤ 10) : ∃ c, c < w * h ∧ cellv w h x y = nI c := by
  obtain ⟨r, r1, r2⟩ := rnd_in x (n := w) (by omega) (by omega)
  obtain ⟨s, s1, s2⟩ := rnd_in y (n := h) (by omega) (by omega)
  refine ⟨r + s * w, ?_, ?_⟩
  · have : s * w + w ≤ w * h := by
      have := Nat.mul_le_mul_right w (show s + 1 ≤ h by omega)
      rw [Nat.add_mul, Nat.one_mul] at this
      rw [Nat.mul_comm w h]
      exact this
    omega
  · unfold cellv
    rw [r2, s2, pk_mul, nI_add]
theorem N_le (hw : 3 ≤ w ∧ w ≤ 10 ∧ 3 ≤ h ∧ h ≤ 10) : w * h ≤ 100 := by
  have := Nat.mul_le_mul hw.2.1 hw.2.2.2
  omega
theorem sh_gI (O : cp_ok L w h) (j : Nat) (hj : j < 3) : cp_gI L D 1 5 j = some (D 1 j) := by
  refine cp_gI_of O.2.2.1 ?_
  match j, hj with
  | 0, _ | 1, _ | 2, _ => rfl
theorem cl_cellAt (O : cp_ok L w h) (h1 : D 1 0 = nI w) (h2 : D 1 1 = nI h) (x y : Int32) : fn_X5_cellAt L q 1 x y D = some (cellv w h x y, D) := by
  obtain ⟨⟨w1, w2, w3, w4⟩, -⟩ := id O
  unfold fn_X5_cellAt cellv
  simp only [sh_gI O 0 (by decide), sh_gI O 1 (by decide), Option.bind_some, h1, h2, fm_eq x (n := w) (by omega) (by omega), fm_eq y (n := h) (by omega) (by omega)]
theorem re_cellAt (O : cp_ok L w h) (h1 : D 143 1 = nI w) (h2 : D 143 2 = nI h) (x y : Int32) : fn_X6_cellAt L q 143 x y D = some (cellv w h x y, D) := by
  obtain ⟨⟨w1, w2, w3, w4⟩, -⟩ := id O
  unfold fn_X6_cellAt cellv
  simp only [re_gI O 1 (by decide), re_gI O 2 (by decide), Option.bind_some, h1, h2, ro_eq x (n := w) (by omega) (by omega), ro_eq y (n := h) (by omega) (by omega)]
end CE
