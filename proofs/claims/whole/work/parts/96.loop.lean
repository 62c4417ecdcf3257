/-! The law: its loop -/
theorem lp_cmp {N i : Nat} (hN : N ≤ 2562) (hi : i ≤ 2600) (h : ¬ Int32.ofNat N - 5 < nI i) : i + 5 ≤ N := by
  by_cases h5 : 5 ≤ N
  · have e1 : Int32.ofNat N = nI (N - 5) + nI 5 := by
      rw [nI_add, show N - 5 + 5 = N by omega]
      rfl
    have e2 : Int32.ofNat N - 5 = nI (N - 5) := by
      rw [e1]
      exact Int32.add_sub_cancel _ _
    rw [e2] at h
    have h2 : ¬ N - 5 < i := fun g => h ((nI_ltI (by omega) (by omega)).mpr g)
    omega
  · exfalso
    apply h
    have h1 : Int32.ofNat N - 5 < 0 := by
      rcases (show N = 0 ∨ N = 1 ∨ N = 2 ∨ N = 3 ∨ N = 4 by omega) with rfl | rfl | rfl | rfl | rfl <;> decide
    have h2 : ¬ nI i < 0 := nI_pos (by omega)
    exact Int32.lt_of_lt_of_le h1 (Int32.not_lt.mp h2)
theorem lp_b {Bd k : Nat} (h : Bd + 51500 * (k + 1) < 2 ^ 29) : Bd + 51500 < 2 ^ 29 ∧ Bd + 51500 + 51500 * k < 2 ^ 29 := by
  rw [Nat.mul_succ] at h
  generalize 51500 * k = z at h ⊢
  generalize (2 : Nat) ^ 29 = y at h ⊢
  omega
section LWL
variable {p : Program} {l : Launch} {e : Env} {s : State} {m : MethodId} {below : List Frame} {meth : Method} {c : Code} {G : va_G} {L : cp_Lay} {b N w h q : Nat} {xs : Nat → Int32}
set_option maxHeartbeats 4000000 in
theorem lw_loop (X : lw_C p l G L s m #[Value.ref b] c b N xs) (O : cp_ok L w h) (hq : 2000 ≤ q) (hN : N ≤ 2562) (hr : meth.sig.returnType = ret) (hlocks : meth.locks = false) : ∀ (k i Bd : Nat) (D : cp_Dt) (H : Heap) (locs : List Loc) (ls : Array Slot) (cells slots : Nat), N < i + 5 + 5 * k → i ≤ 2562 → 1000 ≤ Bd → Bd + 51500 * k < 2 ^ 29 → cells + k ≤ 601024 → slots + 6 * k ≤ 7293000 → Top w h Bd D D → va_P G vwCl (cp_ws L D) H → va_S (lw_A s) s.heap H locs → lv_has ls 7 [(4, .int (nI i)), (3, .ref (L.2.1 146)), (2, .ref (L.2.1 143)), (1, .ref (L.2.1 0)), (0, .ref b)] → W p l e room_1 s m #[Value.ref b] below meth c H locs cells slots (lw_Z below #[Value.ref b] s) (F0 m 43 ls []) := by
  have X0 := X
  obtain ⟨hx, hb, hml, hown, htT, hcw, hst, hJ, hA, hK, hNn, hZ, hE, hNC, hX, hbl⟩ := X
  intro k
  induction k with
  | zero =>
    intro i Bd D H locs ls cells slots h1 h2 h3 h4 h5 h6 T hP hS hl
    refine lv_iload hx hb dLAW_43 (lv_at hl 0 rfl) ?_
    refine lv_aload_n hx hb dLAW_45 rfl (lv_at hl 4 rfl) ?_
    refine va_slen hx hb hX hbl (fun h => by have : s.heap.size ≤ b := h; omega) hS dLAW_46 ?_
    refine lv_iconst (v := (5 : Int32)) hx hb dLAW_47 (by decide) ?_
    refine lv_isub hx hb dLAW_48 ?_
    refine lv_icmp_gt (tgt := 776) hx hb dLAW_49 (by decide) (fun hc => ?_) (fun hc => ?_)
    · refine lv_iconst (v := (1 : Int32)) hx hb dLAW_776 (by decide) ?_
      refine va_forget (fun q hq => hS.2.2 q hq) ?_
      exact W.widen (by omega) (by omega) (lw_ret hx hb hr hlocks dLAW_777)
    · have := lp_cmp hN (by omega) hc
      omega
  | succ k ih =>
    intro i Bd D H locs ls cells slots h1 h2 h3 h4 h5 h6 T hP hS hl
    refine lv_iload hx hb dLAW_43 (lv_at hl 0 rfl) ?_
    refine lv_aload_n hx hb dLAW_45 rfl (lv_at hl 4 rfl) ?_
    refine va_slen hx hb hX hbl (fun h => by have : s.heap.size ≤ b := h; omega) hS dLAW_46 ?_
    refine lv_iconst (v := (5 : Int32)) hx hb dLAW_47 (by decide) ?_
    refine lv_isub hx hb dLAW_48 ?_
    refine lv_icmp_gt (tgt := 776) hx hb dLAW_49 (by decide) (fun hc => ?_) (fun hc => ?_)
    · refine lv_iconst (v := (1 : Int32)) hx hb dLAW_776 (by decide) ?_
      refine va_forget (fun q hq => hS.2.2 q hq) ?_
      exact W.widen (by omega) (by omega) (lw_ret hx hb hr hlocks dLAW_777)
    · have hi := lp_cmp hN (by omega) hc
      obtain ⟨D', hF, T'⟩ := lo_turn (xs := xs) O hq h3 (lp_b h4).1 T (show i + 4 < N by omega) hN
      refine lw_turn X0 q hF (by omega) (by omega) hP hS hl (fun H locs ls hP hS hl => ?_)
      refine lv_iinc (k := 0) (v := nI i + 5) (lv' := [(4, .int (nI i + 5)), (3, .ref (L.2.1 146)), (2, .ref (L.2.1 143)), (1, .ref (L.2.1 0)), (0, .ref b)]) hx hb dLAW_770 hl rfl (congrArg (fun z => nI i + z) (by decide)) (by decide) rfl (fun ls hl => ?_)
      refine lv_goto (tgt := 43) hx hb dLAW_773 (by decide) ?_
      rw [show nI i + 5 = nI (i + 5) from nI_add i 5] at hl
      exact ih (i + 5) (Bd + 51500) D' H locs ls (cells + 1) (slots + 6) (by omega) (by omega) (Nat.le_trans h3 (Nat.le_add_right _ _)) (lp_b h4).2 (by omega) (by omega) T' hP hS hl
end LWL
