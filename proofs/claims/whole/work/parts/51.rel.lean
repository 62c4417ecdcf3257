/-! Reading after a write, by kinds of places -/
theorem up_oo {D : cp_Dt} {b j : Nat} {v : Int32} : cp_up D (b) j v (b) = upd (D (b)) j v := cp_up_eq
theorem up_or {D : cp_Dt} {b j : Nat} {v : Int32} : cp_up D (b) j v (pAr b) = D (pAr b) := cp_up_ne (by unfold pAr; omega)
theorem up_og {D : cp_Dt} {b j : Nat} {v : Int32} : cp_up D (b) j v (pGr b) = D (pGr b) := cp_up_ne (by unfold pGr; omega)
theorem up_om {D : cp_Dt} {b j : Nat} {v : Int32} : cp_up D (b) j v (pMk b) = D (pMk b) := cp_up_ne (by unfold pMk; omega)
theorem up_od {D : cp_Dt} {b j : Nat} {v : Int32} : cp_up D (b) j v (pDw b) = D (pDw b) := cp_up_ne (by unfold pDw; omega)
theorem up_oA {D : cp_Dt} {b c j : Nat} {v : Int32} : cp_up D (b) j v (pA b c) = D (pA b c) := cp_up_ne (by unfold pA; omega)
theorem up_oR {D : cp_Dt} {b c j : Nat} {v : Int32} : cp_up D (b) j v (pR b c) = D (pR b c) := cp_up_ne (by unfold pR; omega)
theorem up_oM {D : cp_Dt} {b c j : Nat} {v : Int32} : cp_up D (b) j v (pM b c) = D (pM b c) := cp_up_ne (by unfold pM; omega)
theorem up_oG {D : cp_Dt} {b c j : Nat} {v : Int32} : cp_up D (b) j v (pG b c) = D (pG b c) := cp_up_ne (by unfold pG; omega)
theorem up_ro {D : cp_Dt} {b j : Nat} {v : Int32} : cp_up D (pAr b) j v (b) = D (b) := cp_up_ne (by unfold pAr; omega)
theorem up_rr {D : cp_Dt} {b j : Nat} {v : Int32} : cp_up D (pAr b) j v (pAr b) = upd (D (pAr b)) j v := cp_up_eq
theorem up_rg {D : cp_Dt} {b j : Nat} {v : Int32} : cp_up D (pAr b) j v (pGr b) = D (pGr b) := cp_up_ne (by unfold pAr pGr; omega)
theorem up_rm {D : cp_Dt} {b j : Nat} {v : Int32} : cp_up D (pAr b) j v (pMk b) = D (pMk b) := cp_up_ne (by unfold pAr pMk; omega)
theorem up_rd {D : cp_Dt} {b j : Nat} {v : Int32} : cp_up D (pAr b) j v (pDw b) = D (pDw b) := cp_up_ne (by unfold pAr pDw; omega)
theorem up_rA {D : cp_Dt} {b c j : Nat} {v : Int32} : cp_up D (pAr b) j v (pA b c) = D (pA b c) := cp_up_ne (by unfold pA pAr; omega)
theorem up_rR {D : cp_Dt} {b c j : Nat} {v : Int32} : cp_up D (pAr b) j v (pR b c) = D (pR b c) := cp_up_ne (by unfold pAr pR; omega)
theorem up_rM {D : cp_Dt} {b c j : Nat} {v : Int32} : cp_up D (pAr b) j v (pM b c) = D (pM b c) := cp_up_ne (by unfold pAr pM; omega)
theorem up_rG {D : cp_Dt} {b c j : Nat} {v : Int32} : cp_up D (pAr b) j v (pG b c) = D (pG b c) := cp_up_ne (by unfold pAr pG; omega)
theorem up_go {D : cp_Dt} {b j : Nat} {v : Int32} : cp_up D (pGr b) j v (b) = D (b) := cp_up_ne (by unfold pGr; omega)
theorem up_gr {D : cp_Dt} {b j : Nat} {v : Int32} : cp_up D (pGr b) j v (pAr b) = D (pAr b) := cp_up_ne (by unfold pAr pGr; omega)
theorem up_gg {D : cp_Dt} {b j : Nat} {v : Int32} : cp_up D (pGr b) j v (pGr b) = upd (D (pGr b)) j v := cp_up_eq
theorem up_gm {D : cp_Dt} {b j : Nat} {v : Int32} : cp_up D (pGr b) j v (pMk b) = D (pMk b) := cp_up_ne (by unfold pGr pMk; omega)
theorem up_gd {D : cp_Dt} {b j : Nat} {v : Int32} : cp_up D (pGr b) j v (pDw b) = D (pDw b) := cp_up_ne (by unfold pDw pGr; omega)
theorem up_gA {D : cp_Dt} {b c j : Nat} {v : Int32} : cp_up D (pGr b) j v (pA b c) = D (pA b c) := cp_up_ne (by unfold pA pGr; omega)
theorem up_gR {D : cp_Dt} {b c j : Nat} {v : Int32} : cp_up D (pGr b) j v (pR b c) = D (pR b c) := cp_up_ne (by unfold pGr pR; omega)
theorem up_gM {D : cp_Dt} {b c j : Nat} {v : Int32} : cp_up D (pGr b) j v (pM b c) = D (pM b c) := cp_up_ne (by unfold pGr pM; omega)
theorem up_gG {D : cp_Dt} {b c j : Nat} {v : Int32} : cp_up D (pGr b) j v (pG b c) = D (pG b c) := cp_up_ne (by unfold pG pGr; omega)
theorem up_mo {D : cp_Dt} {b j : Nat} {v : Int32} : cp_up D (pMk b) j v (b) = D (b) := cp_up_ne (by unfold pMk; omega)
theorem up_mr {D : cp_Dt} {b j : Nat} {v : Int32} : cp_up D (pMk b) j v (pAr b) = D (pAr b) := cp_up_ne (by unfold pAr pMk; omega)
theorem up_mg {D : cp_Dt} {b j : Nat} {v : Int32} : cp_up D (pMk b) j v (pGr b) = D (pGr b) := cp_up_ne (by unfold pGr pMk; omega)
theorem up_mm {D : cp_Dt} {b j : Nat} {v : Int32} : cp_up D (pMk b) j v (pMk b) = upd (D (pMk b)) j v := cp_up_eq
theorem up_md {D : cp_Dt} {b j : Nat} {v : Int32} : cp_up D (pMk b) j v (pDw b) = D (pDw b) := cp_up_ne (by unfold pDw pMk; omega)
theorem up_mA {D : cp_Dt} {b c j : Nat} {v : Int32} : cp_up D (pMk b) j v (pA b c) = D (pA b c) := cp_up_ne (by unfold pA pMk; omega)
theorem up_mR {D : cp_Dt} {b c j : Nat} {v : Int32} : cp_up D (pMk b) j v (pR b c) = D (pR b c) := cp_up_ne (by unfold pMk pR; omega)
theorem up_mM {D : cp_Dt} {b c j : Nat} {v : Int32} : cp_up D (pMk b) j v (pM b c) = D (pM b c) := cp_up_ne (by unfold pM pMk; omega)
theorem up_mG {D : cp_Dt} {b c j : Nat} {v : Int32} : cp_up D (pMk b) j v (pG b c) = D (pG b c) := cp_up_ne (by unfold pG pMk; omega)
theorem up_do {D : cp_Dt} {b j : Nat} {v : Int32} : cp_up D (pDw b) j v (b) = D (b) := cp_up_ne (by unfold pDw; omega)
theorem up_dr {D : cp_Dt} {b j : Nat} {v : Int32} : cp_up D (pDw b) j v (pAr b) = D (pAr b) := cp_up_ne (by unfold pAr pDw; omega)
theorem up_dg {D : cp_Dt} {b j : Nat} {v : Int32} : cp_up D (pDw b) j v (pGr b) = D (pGr b) := cp_up_ne (by unfold pDw pGr; omega)
theorem up_dm {D : cp_Dt} {b j : Nat} {v : Int32} : cp_up D (pDw b) j v (pMk b) = D (pMk b) := cp_up_ne (by unfold pDw pMk; omega)
theorem up_dd {D : cp_Dt} {b j : Nat} {v : Int32} : cp_up D (pDw b) j v (pDw b) = upd (D (pDw b)) j v := cp_up_eq
theorem up_dA {D : cp_Dt} {b c j : Nat} {v : Int32} : cp_up D (pDw b) j v (pA b c) = D (pA b c) := cp_up_ne (by unfold pA pDw; omega)
theorem up_dR {D : cp_Dt} {b c j : Nat} {v : Int32} : cp_up D (pDw b) j v (pR b c) = D (pR b c) := cp_up_ne (by unfold pDw pR; omega)
theorem up_dM {D : cp_Dt} {b c j : Nat} {v : Int32} : cp_up D (pDw b) j v (pM b c) = D (pM b c) := cp_up_ne (by unfold pDw pM; omega)
theorem up_dG {D : cp_Dt} {b c j : Nat} {v : Int32} : cp_up D (pDw b) j v (pG b c) = D (pG b c) := cp_up_ne (by unfold pDw pG; omega)
theorem up_Ao {D : cp_Dt} {b a j : Nat} {v : Int32} : cp_up D (pA b a) j v (b) = D (b) := cp_up_ne (by unfold pA; omega)
theorem up_Ar {D : cp_Dt} {b a j : Nat} {v : Int32} : cp_up D (pA b a) j v (pAr b) = D (pAr b) := cp_up_ne (by unfold pA pAr; omega)
theorem up_Ag {D : cp_Dt} {b a j : Nat} {v : Int32} : cp_up D (pA b a) j v (pGr b) = D (pGr b) := cp_up_ne (by unfold pA pGr; omega)
theorem up_Am {D : cp_Dt} {b a j : Nat} {v : Int32} : cp_up D (pA b a) j v (pMk b) = D (pMk b) := cp_up_ne (by unfold pA pMk; omega)
theorem up_Ad {D : cp_Dt} {b a j : Nat} {v : Int32} : cp_up D (pA b a) j v (pDw b) = D (pDw b) := cp_up_ne (by unfold pA pDw; omega)
theorem up_AA {D : cp_Dt} {b a c j : Nat} {v : Int32} : cp_up D (pA b a) j v (pA b c) = if c = a then upd (D (pA b a)) j v else D (pA b c) := by
  by_cases h : c = a
  · subst h; rw [if_pos rfl]; exact cp_up_eq
  · rw [if_neg h]; exact cp_up_ne (by unfold pA; omega)
theorem up_AR {D : cp_Dt} {b a c j : Nat} {v : Int32} : cp_up D (pA b a) j v (pR b c) = D (pR b c) := cp_up_ne (by unfold pA pR; omega)
theorem up_AM {D : cp_Dt} {b a c j : Nat} {v : Int32} : cp_up D (pA b a) j v (pM b c) = D (pM b c) := cp_up_ne (by unfold pA pM; omega)
theorem up_AG {D : cp_Dt} {b a c j : Nat} {v : Int32} : cp_up D (pA b a) j v (pG b c) = D (pG b c) := cp_up_ne (by unfold pA pG; omega)
theorem up_Ro {D : cp_Dt} {b a j : Nat} {v : Int32} : cp_up D (pR b a) j v (b) = D (b) := cp_up_ne (by unfold pR; omega)
theorem up_Rr {D : cp_Dt} {b a j : Nat} {v : Int32} : cp_up D (pR b a) j v (pAr b) = D (pAr b) := cp_up_ne (by unfold pAr pR; omega)
theorem up_Rg {D : cp_Dt} {b a j : Nat} {v : Int32} : cp_up D (pR b a) j v (pGr b) = D (pGr b) := cp_up_ne (by unfold pGr pR; omega)
theorem up_Rm {D : cp_Dt} {b a j : Nat} {v : Int32} : cp_up D (pR b a) j v (pMk b) = D (pMk b) := cp_up_ne (by unfold pMk pR; omega)
theorem up_Rd {D : cp_Dt} {b a j : Nat} {v : Int32} : cp_up D (pR b a) j v (pDw b) = D (pDw b) := cp_up_ne (by unfold pDw pR; omega)
theorem up_RA {D : cp_Dt} {b a c j : Nat} {v : Int32} : cp_up D (pR b a) j v (pA b c) = D (pA b c) := cp_up_ne (by unfold pA pR; omega)
theorem up_RR {D : cp_Dt} {b a c j : Nat} {v : Int32} : cp_up D (pR b a) j v (pR b c) = if c = a then upd (D (pR b a)) j v else D (pR b c) := by
  by_cases h : c = a
  · subst h; rw [if_pos rfl]; exact cp_up_eq
  · rw [if_neg h]; exact cp_up_ne (by unfold pR; omega)
theorem up_RM {D : cp_Dt} {b a c j : Nat} {v : Int32} : cp_up D (pR b a) j v (pM b c) = D (pM b c) := cp_up_ne (by unfold pM pR; omega)
theorem up_RG {D : cp_Dt} {b a c j : Nat} {v : Int32} : cp_up D (pR b a) j v (pG b c) = D (pG b c) := cp_up_ne (by unfold pG pR; omega)
theorem up_Mo {D : cp_Dt} {b a j : Nat} {v : Int32} : cp_up D (pM b a) j v (b) = D (b) := cp_up_ne (by unfold pM; omega)
theorem up_Mr {D : cp_Dt} {b a j : Nat} {v : Int32} : cp_up D (pM b a) j v (pAr b) = D (pAr b) := cp_up_ne (by unfold pAr pM; omega)
theorem up_Mg {D : cp_Dt} {b a j : Nat} {v : Int32} : cp_up D (pM b a) j v (pGr b) = D (pGr b) := cp_up_ne (by unfold pGr pM; omega)
theorem up_Mm {D : cp_Dt} {b a j : Nat} {v : Int32} : cp_up D (pM b a) j v (pMk b) = D (pMk b) := cp_up_ne (by unfold pM pMk; omega)
theorem up_Md {D : cp_Dt} {b a j : Nat} {v : Int32} : cp_up D (pM b a) j v (pDw b) = D (pDw b) := cp_up_ne (by unfold pDw pM; omega)
theorem up_MA {D : cp_Dt} {b a c j : Nat} {v : Int32} : cp_up D (pM b a) j v (pA b c) = D (pA b c) := cp_up_ne (by unfold pA pM; omega)
theorem up_MR {D : cp_Dt} {b a c j : Nat} {v : Int32} : cp_up D (pM b a) j v (pR b c) = D (pR b c) := cp_up_ne (by unfold pM pR; omega)
theorem up_MM {D : cp_Dt} {b a c j : Nat} {v : Int32} : cp_up D (pM b a) j v (pM b c) = if c = a then upd (D (pM b a)) j v else D (pM b c) := by
  by_cases h : c = a
  · subst h; rw [if_pos rfl]; exact cp_up_eq
  · rw [if_neg h]; exact cp_up_ne (by unfold pM; omega)
theorem up_MG {D : cp_Dt} {b a c j : Nat} {v : Int32} : cp_up D (pM b a) j v (pG b c) = D (pG b c) := cp_up_ne (by unfold pG pM; omega)
theorem up_Go {D : cp_Dt} {b a j : Nat} {v : Int32} : cp_up D (pG b a) j v (b) = D (b) := cp_up_ne (by unfold pG; omega)
theorem up_Gr {D : cp_Dt} {b a j : Nat} {v : Int32} : cp_up D (pG b a) j v (pAr b) = D (pAr b) := cp_up_ne (by unfold pAr pG; omega)
theorem up_Gg {D : cp_Dt} {b a j : Nat} {v : Int32} : cp_up D (pG b a) j v (pGr b) = D (pGr b) := cp_up_ne (by unfold pG pGr; omega)
theorem up_Gm {D : cp_Dt} {b a j : Nat} {v : Int32} : cp_up D (pG b a) j v (pMk b) = D (pMk b) := cp_up_ne (by unfold pG pMk; omega)
theorem up_Gd {D : cp_Dt} {b a j : Nat} {v : Int32} : cp_up D (pG b a) j v (pDw b) = D (pDw b) := cp_up_ne (by unfold pDw pG; omega)
theorem up_GA {D : cp_Dt} {b a c j : Nat} {v : Int32} : cp_up D (pG b a) j v (pA b c) = D (pA b c) := cp_up_ne (by unfold pA pG; omega)
theorem up_GR {D : cp_Dt} {b a c j : Nat} {v : Int32} : cp_up D (pG b a) j v (pR b c) = D (pR b c) := cp_up_ne (by unfold pG pR; omega)
theorem up_GM {D : cp_Dt} {b a c j : Nat} {v : Int32} : cp_up D (pG b a) j v (pM b c) = D (pM b c) := cp_up_ne (by unfold pG pM; omega)
theorem up_GG {D : cp_Dt} {b a c j : Nat} {v : Int32} : cp_up D (pG b a) j v (pG b c) = if c = a then upd (D (pG b a)) j v else D (pG b c) := by
  by_cases h : c = a
  · subst h; rw [if_pos rfl]; exact cp_up_eq
  · rw [if_neg h]; exact cp_up_ne (by unfold pG; omega)
theorem upd_eq {f : Nat → Int32} {k : Nat} {x : Int32} : upd f k x k = x := if_pos rfl
theorem upd_ne {f : Nat → Int32} {k j : Nat} {x : Int32} (h : j ≠ k) : upd f k x j = f j := if_neg h
/-! When a pond of the class (at b, in C) and an array of the reference (at t, in R) hold the same pond of N cells; energies and generations are at most B -/
def cp_by (x : Int32) : Prop := x.toInt8.toInt32 = x
/-- where the reference keeps what the class keeps in field j of an animal -/
def ro (j : Nat) : Nat := match j with
  | 4 => 9
  | 6 => 1
  | 7 => 2
  | 8 => 3
  | 9 => 5
  | 10 => 4
  | 11 => 6
  | 12 => 7
  | _ => 8
def rG (N b t : Nat) (C R : cp_Dt) : Prop := ∀ c, c < N → C (pGr b) c = R t c ∧ ∃ g, g ≤ 250 ∧ C (pGr b) c = nI g
def rK (N b t : Nat) (C R : cp_Dt) : Prop := ∀ c, c < N → C (pMk b) c = R t (100 + c) ∧ cp_by (C (pMk b) c)
def rL (b t : Nat) (C R : cp_Dt) (a : Nat) : Prop := R t (200 + 64 * a) = C (pA b a) 5 ∧ (∀ j, 4 ≤ j → j < 14 → j ≠ 5 → C (pA b a) j = R t (200 + 64 * a + ro j)) ∧ (∀ i, i < 8 → C (pR b a) i = R t (200 + 64 * a + 10 + i)) ∧ (∀ i, i < 16 → C (pM b a) i = R t (200 + 64 * a + 18 + i)) ∧ ∀ i l, C (pA b a) 9 = nI l → l ≤ 20 → i < l → C (pG b a) i = R t (200 + 64 * a + 34 + i)
def rE (b t : Nat) (C R : cp_Dt) : Prop := ∀ a, a < 16 → (C (pA b a) 3 = 1 ∧ rL b t C R a) ∨ (C (pA b a) 3 = 0 ∧ R t (200 + 64 * a) = -1)
def rV (N b B : Nat) (C : cp_Dt) (a : Nat) : Prop := (∃ c, c < N ∧ C (pA b a) 5 = nI c ∧ C (pDw b) c = nI a) ∧ (∃ d, d < 4 ∧ C (pA b a) 6 = nI d) ∧ (∃ e, e ≤ B ∧ C (pA b a) 7 = nI e) ∧ (∃ p, p < 20 ∧ C (pA b a) 10 = nI p) ∧ (∃ l, l ≤ 20 ∧ C (pA b a) 9 = nI l) ∧ ∃ g, g ≤ B ∧ C (pA b a) 13 = nI g
def rW (b : Nat) (C : cp_Dt) (a : Nat) : Prop := (C (pA b a) 4 = 0 ∨ C (pA b a) 4 = 1) ∧ (∀ i, i < 8 → cp_by (C (pR b a) i)) ∧ (∀ i, i < 16 → cp_by (C (pM b a) i)) ∧ ∀ i, i < 20 → cp_by (C (pG b a) i)
def rD (N b : Nat) (C : cp_Dt) : Prop := ∀ c, c < N → C (pDw b) c = -1 ∨ ∃ a, a < 16 ∧ C (pDw b) c = nI a ∧ C (pA b a) 3 = 1 ∧ C (pA b a) 5 = nI c
def rP (N b t : Nat) (C R : cp_Dt) : Prop := (∀ j, 5 ≤ j → j < 12 → C b j = R t (1219 + j)) ∧ (∃ s, s ≤ 50 ∧ C b 6 = nI s) ∧ ∃ u, u < N ∧ C b 8 = nI u
def Rel (N b t B : Nat) (C R : cp_Dt) : Prop := rG N b t C R ∧ rK N b t C R ∧ rE b t C R ∧ (∀ a, a < 16 → C (pA b a) 3 = 1 → rV N b B C a) ∧ (∀ a, a < 16 → rW b C a) ∧ rD N b C ∧ rP N b t C R
