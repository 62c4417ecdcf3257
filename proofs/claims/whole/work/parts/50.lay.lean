/-! The layout of the claim: places, and what reads and writes give there -/
def pA (b a : Nat) : Nat := b + 5 + 4 * a
def pR (b a : Nat) : Nat := b + 6 + 4 * a
def pM (b a : Nat) : Nat := b + 7 + 4 * a
def pG (b a : Nat) : Nat := b + 8 + 4 * a
def pAr (b : Nat) : Nat := b + 1
def pGr (b : Nat) : Nat := b + 2
def pMk (b : Nat) : Nat := b + 3
def pDw (b : Nat) : Nat := b + 4
def cp_flA (b a : Nat) : List (Option (Option Nat)) := [some (some (pR b a)), some (some (pM b a)), some (some (pG b a)), none, none, none, none, none, none, none, none, none, none, none]
def cp_flP (b : Nat) : List (Option (Option Nat)) := [some (some 1), some (some (pGr b)), some (some (pMk b)), some (some (pDw b)), some (some (pAr b)), none, none, none, none, none, none, none]
def cp_okP (L : cp_Lay) (n b : Nat) : Prop :=
  cp_fl L b 4 = some (cp_flP b) ∧ (∃ t, cp_ar L (pAr b) 2 = some (16, t) ∧ ∀ a, a < 16 → t a = some (pA b a)) ∧
  (∃ t, cp_ar L (pGr b) 0 = some (n, t)) ∧ (∃ t, cp_ar L (pMk b) 1 = some (n, t)) ∧ (∃ t, cp_ar L (pDw b) 0 = some (n, t)) ∧
  ∀ a, a < 16 → cp_fl L (pA b a) 1 = some (cp_flA b a) ∧ (∃ t, cp_ar L (pR b a) 1 = some (8, t)) ∧ (∃ t, cp_ar L (pM b a) 1 = some (16, t)) ∧ (∃ t, cp_ar L (pG b a) 1 = some (20, t))
def cp_ok (L : cp_Lay) (w h : Nat) : Prop := (3 ≤ w ∧ w ≤ 10 ∧ 3 ≤ h ∧ h ≤ 10) ∧
  cp_fl L 0 0 = some [some (some 1), some (some 3), some (some 72), some (some 141), some (some 142), none] ∧
  cp_fl L 1 5 = some [none, none, none, some (some 2)] ∧ (∃ t, cp_ar L 2 0 = some (w * h * 4, t)) ∧ cp_okP L (w * h) 3 ∧ cp_okP L (w * h) 72 ∧
  cp_fl L 141 3 = some [some (some 3)] ∧ cp_fl L 142 2 = some [some (some 3)] ∧ cp_fl L 143 6 = some [none, none, none, some (some 144), none, some (some 145)] ∧
  (∃ t, cp_ar L 144 0 = some (1232, t)) ∧ (∃ t, cp_ar L 145 0 = some (1232, t)) ∧ ∃ t, cp_ar L 146 3 = some (1, t)
section PL
variable {L : cp_Lay} {D : cp_Dt} {w h n b a k t i : Nat} {tg : Nat → Option Nat} {fl : List (Option (Option Nat))}
theorem cp_gI_of (hf : cp_fl L k t = some fl) (hj : fl[i]? = some none) : cp_gI L D k t i = some (D k i) := by
  unfold cp_gI
  rw [hf]
  show (if fl[i]? = some none then some (D k i) else none) = _
  rw [if_pos hj]
theorem cp_pI_of {v : Int32} (hf : cp_fl L k t = some fl) (hj : fl[i]? = some none) : cp_pI L D k t i v = some (cp_up D k i v) := by
  unfold cp_pI
  rw [hf]
  show (if fl[i]? = some none then some (cp_up D k i v) else none) = _
  rw [if_pos hj]
theorem cp_pZ_of {v : Int32} (hv : v = 0 ∨ v = 1) (hf : cp_fl L k t = some fl) (hj : fl[i]? = some none) : cp_pZ L D k t i v = some (cp_up D k i v) := by
  unfold cp_pZ
  rw [if_pos hv, cp_pI_of hf hj]
theorem cp_gR_of {r : Nat} (hf : cp_fl L k t = some fl) (hj : fl[i]? = some (some (some r))) : cp_gR L k t i = some r := by
  unfold cp_gR
  rw [hf]
  show ((fl[i]?).bind id).bind id = _
  rw [hj]
  rfl
theorem cp_aI_of (ha : cp_ar L k t = some (n, tg)) (hi : i < n) (hn : n < 2 ^ 31) : cp_aI L D t k (nI i) = some (D k i) := by
  unfold cp_aI
  rw [ha]
  show (if nI i < 0 ∨ n ≤ (nI i).toNatClampNeg then none else some (D k (nI i).toNatClampNeg)) = _
  rw [if_neg (nI_in hi hn), nI_clamp (by omega)]
theorem cp_aS_of {x : Int32} (ha : cp_ar L k t = some (n, tg)) (hi : i < n) (hn : n < 2 ^ 31) : cp_aS L D t k (nI i) x = some (cp_up D k i x) := by
  unfold cp_aS
  rw [ha]
  show (if nI i < 0 ∨ n ≤ (nI i).toNatClampNeg then none else some (cp_up D k (nI i).toNatClampNeg x)) = _
  rw [if_neg (nI_in hi hn), nI_clamp (by omega)]
theorem cp_aR_of {r : Nat} (ha : cp_ar L k 2 = some (n, tg)) (hi : i < n) (hn : n < 2 ^ 31) (hr : tg i = some r) : cp_aR L k (nI i) = some r := by
  unfold cp_aR
  rw [ha]
  show (if nI i < 0 ∨ n ≤ (nI i).toNatClampNeg then none else tg (nI i).toNatClampNeg) = _
  rw [if_neg (nI_in hi hn), nI_clamp (by omega), hr]
/-! a pond at b -/
theorem po_fl (P : cp_okP L n b) : cp_fl L b 4 = some (cp_flP b) := P.1
theorem po_gI (P : cp_okP L n b) (j : Nat) (hj : 5 ≤ j ∧ j < 12) : cp_gI L D b 4 j = some (D b j) := by
  refine cp_gI_of P.1 ?_
  obtain ⟨h1, h2⟩ := hj
  match j, h1, h2 with
  | 5, _, _ | 6, _, _ | 7, _, _ | 8, _, _ | 9, _, _ | 10, _, _ | 11, _, _ => rfl
theorem po_pI (P : cp_okP L n b) (j : Nat) (v : Int32) (hj : 5 ≤ j ∧ j < 12) : cp_pI L D b 4 j v = some (cp_up D b j v) := by
  refine cp_pI_of P.1 ?_
  obtain ⟨h1, h2⟩ := hj
  match j, h1, h2 with
  | 5, _, _ | 6, _, _ | 7, _, _ | 8, _, _ | 9, _, _ | 10, _, _ | 11, _, _ => rfl
theorem po_sh (P : cp_okP L n b) : cp_gR L b 4 0 = some 1 := cp_gR_of P.1 rfl
theorem po_gr (P : cp_okP L n b) : cp_gR L b 4 1 = some (pGr b) := cp_gR_of P.1 rfl
theorem po_mk (P : cp_okP L n b) : cp_gR L b 4 2 = some (pMk b) := cp_gR_of P.1 rfl
theorem po_dw (P : cp_okP L n b) : cp_gR L b 4 3 = some (pDw b) := cp_gR_of P.1 rfl
theorem po_ar (P : cp_okP L n b) : cp_gR L b 4 4 = some (pAr b) := cp_gR_of P.1 rfl
theorem po_an (P : cp_okP L n b) (ha : a < 16) : cp_aR L (pAr b) (nI a) = some (pA b a) := by
  obtain ⟨-, ⟨t, h1, h2⟩, -⟩ := P
  exact cp_aR_of h1 ha (by decide) (h2 a ha)
theorem po_grI (P : cp_okP L n b) (hn : n < 2 ^ 31) (hi : i < n) : cp_aI L D 0 (pGr b) (nI i) = some (D (pGr b) i) := by
  obtain ⟨-, -, ⟨t, h⟩, -⟩ := P
  exact cp_aI_of h hi hn
theorem po_grS {x : Int32} (P : cp_okP L n b) (hn : n < 2 ^ 31) (hi : i < n) : cp_aS L D 0 (pGr b) (nI i) x = some (cp_up D (pGr b) i x) := by
  obtain ⟨-, -, ⟨t, h⟩, -⟩ := P
  exact cp_aS_of h hi hn
theorem po_mkI (P : cp_okP L n b) (hn : n < 2 ^ 31) (hi : i < n) : cp_aI L D 1 (pMk b) (nI i) = some (D (pMk b) i) := by
  obtain ⟨-, -, -, ⟨t, h⟩, -⟩ := P
  exact cp_aI_of h hi hn
theorem po_mkS {x : Int32} (P : cp_okP L n b) (hn : n < 2 ^ 31) (hi : i < n) : cp_aS L D 1 (pMk b) (nI i) x = some (cp_up D (pMk b) i x) := by
  obtain ⟨-, -, -, ⟨t, h⟩, -⟩ := P
  exact cp_aS_of h hi hn
theorem po_dwI (P : cp_okP L n b) (hn : n < 2 ^ 31) (hi : i < n) : cp_aI L D 0 (pDw b) (nI i) = some (D (pDw b) i) := by
  obtain ⟨-, -, -, -, ⟨t, h⟩, -⟩ := P
  exact cp_aI_of h hi hn
theorem po_dwS {x : Int32} (P : cp_okP L n b) (hn : n < 2 ^ 31) (hi : i < n) : cp_aS L D 0 (pDw b) (nI i) x = some (cp_up D (pDw b) i x) := by
  obtain ⟨-, -, -, -, ⟨t, h⟩, -⟩ := P
  exact cp_aS_of h hi hn
theorem an_fl (P : cp_okP L n b) (ha : a < 16) : cp_fl L (pA b a) 1 = some (cp_flA b a) := (P.2.2.2.2.2 a ha).1
theorem an_gI (P : cp_okP L n b) (ha : a < 16) (j : Nat) (hj : 3 ≤ j ∧ j < 14) : cp_gI L D (pA b a) 1 j = some (D (pA b a) j) := by
  refine cp_gI_of (an_fl P ha) ?_
  obtain ⟨h1, h2⟩ := hj
  match j, h1, h2 with
  | 3, _, _ | 4, _, _ | 5, _, _ | 6, _, _ | 7, _, _ | 8, _, _ | 9, _, _ | 10, _, _ | 11, _, _ | 12, _, _ | 13, _, _ => rfl
theorem an_pI (P : cp_okP L n b) (ha : a < 16) (j : Nat) (v : Int32) (hj : 3 ≤ j ∧ j < 14) : cp_pI L D (pA b a) 1 j v = some (cp_up D (pA b a) j v) := by
  refine cp_pI_of (an_fl P ha) ?_
  obtain ⟨h1, h2⟩ := hj
  match j, h1, h2 with
  | 3, _, _ | 4, _, _ | 5, _, _ | 6, _, _ | 7, _, _ | 8, _, _ | 9, _, _ | 10, _, _ | 11, _, _ | 12, _, _ | 13, _, _ => rfl
theorem an_pZ (P : cp_okP L n b) (ha : a < 16) (j : Nat) (v : Int32) (hv : v = 0 ∨ v = 1) (hj : 3 ≤ j ∧ j < 14) : cp_pZ L D (pA b a) 1 j v = some (cp_up D (pA b a) j v) := by
  unfold cp_pZ
  rw [if_pos hv, an_pI P ha j v hj]
theorem an_rg (P : cp_okP L n b) (ha : a < 16) : cp_gR L (pA b a) 1 0 = some (pR b a) := cp_gR_of (an_fl P ha) rfl
theorem an_me (P : cp_okP L n b) (ha : a < 16) : cp_gR L (pA b a) 1 1 = some (pM b a) := cp_gR_of (an_fl P ha) rfl
theorem an_ge (P : cp_okP L n b) (ha : a < 16) : cp_gR L (pA b a) 1 2 = some (pG b a) := cp_gR_of (an_fl P ha) rfl
theorem an_rgI (P : cp_okP L n b) (ha : a < 16) (hi : i < 8) : cp_aI L D 1 (pR b a) (nI i) = some (D (pR b a) i) := by
  obtain ⟨-, ⟨t, h⟩, -⟩ := P.2.2.2.2.2 a ha
  exact cp_aI_of h hi (by decide)
theorem an_rgS {x : Int32} (P : cp_okP L n b) (ha : a < 16) (hi : i < 8) : cp_aS L D 1 (pR b a) (nI i) x = some (cp_up D (pR b a) i x) := by
  obtain ⟨-, ⟨t, h⟩, -⟩ := P.2.2.2.2.2 a ha
  exact cp_aS_of h hi (by decide)
theorem an_meI (P : cp_okP L n b) (ha : a < 16) (hi : i < 16) : cp_aI L D 1 (pM b a) (nI i) = some (D (pM b a) i) := by
  obtain ⟨-, -, ⟨t, h⟩, -⟩ := P.2.2.2.2.2 a ha
  exact cp_aI_of h hi (by decide)
theorem an_meS {x : Int32} (P : cp_okP L n b) (ha : a < 16) (hi : i < 16) : cp_aS L D 1 (pM b a) (nI i) x = some (cp_up D (pM b a) i x) := by
  obtain ⟨-, -, ⟨t, h⟩, -⟩ := P.2.2.2.2.2 a ha
  exact cp_aS_of h hi (by decide)
theorem an_geI (P : cp_okP L n b) (ha : a < 16) (hi : i < 20) : cp_aI L D 1 (pG b a) (nI i) = some (D (pG b a) i) := by
  obtain ⟨-, -, -, ⟨t, h⟩⟩ := P.2.2.2.2.2 a ha
  exact cp_aI_of h hi (by decide)
theorem an_geS {x : Int32} (P : cp_okP L n b) (ha : a < 16) (hi : i < 20) : cp_aS L D 1 (pG b a) (nI i) x = some (cp_up D (pG b a) i x) := by
  obtain ⟨-, -, -, ⟨t, h⟩⟩ := P.2.2.2.2.2 a ha
  exact cp_aS_of h hi (by decide)
/-! the reference -/
theorem re_now (O : cp_ok L w h) : cp_gR L 143 6 3 = some 144 := cp_gR_of O.2.2.2.2.2.2.2.2.1 rfl
theorem re_was (O : cp_ok L w h) : cp_gR L 143 6 5 = some 145 := cp_gR_of O.2.2.2.2.2.2.2.2.1 rfl
theorem re_fl (O : cp_ok L w h) : cp_fl L 143 6 = some [none, none, none, some (some 144), none, some (some 145)] := O.2.2.2.2.2.2.2.2.1
theorem re_I (O : cp_ok L w h) (hi : i < 1232) : cp_aI L D 0 144 (nI i) = some (D 144 i) := by
  obtain ⟨t, h⟩ := O.2.2.2.2.2.2.2.2.2.1
  exact cp_aI_of h hi (by decide)
theorem re_S {x : Int32} (O : cp_ok L w h) (hi : i < 1232) : cp_aS L D 0 144 (nI i) x = some (cp_up D 144 i x) := by
  obtain ⟨t, h⟩ := O.2.2.2.2.2.2.2.2.2.1
  exact cp_aS_of h hi (by decide)
theorem re_wI (O : cp_ok L w h) (hi : i < 1232) : cp_aI L D 0 145 (nI i) = some (D 145 i) := by
  obtain ⟨t, h⟩ := O.2.2.2.2.2.2.2.2.2.2.1
  exact cp_aI_of h hi (by decide)
theorem re_wS {x : Int32} (O : cp_ok L w h) (hi : i < 1232) : cp_aS L D 0 145 (nI i) x = some (cp_up D 145 i x) := by
  obtain ⟨t, h⟩ := O.2.2.2.2.2.2.2.2.2.2.1
  exact cp_aS_of h hi (by decide)
theorem re_gI (O : cp_ok L w h) (j : Nat) (hj : j < 3 ∨ j = 4) : cp_gI L D 143 6 j = some (D 143 j) := by
  refine cp_gI_of (re_fl O) ?_
  match j, hj with
  | 0, _ | 1, _ | 2, _ | 4, _ => rfl
  | 3, h => omega
  | j + 5, h => omega
theorem re_pI (O : cp_ok L w h) (j : Nat) (v : Int32) (hj : j < 3 ∨ j = 4) : cp_pI L D 143 6 j v = some (cp_up D 143 j v) := by
  refine cp_pI_of (re_fl O) ?_
  match j, hj with
  | 0, _ | 1, _ | 2, _ | 4, _ => rfl
  | 3, h => omega
  | j + 5, h => omega
end PL
