/-! Which exception a call throws, and from which state: none where it throws none -/
def tx_X0_animal (L : cp_Lay) (q : Nat) (k0 : Nat) (x1 : Int32) (x2 : Int32) (x3 : Int32) (x4 : Int32) (D : cp_Dt) : Option (Nat × cp_Dt) :=
  if x3 < 0 then (some (1, D))
  else (if (4 : Int32) ≤ x3 then (some (1, D))
  else (if x4 < (1 : Int32) then (some (1, D))
  else (if x4 ≤ (1000 : Int32) then ((cp_gR L k0 0 0).bind fun r5 =>
  (cp_fl L r5 5).bind fun f6 =>
  (fn_X5_cellAt L q r5 x1 x2 D).bind fun y7 =>
  (cp_gR L k0 0 1).bind fun r8 =>
  (cp_fl L r8 4).bind fun f9 =>
  (fn_X4_freeNumber L q r8 y7.2).bind fun y10 =>
  (cp_gR L k0 0 1).bind fun r11 =>
  (cp_gR L r11 4 3).bind fun r12 =>
  (cp_aI L y10.2 0 r12 y7.1).bind fun v13 =>
  if v13 = (-1 : Int32) then (if y10.1 = (-1 : Int32) then (some (2, y10.2))
  else ((cp_gR L k0 0 1).bind fun r16 =>
  none))
  else (some (2, y10.2)))
  else (some (1, D)))))
def tx_X0_code (L : cp_Lay) (q : Nat) (k0 : Nat) (x1 : Int32) (x2 : Int32) (x3 : Int64) (D : cp_Dt) : Option (Nat × cp_Dt) :=
  if x2 < (1 : Int32) then (some (1, D))
  else (if (8 : Int32) < x2 then (some (1, D))
  else ((cp_gR L k0 0 1).bind fun r3 =>
  (cp_fl L r3 4).bind fun f4 =>
  (fn_X4_has L q r3 x1 D).bind fun y5 =>
  if y5.1 = 0 then (some (1, y5.2))
  else ((cp_gR L k0 0 1).bind fun r7 =>
  (cp_gR L r7 4 4).bind fun r8 =>
  (cp_aR L r8 x1).bind fun r9 =>
  (cp_gI L y5.2 r9 1 9).bind fun v10 =>
  if (v10 + x2) ≤ (20 : Int32) then (none)
  else (some (2, y5.2)))))
def tx_X0_tick (L : cp_Lay) (q : Nat) (k0 : Nat) (x1 : Int32) (D : cp_Dt) : Option (Nat × cp_Dt) :=
  if x1 < 0 then (some (1, D))
  else (if x1 ≤ (50 : Int32) then (none)
  else (some (1, D)))
def tx_X0_inner (L : cp_Lay) (q : Nat) (k0 : Nat) (x1 : Int32) (x2 : Int32) (x3 : Int32) (D : cp_Dt) : Option (Nat × cp_Dt) :=
  (cp_gR L k0 0 1).bind fun r1 =>
  (cp_fl L r1 4).bind fun f2 =>
  (fn_X4_has L q r1 x1 D).bind fun y3 =>
  if y3.1 = 0 then (some (3, y3.2))
  else ((cp_gR L k0 0 1).bind fun r5 =>
  (cp_gR L r5 4 4).bind fun r6 =>
  (cp_aR L r6 x1).bind fun r7 =>
  if x2 = 0 then (if x3 < 0 then (some (3, y3.2))
  else (if x3 < (16 : Int32) then (if x2 = 0 then ((cp_gR L r7 1 1).bind fun r12 =>
  (cp_aI L y3.2 1 r12 x3).bind fun v13 =>
  none)
  else ((cp_gR L r7 1 2).bind fun r14 =>
  (cp_aI L y3.2 1 r14 x3).bind fun v15 =>
  none))
  else (some (3, y3.2))))
  else ((cp_gI L y3.2 r7 1 9).bind fun v16 =>
  if x3 < 0 then (some (3, y3.2))
  else (if x3 < v16 then (if x2 = 0 then ((cp_gR L r7 1 1).bind fun r20 =>
  (cp_aI L y3.2 1 r20 x3).bind fun v21 =>
  none)
  else ((cp_gR L r7 1 2).bind fun r22 =>
  (cp_aI L y3.2 1 r22 x3).bind fun v23 =>
  none))
  else (some (3, y3.2)))))
def tx_X0_differ (L : cp_Lay) (q : Nat) (k0 : Nat) (D : cp_Dt) : Option (Nat × cp_Dt) :=
  (cp_gI L D k0 0 5).bind fun v1 =>
  if v1 = 0 then (some (2, D))
  else ((cp_gR L k0 0 1).bind fun r3 =>
  (cp_gR L k0 0 2).bind fun r4 =>
  none)
