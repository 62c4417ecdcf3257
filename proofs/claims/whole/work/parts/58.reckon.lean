/-! The operations -/
theorem cd_0 : (nI 0 = (0 : Int32) ↔ True) ∧ (nI 0 = (1 : Int32) ↔ False) ∧ (nI 0 = (2 : Int32) ↔ False) ∧ (nI 0 = (3 : Int32) ↔ False) ∧ (nI 0 = (4 : Int32) ↔ False) ∧ (nI 0 = (5 : Int32) ↔ False) ∧ (nI 0 = (6 : Int32) ↔ False) ∧ (nI 0 = (7 : Int32) ↔ False) ∧ (nI 0 = (8 : Int32) ↔ False) ∧ (nI 0 = (9 : Int32) ↔ False) ∧ (nI 0 = (10 : Int32) ↔ False) ∧ (nI 0 = (11 : Int32) ↔ False) ∧ (nI 0 = (12 : Int32) ↔ False) ∧ (nI 0 = (13 : Int32) ↔ False) ∧ (nI 0 = (14 : Int32) ↔ False) ∧ (nI 0 = (15 : Int32) ↔ False) ∧ (nI 0 = (16 : Int32) ↔ False) ∧ (nI 0 = (17 : Int32) ↔ False) ∧ (nI 0 = (18 : Int32) ↔ False) ∧ (nI 0 = (19 : Int32) ↔ False) ∧ (nI 0 = (20 : Int32) ↔ False) ∧ (nI 0 = (21 : Int32) ↔ False) ∧ (nI 0 < (16 : Int32) ↔ True) ∧ (nI 0 ≤ (15 : Int32) ↔ True) ∧ (nI 0 ≤ (0 : Int32) ↔ True) ∧ ((5 : Int32) ≤ nI 0 ↔ False) ∧ ((9 : Int32) ≤ nI 0 ↔ False) := by decide +kernel
theorem cd_1 : (nI 1 = (0 : Int32) ↔ False) ∧ (nI 1 = (1 : Int32) ↔ True) ∧ (nI 1 = (2 : Int32) ↔ False) ∧ (nI 1 = (3 : Int32) ↔ False) ∧ (nI 1 = (4 : Int32) ↔ False) ∧ (nI 1 = (5 : Int32) ↔ False) ∧ (nI 1 = (6 : Int32) ↔ False) ∧ (nI 1 = (7 : Int32) ↔ False) ∧ (nI 1 = (8 : Int32) ↔ False) ∧ (nI 1 = (9 : Int32) ↔ False) ∧ (nI 1 = (10 : Int32) ↔ False) ∧ (nI 1 = (11 : Int32) ↔ False) ∧ (nI 1 = (12 : Int32) ↔ False) ∧ (nI 1 = (13 : Int32) ↔ False) ∧ (nI 1 = (14 : Int32) ↔ False) ∧ (nI 1 = (15 : Int32) ↔ False) ∧ (nI 1 = (16 : Int32) ↔ False) ∧ (nI 1 = (17 : Int32) ↔ False) ∧ (nI 1 = (18 : Int32) ↔ False) ∧ (nI 1 = (19 : Int32) ↔ False) ∧ (nI 1 = (20 : Int32) ↔ False) ∧ (nI 1 = (21 : Int32) ↔ False) ∧ (nI 1 < (16 : Int32) ↔ True) ∧ (nI 1 ≤ (15 : Int32) ↔ True) ∧ (nI 1 ≤ (0 : Int32) ↔ False) ∧ ((5 : Int32) ≤ nI 1 ↔ False) ∧ ((9 : Int32) ≤ nI 1 ↔ False) := by decide +kernel
theorem cd_2 : (nI 2 = (0 : Int32) ↔ False) ∧ (nI 2 = (1 : Int32) ↔ False) ∧ (nI 2 = (2 : Int32) ↔ True) ∧ (nI 2 = (3 : Int32) ↔ False) ∧ (nI 2 = (4 : Int32) ↔ False) ∧ (nI 2 = (5 : Int32) ↔ False) ∧ (nI 2 = (6 : Int32) ↔ False) ∧ (nI 2 = (7 : Int32) ↔ False) ∧ (nI 2 = (8 : Int32) ↔ False) ∧ (nI 2 = (9 : Int32) ↔ False) ∧ (nI 2 = (10 : Int32) ↔ False) ∧ (nI 2 = (11 : Int32) ↔ False) ∧ (nI 2 = (12 : Int32) ↔ False) ∧ (nI 2 = (13 : Int32) ↔ False) ∧ (nI 2 = (14 : Int32) ↔ False) ∧ (nI 2 = (15 : Int32) ↔ False) ∧ (nI 2 = (16 : Int32) ↔ False) ∧ (nI 2 = (17 : Int32) ↔ False) ∧ (nI 2 = (18 : Int32) ↔ False) ∧ (nI 2 = (19 : Int32) ↔ False) ∧ (nI 2 = (20 : Int32) ↔ False) ∧ (nI 2 = (21 : Int32) ↔ False) ∧ (nI 2 < (16 : Int32) ↔ True) ∧ (nI 2 ≤ (15 : Int32) ↔ True) ∧ (nI 2 ≤ (0 : Int32) ↔ False) ∧ ((5 : Int32) ≤ nI 2 ↔ False) ∧ ((9 : Int32) ≤ nI 2 ↔ False) := by decide +kernel
theorem cd_3 : (nI 3 = (0 : Int32) ↔ False) ∧ (nI 3 = (1 : Int32) ↔ False) ∧ (nI 3 = (2 : Int32) ↔ False) ∧ (nI 3 = (3 : Int32) ↔ True) ∧ (nI 3 = (4 : Int32) ↔ False) ∧ (nI 3 = (5 : Int32) ↔ False) ∧ (nI 3 = (6 : Int32) ↔ False) ∧ (nI 3 = (7 : Int32) ↔ False) ∧ (nI 3 = (8 : Int32) ↔ False) ∧ (nI 3 = (9 : Int32) ↔ False) ∧ (nI 3 = (10 : Int32) ↔ False) ∧ (nI 3 = (11 : Int32) ↔ False) ∧ (nI 3 = (12 : Int32) ↔ False) ∧ (nI 3 = (13 : Int32) ↔ False) ∧ (nI 3 = (14 : Int32) ↔ False) ∧ (nI 3 = (15 : Int32) ↔ False) ∧ (nI 3 = (16 : Int32) ↔ False) ∧ (nI 3 = (17 : Int32) ↔ False) ∧ (nI 3 = (18 : Int32) ↔ False) ∧ (nI 3 = (19 : Int32) ↔ False) ∧ (nI 3 = (20 : Int32) ↔ False) ∧ (nI 3 = (21 : Int32) ↔ False) ∧ (nI 3 < (16 : Int32) ↔ True) ∧ (nI 3 ≤ (15 : Int32) ↔ True) ∧ (nI 3 ≤ (0 : Int32) ↔ False) ∧ ((5 : Int32) ≤ nI 3 ↔ False) ∧ ((9 : Int32) ≤ nI 3 ↔ False) := by decide +kernel
theorem cd_4 : (nI 4 = (0 : Int32) ↔ False) ∧ (nI 4 = (1 : Int32) ↔ False) ∧ (nI 4 = (2 : Int32) ↔ False) ∧ (nI 4 = (3 : Int32) ↔ False) ∧ (nI 4 = (4 : Int32) ↔ True) ∧ (nI 4 = (5 : Int32) ↔ False) ∧ (nI 4 = (6 : Int32) ↔ False) ∧ (nI 4 = (7 : Int32) ↔ False) ∧ (nI 4 = (8 : Int32) ↔ False) ∧ (nI 4 = (9 : Int32) ↔ False) ∧ (nI 4 = (10 : Int32) ↔ False) ∧ (nI 4 = (11 : Int32) ↔ False) ∧ (nI 4 = (12 : Int32) ↔ False) ∧ (nI 4 = (13 : Int32) ↔ False) ∧ (nI 4 = (14 : Int32) ↔ False) ∧ (nI 4 = (15 : Int32) ↔ False) ∧ (nI 4 = (16 : Int32) ↔ False) ∧ (nI 4 = (17 : Int32) ↔ False) ∧ (nI 4 = (18 : Int32) ↔ False) ∧ (nI 4 = (19 : Int32) ↔ False) ∧ (nI 4 = (20 : Int32) ↔ False) ∧ (nI 4 = (21 : Int32) ↔ False) ∧ (nI 4 < (16 : Int32) ↔ True) ∧ (nI 4 ≤ (15 : Int32) ↔ True) ∧ (nI 4 ≤ (0 : Int32) ↔ False) ∧ ((5 : Int32) ≤ nI 4 ↔ False) ∧ ((9 : Int32) ≤ nI 4 ↔ False) := by decide +kernel
theorem cd_5 : (nI 5 = (0 : Int32) ↔ False) ∧ (nI 5 = (1 : Int32) ↔ False) ∧ (nI 5 = (2 : Int32) ↔ False) ∧ (nI 5 = (3 : Int32) ↔ False) ∧ (nI 5 = (4 : Int32) ↔ False) ∧ (nI 5 = (5 : Int32) ↔ True) ∧ (nI 5 = (6 : Int32) ↔ False) ∧ (nI 5 = (7 : Int32) ↔ False) ∧ (nI 5 = (8 : Int32) ↔ False) ∧ (nI 5 = (9 : Int32) ↔ False) ∧ (nI 5 = (10 : Int32) ↔ False) ∧ (nI 5 = (11 : Int32) ↔ False) ∧ (nI 5 = (12 : Int32) ↔ False) ∧ (nI 5 = (13 : Int32) ↔ False) ∧ (nI 5 = (14 : Int32) ↔ False) ∧ (nI 5 = (15 : Int32) ↔ False) ∧ (nI 5 = (16 : Int32) ↔ False) ∧ (nI 5 = (17 : Int32) ↔ False) ∧ (nI 5 = (18 : Int32) ↔ False) ∧ (nI 5 = (19 : Int32) ↔ False) ∧ (nI 5 = (20 : Int32) ↔ False) ∧ (nI 5 = (21 : Int32) ↔ False) ∧ (nI 5 < (16 : Int32) ↔ True) ∧ (nI 5 ≤ (15 : Int32) ↔ True) ∧ (nI 5 ≤ (0 : Int32) ↔ False) ∧ ((5 : Int32) ≤ nI 5 ↔ True) ∧ ((9 : Int32) ≤ nI 5 ↔ False) := by decide +kernel
theorem cd_6 : (nI 6 = (0 : Int32) ↔ False) ∧ (nI 6 = (1 : Int32) ↔ False) ∧ (nI 6 = (2 : Int32) ↔ False) ∧ (nI 6 = (3 : Int32) ↔ False) ∧ (nI 6 = (4 : Int32) ↔ False) ∧ (nI 6 = (5 : Int32) ↔ False) ∧ (nI 6 = (6 : Int32) ↔ True) ∧ (nI 6 = (7 : Int32) ↔ False) ∧ (nI 6 = (8 : Int32) ↔ False) ∧ (nI 6 = (9 : Int32) ↔ False) ∧ (nI 6 = (10 : Int32) ↔ False) ∧ (nI 6 = (11 : Int32) ↔ False) ∧ (nI 6 = (12 : Int32) ↔ False) ∧ (nI 6 = (13 : Int32) ↔ False) ∧ (nI 6 = (14 : Int32) ↔ False) ∧ (nI 6 = (15 : Int32) ↔ False) ∧ (nI 6 = (16 : Int32) ↔ False) ∧ (nI 6 = (17 : Int32) ↔ False) ∧ (nI 6 = (18 : Int32) ↔ False) ∧ (nI 6 = (19 : Int32) ↔ False) ∧ (nI 6 = (20 : Int32) ↔ False) ∧ (nI 6 = (21 : Int32) ↔ False) ∧ (nI 6 < (16 : Int32) ↔ True) ∧ (nI 6 ≤ (15 : Int32) ↔ True) ∧ (nI 6 ≤ (0 : Int32) ↔ False) ∧ ((5 : Int32) ≤ nI 6 ↔ True) ∧ ((9 : Int32) ≤ nI 6 ↔ False) := by decide +kernel
theorem cd_7 : (nI 7 = (0 : Int32) ↔ False) ∧ (nI 7 = (1 : Int32) ↔ False) ∧ (nI 7 = (2 : Int32) ↔ False) ∧ (nI 7 = (3 : Int32) ↔ False) ∧ (nI 7 = (4 : Int32) ↔ False) ∧ (nI 7 = (5 : Int32) ↔ False) ∧ (nI 7 = (6 : Int32) ↔ False) ∧ (nI 7 = (7 : Int32) ↔ True) ∧ (nI 7 = (8 : Int32) ↔ False) ∧ (nI 7 = (9 : Int32) ↔ False) ∧ (nI 7 = (10 : Int32) ↔ False) ∧ (nI 7 = (11 : Int32) ↔ False) ∧ (nI 7 = (12 : Int32) ↔ False) ∧ (nI 7 = (13 : Int32) ↔ False) ∧ (nI 7 = (14 : Int32) ↔ False) ∧ (nI 7 = (15 : Int32) ↔ False) ∧ (nI 7 = (16 : Int32) ↔ False) ∧ (nI 7 = (17 : Int32) ↔ False) ∧ (nI 7 = (18 : Int32) ↔ False) ∧ (nI 7 = (19 : Int32) ↔ False) ∧ (nI 7 = (20 : Int32) ↔ False) ∧ (nI 7 = (21 : Int32) ↔ False) ∧ (nI 7 < (16 : Int32) ↔ True) ∧ (nI 7 ≤ (15 : Int32) ↔ True) ∧ (nI 7 ≤ (0 : Int32) ↔ False) ∧ ((5 : Int32) ≤ nI 7 ↔ True) ∧ ((9 : Int32) ≤ nI 7 ↔ False) := by decide +kernel
theorem cd_8 : (nI 8 = (0 : Int32) ↔ False) ∧ (nI 8 = (1 : Int32) ↔ False) ∧ (nI 8 = (2 : Int32) ↔ False) ∧ (nI 8 = (3 : Int32) ↔ False) ∧ (nI 8 = (4 : Int32) ↔ False) ∧ (nI 8 = (5 : Int32) ↔ False) ∧ (nI 8 = (6 : Int32) ↔ False) ∧ (nI 8 = (7 : Int32) ↔ False) ∧ (nI 8 = (8 : Int32) ↔ True) ∧ (nI 8 = (9 : Int32) ↔ False) ∧ (nI 8 = (10 : Int32) ↔ False) ∧ (nI 8 = (11 : Int32) ↔ False) ∧ (nI 8 = (12 : Int32) ↔ False) ∧ (nI 8 = (13 : Int32) ↔ False) ∧ (nI 8 = (14 : Int32) ↔ False) ∧ (nI 8 = (15 : Int32) ↔ False) ∧ (nI 8 = (16 : Int32) ↔ False) ∧ (nI 8 = (17 : Int32) ↔ False) ∧ (nI 8 = (18 : Int32) ↔ False) ∧ (nI 8 = (19 : Int32) ↔ False) ∧ (nI 8 = (20 : Int32) ↔ False) ∧ (nI 8 = (21 : Int32) ↔ False) ∧ (nI 8 < (16 : Int32) ↔ True) ∧ (nI 8 ≤ (15 : Int32) ↔ True) ∧ (nI 8 ≤ (0 : Int32) ↔ False) ∧ ((5 : Int32) ≤ nI 8 ↔ True) ∧ ((9 : Int32) ≤ nI 8 ↔ False) := by decide +kernel
theorem cd_9 : (nI 9 = (0 : Int32) ↔ False) ∧ (nI 9 = (1 : Int32) ↔ False) ∧ (nI 9 = (2 : Int32) ↔ False) ∧ (nI 9 = (3 : Int32) ↔ False) ∧ (nI 9 = (4 : Int32) ↔ False) ∧ (nI 9 = (5 : Int32) ↔ False) ∧ (nI 9 = (6 : Int32) ↔ False) ∧ (nI 9 = (7 : Int32) ↔ False) ∧ (nI 9 = (8 : Int32) ↔ False) ∧ (nI 9 = (9 : Int32) ↔ True) ∧ (nI 9 = (10 : Int32) ↔ False) ∧ (nI 9 = (11 : Int32) ↔ False) ∧ (nI 9 = (12 : Int32) ↔ False) ∧ (nI 9 = (13 : Int32) ↔ False) ∧ (nI 9 = (14 : Int32) ↔ False) ∧ (nI 9 = (15 : Int32) ↔ False) ∧ (nI 9 = (16 : Int32) ↔ False) ∧ (nI 9 = (17 : Int32) ↔ False) ∧ (nI 9 = (18 : Int32) ↔ False) ∧ (nI 9 = (19 : Int32) ↔ False) ∧ (nI 9 = (20 : Int32) ↔ False) ∧ (nI 9 = (21 : Int32) ↔ False) ∧ (nI 9 < (16 : Int32) ↔ True) ∧ (nI 9 ≤ (15 : Int32) ↔ True) ∧ (nI 9 ≤ (0 : Int32) ↔ False) ∧ ((5 : Int32) ≤ nI 9 ↔ True) ∧ ((9 : Int32) ≤ nI 9 ↔ True) := by decide +kernel
theorem cd_10 : (nI 10 = (0 : Int32) ↔ False) ∧ (nI 10 = (1 : Int32) ↔ False) ∧ (nI 10 = (2 : Int32) ↔ False) ∧ (nI 10 = (3 : Int32) ↔ False) ∧ (nI 10 = (4 : Int32) ↔ False) ∧ (nI 10 = (5 : Int32) ↔ False) ∧ (nI 10 = (6 : Int32) ↔ False) ∧ (nI 10 = (7 : Int32) ↔ False) ∧ (nI 10 = (8 : Int32) ↔ False) ∧ (nI 10 = (9 : Int32) ↔ False) ∧ (nI 10 = (10 : Int32) ↔ True) ∧ (nI 10 = (11 : Int32) ↔ False) ∧ (nI 10 = (12 : Int32) ↔ False) ∧ (nI 10 = (13 : Int32) ↔ False) ∧ (nI 10 = (14 : Int32) ↔ False) ∧ (nI 10 = (15 : Int32) ↔ False) ∧ (nI 10 = (16 : Int32) ↔ False) ∧ (nI 10 = (17 : Int32) ↔ False) ∧ (nI 10 = (18 : Int32) ↔ False) ∧ (nI 10 = (19 : Int32) ↔ False) ∧ (nI 10 = (20 : Int32) ↔ False) ∧ (nI 10 = (21 : Int32) ↔ False) ∧ (nI 10 < (16 : Int32) ↔ True) ∧ (nI 10 ≤ (15 : Int32) ↔ True) ∧ (nI 10 ≤ (0 : Int32) ↔ False) ∧ ((5 : Int32) ≤ nI 10 ↔ True) ∧ ((9 : Int32) ≤ nI 10 ↔ True) := by decide +kernel
theorem cd_11 : (nI 11 = (0 : Int32) ↔ False) ∧ (nI 11 = (1 : Int32) ↔ False) ∧ (nI 11 = (2 : Int32) ↔ False) ∧ (nI 11 = (3 : Int32) ↔ False) ∧ (nI 11 = (4 : Int32) ↔ False) ∧ (nI 11 = (5 : Int32) ↔ False) ∧ (nI 11 = (6 : Int32) ↔ False) ∧ (nI 11 = (7 : Int32) ↔ False) ∧ (nI 11 = (8 : Int32) ↔ False) ∧ (nI 11 = (9 : Int32) ↔ False) ∧ (nI 11 = (10 : Int32) ↔ False) ∧ (nI 11 = (11 : Int32) ↔ True) ∧ (nI 11 = (12 : Int32) ↔ False) ∧ (nI 11 = (13 : Int32) ↔ False) ∧ (nI 11 = (14 : Int32) ↔ False) ∧ (nI 11 = (15 : Int32) ↔ False) ∧ (nI 11 = (16 : Int32) ↔ False) ∧ (nI 11 = (17 : Int32) ↔ False) ∧ (nI 11 = (18 : Int32) ↔ False) ∧ (nI 11 = (19 : Int32) ↔ False) ∧ (nI 11 = (20 : Int32) ↔ False) ∧ (nI 11 = (21 : Int32) ↔ False) ∧ (nI 11 < (16 : Int32) ↔ True) ∧ (nI 11 ≤ (15 : Int32) ↔ True) ∧ (nI 11 ≤ (0 : Int32) ↔ False) ∧ ((5 : Int32) ≤ nI 11 ↔ True) ∧ ((9 : Int32) ≤ nI 11 ↔ True) := by decide +kernel
theorem cd_12 : (nI 12 = (0 : Int32) ↔ False) ∧ (nI 12 = (1 : Int32) ↔ False) ∧ (nI 12 = (2 : Int32) ↔ False) ∧ (nI 12 = (3 : Int32) ↔ False) ∧ (nI 12 = (4 : Int32) ↔ False) ∧ (nI 12 = (5 : Int32) ↔ False) ∧ (nI 12 = (6 : Int32) ↔ False) ∧ (nI 12 = (7 : Int32) ↔ False) ∧ (nI 12 = (8 : Int32) ↔ False) ∧ (nI 12 = (9 : Int32) ↔ False) ∧ (nI 12 = (10 : Int32) ↔ False) ∧ (nI 12 = (11 : Int32) ↔ False) ∧ (nI 12 = (12 : Int32) ↔ True) ∧ (nI 12 = (13 : Int32) ↔ False) ∧ (nI 12 = (14 : Int32) ↔ False) ∧ (nI 12 = (15 : Int32) ↔ False) ∧ (nI 12 = (16 : Int32) ↔ False) ∧ (nI 12 = (17 : Int32) ↔ False) ∧ (nI 12 = (18 : Int32) ↔ False) ∧ (nI 12 = (19 : Int32) ↔ False) ∧ (nI 12 = (20 : Int32) ↔ False) ∧ (nI 12 = (21 : Int32) ↔ False) ∧ (nI 12 < (16 : Int32) ↔ True) ∧ (nI 12 ≤ (15 : Int32) ↔ True) ∧ (nI 12 ≤ (0 : Int32) ↔ False) ∧ ((5 : Int32) ≤ nI 12 ↔ True) ∧ ((9 : Int32) ≤ nI 12 ↔ True) := by decide +kernel
theorem cd_13 : (nI 13 = (0 : Int32) ↔ False) ∧ (nI 13 = (1 : Int32) ↔ False) ∧ (nI 13 = (2 : Int32) ↔ False) ∧ (nI 13 = (3 : Int32) ↔ False) ∧ (nI 13 = (4 : Int32) ↔ False) ∧ (nI 13 = (5 : Int32) ↔ False) ∧ (nI 13 = (6 : Int32) ↔ False) ∧ (nI 13 = (7 : Int32) ↔ False) ∧ (nI 13 = (8 : Int32) ↔ False) ∧ (nI 13 = (9 : Int32) ↔ False) ∧ (nI 13 = (10 : Int32) ↔ False) ∧ (nI 13 = (11 : Int32) ↔ False) ∧ (nI 13 = (12 : Int32) ↔ False) ∧ (nI 13 = (13 : Int32) ↔ True) ∧ (nI 13 = (14 : Int32) ↔ False) ∧ (nI 13 = (15 : Int32) ↔ False) ∧ (nI 13 = (16 : Int32) ↔ False) ∧ (nI 13 = (17 : Int32) ↔ False) ∧ (nI 13 = (18 : Int32) ↔ False) ∧ (nI 13 = (19 : Int32) ↔ False) ∧ (nI 13 = (20 : Int32) ↔ False) ∧ (nI 13 = (21 : Int32) ↔ False) ∧ (nI 13 < (16 : Int32) ↔ True) ∧ (nI 13 ≤ (15 : Int32) ↔ True) ∧ (nI 13 ≤ (0 : Int32) ↔ False) ∧ ((5 : Int32) ≤ nI 13 ↔ True) ∧ ((9 : Int32) ≤ nI 13 ↔ True) := by decide +kernel
theorem cd_14 : (nI 14 = (0 : Int32) ↔ False) ∧ (nI 14 = (1 : Int32) ↔ False) ∧ (nI 14 = (2 : Int32) ↔ False) ∧ (nI 14 = (3 : Int32) ↔ False) ∧ (nI 14 = (4 : Int32) ↔ False) ∧ (nI 14 = (5 : Int32) ↔ False) ∧ (nI 14 = (6 : Int32) ↔ False) ∧ (nI 14 = (7 : Int32) ↔ False) ∧ (nI 14 = (8 : Int32) ↔ False) ∧ (nI 14 = (9 : Int32) ↔ False) ∧ (nI 14 = (10 : Int32) ↔ False) ∧ (nI 14 = (11 : Int32) ↔ False) ∧ (nI 14 = (12 : Int32) ↔ False) ∧ (nI 14 = (13 : Int32) ↔ False) ∧ (nI 14 = (14 : Int32) ↔ True) ∧ (nI 14 = (15 : Int32) ↔ False) ∧ (nI 14 = (16 : Int32) ↔ False) ∧ (nI 14 = (17 : Int32) ↔ False) ∧ (nI 14 = (18 : Int32) ↔ False) ∧ (nI 14 = (19 : Int32) ↔ False) ∧ (nI 14 = (20 : Int32) ↔ False) ∧ (nI 14 = (21 : Int32) ↔ False) ∧ (nI 14 < (16 : Int32) ↔ True) ∧ (nI 14 ≤ (15 : Int32) ↔ True) ∧ (nI 14 ≤ (0 : Int32) ↔ False) ∧ ((5 : Int32) ≤ nI 14 ↔ True) ∧ ((9 : Int32) ≤ nI 14 ↔ True) := by decide +kernel
theorem cd_15 : (nI 15 = (0 : Int32) ↔ False) ∧ (nI 15 = (1 : Int32) ↔ False) ∧ (nI 15 = (2 : Int32) ↔ False) ∧ (nI 15 = (3 : Int32) ↔ False) ∧ (nI 15 = (4 : Int32) ↔ False) ∧ (nI 15 = (5 : Int32) ↔ False) ∧ (nI 15 = (6 : Int32) ↔ False) ∧ (nI 15 = (7 : Int32) ↔ False) ∧ (nI 15 = (8 : Int32) ↔ False) ∧ (nI 15 = (9 : Int32) ↔ False) ∧ (nI 15 = (10 : Int32) ↔ False) ∧ (nI 15 = (11 : Int32) ↔ False) ∧ (nI 15 = (12 : Int32) ↔ False) ∧ (nI 15 = (13 : Int32) ↔ False) ∧ (nI 15 = (14 : Int32) ↔ False) ∧ (nI 15 = (15 : Int32) ↔ True) ∧ (nI 15 = (16 : Int32) ↔ False) ∧ (nI 15 = (17 : Int32) ↔ False) ∧ (nI 15 = (18 : Int32) ↔ False) ∧ (nI 15 = (19 : Int32) ↔ False) ∧ (nI 15 = (20 : Int32) ↔ False) ∧ (nI 15 = (21 : Int32) ↔ False) ∧ (nI 15 < (16 : Int32) ↔ True) ∧ (nI 15 ≤ (15 : Int32) ↔ True) ∧ (nI 15 ≤ (0 : Int32) ↔ False) ∧ ((5 : Int32) ≤ nI 15 ↔ True) ∧ ((9 : Int32) ≤ nI 15 ↔ True) := by decide +kernel
theorem cd_16 : (nI 16 = (0 : Int32) ↔ False) ∧ (nI 16 = (1 : Int32) ↔ False) ∧ (nI 16 = (2 : Int32) ↔ False) ∧ (nI 16 = (3 : Int32) ↔ False) ∧ (nI 16 = (4 : Int32) ↔ False) ∧ (nI 16 = (5 : Int32) ↔ False) ∧ (nI 16 = (6 : Int32) ↔ False) ∧ (nI 16 = (7 : Int32) ↔ False) ∧ (nI 16 = (8 : Int32) ↔ False) ∧ (nI 16 = (9 : Int32) ↔ False) ∧ (nI 16 = (10 : Int32) ↔ False) ∧ (nI 16 = (11 : Int32) ↔ False) ∧ (nI 16 = (12 : Int32) ↔ False) ∧ (nI 16 = (13 : Int32) ↔ False) ∧ (nI 16 = (14 : Int32) ↔ False) ∧ (nI 16 = (15 : Int32) ↔ False) ∧ (nI 16 = (16 : Int32) ↔ True) ∧ (nI 16 = (17 : Int32) ↔ False) ∧ (nI 16 = (18 : Int32) ↔ False) ∧ (nI 16 = (19 : Int32) ↔ False) ∧ (nI 16 = (20 : Int32) ↔ False) ∧ (nI 16 = (21 : Int32) ↔ False) ∧ (nI 16 < (16 : Int32) ↔ False) ∧ (nI 16 ≤ (15 : Int32) ↔ False) ∧ (nI 16 ≤ (0 : Int32) ↔ False) ∧ ((5 : Int32) ≤ nI 16 ↔ True) ∧ ((9 : Int32) ≤ nI 16 ↔ True) := by decide +kernel
theorem cd_17 : (nI 17 = (0 : Int32) ↔ False) ∧ (nI 17 = (1 : Int32) ↔ False) ∧ (nI 17 = (2 : Int32) ↔ False) ∧ (nI 17 = (3 : Int32) ↔ False) ∧ (nI 17 = (4 : Int32) ↔ False) ∧ (nI 17 = (5 : Int32) ↔ False) ∧ (nI 17 = (6 : Int32) ↔ False) ∧ (nI 17 = (7 : Int32) ↔ False) ∧ (nI 17 = (8 : Int32) ↔ False) ∧ (nI 17 = (9 : Int32) ↔ False) ∧ (nI 17 = (10 : Int32) ↔ False) ∧ (nI 17 = (11 : Int32) ↔ False) ∧ (nI 17 = (12 : Int32) ↔ False) ∧ (nI 17 = (13 : Int32) ↔ False) ∧ (nI 17 = (14 : Int32) ↔ False) ∧ (nI 17 = (15 : Int32) ↔ False) ∧ (nI 17 = (16 : Int32) ↔ False) ∧ (nI 17 = (17 : Int32) ↔ True) ∧ (nI 17 = (18 : Int32) ↔ False) ∧ (nI 17 = (19 : Int32) ↔ False) ∧ (nI 17 = (20 : Int32) ↔ False) ∧ (nI 17 = (21 : Int32) ↔ False) ∧ (nI 17 < (16 : Int32) ↔ False) ∧ (nI 17 ≤ (15 : Int32) ↔ False) ∧ (nI 17 ≤ (0 : Int32) ↔ False) ∧ ((5 : Int32) ≤ nI 17 ↔ True) ∧ ((9 : Int32) ≤ nI 17 ↔ True) := by decide +kernel
theorem cd_18 : (nI 18 = (0 : Int32) ↔ False) ∧ (nI 18 = (1 : Int32) ↔ False) ∧ (nI 18 = (2 : Int32) ↔ False) ∧ (nI 18 = (3 : Int32) ↔ False) ∧ (nI 18 = (4 : Int32) ↔ False) ∧ (nI 18 = (5 : Int32) ↔ False) ∧ (nI 18 = (6 : Int32) ↔ False) ∧ (nI 18 = (7 : Int32) ↔ False) ∧ (nI 18 = (8 : Int32) ↔ False) ∧ (nI 18 = (9 : Int32) ↔ False) ∧ (nI 18 = (10 : Int32) ↔ False) ∧ (nI 18 = (11 : Int32) ↔ False) ∧ (nI 18 = (12 : Int32) ↔ False) ∧ (nI 18 = (13 : Int32) ↔ False) ∧ (nI 18 = (14 : Int32) ↔ False) ∧ (nI 18 = (15 : Int32) ↔ False) ∧ (nI 18 = (16 : Int32) ↔ False) ∧ (nI 18 = (17 : Int32) ↔ False) ∧ (nI 18 = (18 : Int32) ↔ True) ∧ (nI 18 = (19 : Int32) ↔ False) ∧ (nI 18 = (20 : Int32) ↔ False) ∧ (nI 18 = (21 : Int32) ↔ False) ∧ (nI 18 < (16 : Int32) ↔ False) ∧ (nI 18 ≤ (15 : Int32) ↔ False) ∧ (nI 18 ≤ (0 : Int32) ↔ False) ∧ ((5 : Int32) ≤ nI 18 ↔ True) ∧ ((9 : Int32) ≤ nI 18 ↔ True) := by decide +kernel
theorem cd_19 : (nI 19 = (0 : Int32) ↔ False) ∧ (nI 19 = (1 : Int32) ↔ False) ∧ (nI 19 = (2 : Int32) ↔ False) ∧ (nI 19 = (3 : Int32) ↔ False) ∧ (nI 19 = (4 : Int32) ↔ False) ∧ (nI 19 = (5 : Int32) ↔ False) ∧ (nI 19 = (6 : Int32) ↔ False) ∧ (nI 19 = (7 : Int32) ↔ False) ∧ (nI 19 = (8 : Int32) ↔ False) ∧ (nI 19 = (9 : Int32) ↔ False) ∧ (nI 19 = (10 : Int32) ↔ False) ∧ (nI 19 = (11 : Int32) ↔ False) ∧ (nI 19 = (12 : Int32) ↔ False) ∧ (nI 19 = (13 : Int32) ↔ False) ∧ (nI 19 = (14 : Int32) ↔ False) ∧ (nI 19 = (15 : Int32) ↔ False) ∧ (nI 19 = (16 : Int32) ↔ False) ∧ (nI 19 = (17 : Int32) ↔ False) ∧ (nI 19 = (18 : Int32) ↔ False) ∧ (nI 19 = (19 : Int32) ↔ True) ∧ (nI 19 = (20 : Int32) ↔ False) ∧ (nI 19 = (21 : Int32) ↔ False) ∧ (nI 19 < (16 : Int32) ↔ False) ∧ (nI 19 ≤ (15 : Int32) ↔ False) ∧ (nI 19 ≤ (0 : Int32) ↔ False) ∧ ((5 : Int32) ≤ nI 19 ↔ True) ∧ ((9 : Int32) ≤ nI 19 ↔ True) := by decide +kernel
theorem cd_20 : (nI 20 = (0 : Int32) ↔ False) ∧ (nI 20 = (1 : Int32) ↔ False) ∧ (nI 20 = (2 : Int32) ↔ False) ∧ (nI 20 = (3 : Int32) ↔ False) ∧ (nI 20 = (4 : Int32) ↔ False) ∧ (nI 20 = (5 : Int32) ↔ False) ∧ (nI 20 = (6 : Int32) ↔ False) ∧ (nI 20 = (7 : Int32) ↔ False) ∧ (nI 20 = (8 : Int32) ↔ False) ∧ (nI 20 = (9 : Int32) ↔ False) ∧ (nI 20 = (10 : Int32) ↔ False) ∧ (nI 20 = (11 : Int32) ↔ False) ∧ (nI 20 = (12 : Int32) ↔ False) ∧ (nI 20 = (13 : Int32) ↔ False) ∧ (nI 20 = (14 : Int32) ↔ False) ∧ (nI 20 = (15 : Int32) ↔ False) ∧ (nI 20 = (16 : Int32) ↔ False) ∧ (nI 20 = (17 : Int32) ↔ False) ∧ (nI 20 = (18 : Int32) ↔ False) ∧ (nI 20 = (19 : Int32) ↔ False) ∧ (nI 20 = (20 : Int32) ↔ True) ∧ (nI 20 = (21 : Int32) ↔ False) ∧ (nI 20 < (16 : Int32) ↔ False) ∧ (nI 20 ≤ (15 : Int32) ↔ False) ∧ (nI 20 ≤ (0 : Int32) ↔ False) ∧ ((5 : Int32) ≤ nI 20 ↔ True) ∧ ((9 : Int32) ≤ nI 20 ↔ True) := by decide +kernel
theorem cd_21 : (nI 21 = (0 : Int32) ↔ False) ∧ (nI 21 = (1 : Int32) ↔ False) ∧ (nI 21 = (2 : Int32) ↔ False) ∧ (nI 21 = (3 : Int32) ↔ False) ∧ (nI 21 = (4 : Int32) ↔ False) ∧ (nI 21 = (5 : Int32) ↔ False) ∧ (nI 21 = (6 : Int32) ↔ False) ∧ (nI 21 = (7 : Int32) ↔ False) ∧ (nI 21 = (8 : Int32) ↔ False) ∧ (nI 21 = (9 : Int32) ↔ False) ∧ (nI 21 = (10 : Int32) ↔ False) ∧ (nI 21 = (11 : Int32) ↔ False) ∧ (nI 21 = (12 : Int32) ↔ False) ∧ (nI 21 = (13 : Int32) ↔ False) ∧ (nI 21 = (14 : Int32) ↔ False) ∧ (nI 21 = (15 : Int32) ↔ False) ∧ (nI 21 = (16 : Int32) ↔ False) ∧ (nI 21 = (17 : Int32) ↔ False) ∧ (nI 21 = (18 : Int32) ↔ False) ∧ (nI 21 = (19 : Int32) ↔ False) ∧ (nI 21 = (20 : Int32) ↔ False) ∧ (nI 21 = (21 : Int32) ↔ True) ∧ (nI 21 < (16 : Int32) ↔ False) ∧ (nI 21 ≤ (15 : Int32) ↔ False) ∧ (nI 21 ≤ (0 : Int32) ↔ False) ∧ ((5 : Int32) ≤ nI 21 ↔ True) ∧ ((9 : Int32) ≤ nI 21 ↔ True) := by decide +kernel
section OP
variable {L : cp_Lay} {w h B q a : Nat} {C0 R0 C R D : cp_Dt}
theorem ops_eq {o : Nat} (ho : o < 22) : fn_X6_operands L q (nI o) D = some (cp_ops o, D) := by
  unfold fn_X6_operands
  match o, ho with
  | 0, _ => simp only [cd_0, ↓reduceIte]; rfl
  | 1, _ => simp only [cd_1, ↓reduceIte]; rfl
  | 2, _ => simp only [cd_2, ↓reduceIte]; rfl
  | 3, _ => simp only [cd_3, ↓reduceIte]; rfl
  | 4, _ => simp only [cd_4, ↓reduceIte]; rfl
  | 5, _ => simp only [cd_5, ↓reduceIte]; rfl
  | 6, _ => simp only [cd_6, ↓reduceIte]; rfl
  | 7, _ => simp only [cd_7, ↓reduceIte]; rfl
  | 8, _ => simp only [cd_8, ↓reduceIte]; rfl
  | 9, _ => simp only [cd_9, ↓reduceIte]; rfl
  | 10, _ => simp only [cd_10, ↓reduceIte]; rfl
  | 11, _ => simp only [cd_11, ↓reduceIte]; rfl
  | 12, _ => simp only [cd_12, ↓reduceIte]; rfl
  | 13, _ => simp only [cd_13, ↓reduceIte]; rfl
  | 14, _ => simp only [cd_14, ↓reduceIte]; rfl
  | 15, _ => simp only [cd_15, ↓reduceIte]; rfl
  | 16, _ => simp only [cd_16, ↓reduceIte]; rfl
  | 17, _ => simp only [cd_17, ↓reduceIte]; rfl
  | 18, _ => simp only [cd_18, ↓reduceIte]; rfl
  | 19, _ => simp only [cd_19, ↓reduceIte]; rfl
  | 20, _ => simp only [cd_20, ↓reduceIte]; rfl
  | 21, _ => simp only [cd_21, ↓reduceIte]; rfl
  | k + 22, h => omega
theorem ops_in {o : Nat} (ho : o < 22) : cp_tb 22 cp_ops (nI o) = some (cp_ops o) ∧ ∃ m, m ≤ 2 ∧ cp_ops o = nI m := by
  refine ⟨?_, ?_⟩
  · unfold cp_tb
    rw [if_neg (nI_in ho (by decide)), nI_clamp (by omega)]
  · match o, ho with
    | 0, _ => exact ⟨0, by omega, rfl⟩
    | 1, _ => exact ⟨2, by omega, rfl⟩
    | 2, _ => exact ⟨2, by omega, rfl⟩
    | 3, _ => exact ⟨2, by omega, rfl⟩
    | 4, _ => exact ⟨2, by omega, rfl⟩
    | 5, _ => exact ⟨2, by omega, rfl⟩
    | 6, _ => exact ⟨2, by omega, rfl⟩
    | 7, _ => exact ⟨1, by omega, rfl⟩
    | 8, _ => exact ⟨1, by omega, rfl⟩
    | 9, _ => exact ⟨2, by omega, rfl⟩
    | 10, _ => exact ⟨2, by omega, rfl⟩
    | 11, _ => exact ⟨1, by omega, rfl⟩
    | 12, _ => exact ⟨2, by omega, rfl⟩
    | 13, _ => exact ⟨2, by omega, rfl⟩
    | 14, _ => exact ⟨2, by omega, rfl⟩
    | 15, _ => exact ⟨2, by omega, rfl⟩
    | 16, _ => exact ⟨1, by omega, rfl⟩
    | 17, _ => exact ⟨0, by omega, rfl⟩
    | 18, _ => exact ⟨0, by omega, rfl⟩
    | 19, _ => exact ⟨1, by omega, rfl⟩
    | 20, _ => exact ⟨1, by omega, rfl⟩
    | 21, _ => exact ⟨0, by omega, rfl⟩
    | k + 22, h => omega
theorem bind_of {α β : Type} {x : Option α} {f : α → Option β} {v : α} (h : x = some v) : x.bind f = f v := by rw [h]; rfl
theorem and7 (x : Int32) : ∃ i, i < 8 ∧ x &&& 7 = nI i := pk_andE x 3 (by decide)
theorem and3 (x : Int32) : ∃ i, i < 4 ∧ x &&& 3 = nI i := pk_andE x 2 (by decide)
theorem and15 (x : Int32) : ∃ i, i < 16 ∧ x &&& 15 = nI i := pk_andE x 4 (by decide)
theorem and63 (x : Int32) : ∃ i, i < 64 ∧ x &&& 63 = nI i := pk_andE x 6 (by decide)
theorem and255 (x : Int32) : ∃ i, i < 256 ∧ x &&& 255 = nI i := pk_andE x 8 (by decide)
set_option maxHeartbeats 4000000 in
theorem sim_reckon {N o : Nat} (hNe : N = w * h) (O : cp_ok L w h) (P : cp_okP L N 3) (hq : 2000 ≤ q) (hB : B < 2 ^ 30) (S : rSh w h C R) (H : Rel N 3 144 B C R) (ha : a < 16) (hl : C (pA 3 a) 3 = 1) (x3 x4 : Int32) (ho : (1 ≤ o ∧ o ≤ 9) ∨ o = 14 ∨ o = 15) :
    ∃ z, fn_X3_reckon L q 141 (pA 3 a) (nI o) x3 x4 C = some (z, C) ∧ fn_X6_reckon L q 143 (nI a) (nI o) x3 x4 R = some (z, R) := by
  have hN : N ≤ 100 := by rw [hNe]; exact N_le O.1
  obtain ⟨⟨-, -, k3, k4, -⟩, -⟩ := rel_liv H ha hl
  obtain ⟨i, i1, i2⟩ := and7 x3
  obtain ⟨j, j1, j2⟩ := and7 x4
  obtain ⟨k, m1, m2⟩ := and3 x4
  obtain ⟨m, n1, n2⟩ := and15 (C (pR 3 a) j)
  have ri := (k3 i i1).symm
  have rj := (k3 j j1).symm
  have rm := (k4 m n1).symm
  obtain ⟨zl, l1, l2⟩ := sim_looks (q := q) hNe O P hq S H ha hl m1
  obtain ⟨zf, f1, f2⟩ := sim_feels (q := q) O P hN hB H ha hl m1
  unfold fn_X3_reckon fn_X6_reckon
  rw [an_rg P ha, bind_of rfl, i2, j2, bind_of (an_rgI P ha i1), bind_of rfl, bind_of (an_rgI P ha j1), fn_X6_at, bind_of rfl, re_now O, bind_of rfl, at_eq, nk_10, nI_add, nI_add, bind_of (re_I O (by omega)), bind_of rfl, bind_of (re_I O (by omega)), m2]
  dsimp only
  rw [ri, rj]
  match o, ho with
  | 1, _ =>
    simp only [cd_1, ↓reduceIte]
    exact ⟨_, rfl, rfl⟩
  | 2, _ =>
    simp only [cd_2, ↓reduceIte]
    exact ⟨_, rfl, rfl⟩
  | 3, _ =>
    simp only [cd_3, ↓reduceIte]
    exact ⟨_, rfl, rfl⟩
  | 4, _ =>
    simp only [cd_4, ↓reduceIte]
    exact ⟨_, rfl, rfl⟩
  | 5, _ =>
    simp only [cd_5, ↓reduceIte]
    exact ⟨_, rfl, rfl⟩
  | 6, _ =>
    simp only [cd_6, ↓reduceIte]
    exact ⟨_, rfl, rfl⟩
  | 7, _ =>
    simp only [cd_7, ↓reduceIte]
    exact ⟨_, rfl, by rw [Int32.mul_comm]⟩
  | 8, _ =>
    simp only [cd_8, ↓reduceIte]
    exact ⟨_, rfl, rfl⟩
  | 9, _ =>
    simp only [cd_9, ↓reduceIte]
    rw [an_me P ha, bind_of rfl, mi_fl O, bind_of rfl, fn_X3_memoryIndex, an_rg P ha, bind_of rfl, j2, bind_of (an_rgI P ha j1), n2, bind_of rfl, bind_of (an_meI P ha n1), bind_of rfl, fn_X6_at, bind_of rfl, at_eq, nk_18, nI_add, bind_of (re_I O (by omega))]; dsimp only; rw [rm]; exact ⟨_, rfl, rfl⟩
  | 14, _ =>
    simp only [cd_14, ↓reduceIte]
    rw [mi_fl O, bind_of rfl, bind_of l1, re_fl O, bind_of rfl, bind_of l2]; exact ⟨_, rfl, rfl⟩
  | 15, _ =>
    simp only [cd_15, ↓reduceIte]
    rw [mi_fl O, bind_of rfl, bind_of f1, re_fl O, bind_of rfl, bind_of f2]; exact ⟨_, rfl, rfl⟩
  | 0, h => omega
  | 10, h => omega
  | 11, h => omega
  | 12, h => omega
  | 13, h => omega
  | o + 16, h => omega
end OP
