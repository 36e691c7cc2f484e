/-! The first text. -/
def zbtC (i : Nat) : Nat := (zWX 13).getD i 0
def zbtM (i : Nat) : Nat := (zWX 13 ++ [32, 32, 32, 32, 32]).getD i 0
theorem zlx_C : zlx zbtC 35 161 0 = [(6, 0, 6), (12, 5, 1), (59, 13, 0), (7, 15, 7), (13, 22, 1), (59, 24, 0), (8, 26, 8), (13, 32, 0), (59, 34, 0), (14, 35, 0)] := by decide +kernel
theorem zlx_M : zlx zbtM 40 161 0 = [(6, 0, 6), (12, 5, 1), (59, 13, 0), (7, 15, 7), (13, 22, 1), (59, 24, 0), (8, 26, 8), (13, 32, 0), (59, 34, 0), (14, 40, 0)] := by decide +kernel
theorem zrd_T (n : Nat) : zrd [(6, 0, 6), (12, 5, 1), (59, 13, 0), (7, 15, 7), (13, 22, 1), (59, 24, 0), (8, 26, 8), (13, 32, 0), (59, 34, 0), (14, n, 0)] = .inr (zEnam 1, zEnum 1, zEnum 0) := rfl
theorem zrd_C : zrd (zlx zbtC 35 161 0) = .inr (zEnam 1, zEnum 1, zEnum 0) := by rw [zlx_C]; exact zrd_T 35
theorem zrd_M : zrd (zlx zbtM 40 161 0) = .inr (zEnam 1, zEnum 1, zEnum 0) := by rw [zlx_M]; exact zrd_T 40
