/-! The code of LaidByArgument$Tape, LaidByArgument$Tokens, LaidByArgument$Reader, LaidByArgument$Image, LaidByArgument$Mornings, java/lang/Integer. -/
def tkX7_init_13 : List mE := (13, .return_, 1, 13, [], 0, 0, zM0) :: []
def tkX7_init_10 : List mE := (10, .putfield 9, 3, 10, [], 0, 0, zM0) :: tkX7_init_13
def tkX7_init_8 : List mE := (8, .newarray .int, 2, 8, [], 0, 0, zM0) :: tkX7_init_10
def tkX7_init_4 : List mE := (4, .aload_n 0, 1, 0, [], 0, 0, zM0) ::
  (5, .sipush 160, 3, 5, [], 160, 0, zM0) :: tkX7_init_8
def tkX7_init_1 : List mE := (1, .invokespecial 3, 3, 1, [], 0, 0, zM0) :: tkX7_init_4
def tkX7_init_0 : List mE := (0, .aload_n 0, 1, 0, [], 0, 0, zM0) :: tkX7_init_1
def tkX7_init : List mE := tkX7_init_0
theorem zkX7_init : zat 0 tkX7_init = tkX7_init_0 ∧ zat 1 tkX7_init = tkX7_init_1 ∧ zat 4 tkX7_init = tkX7_init_4 ∧ zat 8 tkX7_init = tkX7_init_8 ∧ zat 10 tkX7_init = tkX7_init_10 ∧ zat 13 tkX7_init = tkX7_init_13 := ⟨rfl, rfl, rfl, rfl, rfl, rfl⟩
theorem okX7_init : zok kX7_init.2.1 kX7_init.2.2.1 kX7_init.2.2.2.1 tkX7_init = true := by decide +kernel
def tkX7_add_14 : List mE := (14, .aload_n 0, 1, 0, [], 0, 0, zM0) ::
  (15, .getfield 9, 3, 7, [0, 2, 1067], 0, 0, zM0) ::
  (18, .aload_n 0, 1, 0, [], 0, 0, zM0) ::
  (19, .getfield 15, 3, 7, [1, 0, 1068], 0, 0, zM0) ::
  (22, .iload_n 1, 1, 1, [], 0, 0, zM0) ::
  (23, .iastore, 1, 23, [], 0, 0, zM0) ::
  (24, .aload_n 0, 1, 0, [], 0, 0, zM0) ::
  (25, .dup, 1, 25, [], 0, 0, zM0) ::
  (26, .getfield 15, 3, 7, [1, 0, 1068], 0, 0, zM0) ::
  (29, .iconst 1, 1, 29, [], 1, 0, zM0) ::
  (30, .iadd, 1, 30, [], 0, 0, zM0) ::
  (31, .putfield 15, 3, 7, [1, 0, 1068], 0, 0, zM0) ::
  (34, .iconst 1, 1, 34, [], 1, 0, zM0) ::
  (35, .ireturn, 1, 35, [], 0, 0, zM0) :: []
def tkX7_add_0 : List mE := (0, .aload_n 0, 1, 0, [], 0, 0, zM0) ::
  (1, .getfield 15, 3, 7, [1, 0, 1068], 0, 0, zM0) ::
  (4, .aload_n 0, 1, 0, [], 0, 0, zM0) ::
  (5, .getfield 9, 3, 7, [0, 2, 1067], 0, 0, zM0) ::
  (8, .arraylength, 1, 0, [], 0, 0, zM0) ::
  (9, .if_icmp .lt 5, 3, 14, [], 0, 0, zM0) ::
  (12, .iconst 0, 1, 12, [], 0, 0, zM0) ::
  (13, .ireturn, 1, 13, [], 0, 0, zM0) :: tkX7_add_14
def tkX7_add : List mE := tkX7_add_0
theorem zkX7_add : zat 0 tkX7_add = tkX7_add_0 ∧ zat 14 tkX7_add = tkX7_add_14 := ⟨rfl, rfl⟩
theorem okX7_add : zok kX7_add.2.1 kX7_add.2.2.1 kX7_add.2.2.2.1 tkX7_add = true := by decide +kernel
def tkX7_size_0 : List mE := (0, .aload_n 0, 1, 0, [], 0, 0, zM0) ::
  (1, .getfield 15, 3, 7, [1, 0, 1068], 0, 0, zM0) ::
  (4, .ireturn, 1, 4, [], 0, 0, zM0) :: []
def tkX7_size : List mE := tkX7_size_0
theorem zkX7_size : zat 0 tkX7_size = tkX7_size_0 := rfl
theorem okX7_size : zok kX7_size.2.1 kX7_size.2.2.1 kX7_size.2.2.2.1 tkX7_size = true := by decide +kernel
def tkX7_byteAt_31 : List mE := (31, .ireturn, 1, 31, [], 0, 0, zM0) :: []
def tkX7_byteAt_30 : List mE := (30, .iconst (-1), 1, 30, [], (-1), 0, zM0) :: tkX7_byteAt_31
def tkX7_byteAt_0 : List mE := (0, .iload_n 1, 1, 1, [], 0, 0, zM0) ::
  (1, .ifCond .lt 29, 3, 30, [], 0, 0, zM0) ::
  (4, .iload_n 1, 1, 1, [], 0, 0, zM0) ::
  (5, .aload_n 0, 1, 0, [], 0, 0, zM0) ::
  (6, .getfield 15, 3, 7, [1, 0, 1068], 0, 0, zM0) ::
  (9, .if_icmp .ge 21, 3, 30, [], 0, 0, zM0) ::
  (12, .iload_n 1, 1, 1, [], 0, 0, zM0) ::
  (13, .aload_n 0, 1, 0, [], 0, 0, zM0) ::
  (14, .getfield 9, 3, 7, [0, 2, 1067], 0, 0, zM0) ::
  (17, .arraylength, 1, 0, [], 0, 0, zM0) ::
  (18, .if_icmp .ge 12, 3, 30, [], 0, 0, zM0) ::
  (21, .aload_n 0, 1, 0, [], 0, 0, zM0) ::
  (22, .getfield 9, 3, 7, [0, 2, 1067], 0, 0, zM0) ::
  (25, .iload_n 1, 1, 1, [], 0, 0, zM0) ::
  (26, .iaload, 1, 0, [], 0, 0, zM0) ::
  (27, .goto 4, 3, 31, [], 0, 0, zM0) :: tkX7_byteAt_30
def tkX7_byteAt : List mE := tkX7_byteAt_0
theorem zkX7_byteAt : zat 0 tkX7_byteAt = tkX7_byteAt_0 ∧ zat 30 tkX7_byteAt = tkX7_byteAt_30 ∧ zat 31 tkX7_byteAt = tkX7_byteAt_31 := ⟨rfl, rfl, rfl⟩
theorem okX7_byteAt : zok kX7_byteAt.2.1 kX7_byteAt.2.2.1 kX7_byteAt.2.2.2.1 tkX7_byteAt = true := by decide +kernel
def tkX7_spells_62 : List mE := (62, .iconst 1, 1, 62, [], 1, 0, zM0) ::
  (63, .ireturn, 1, 63, [], 0, 0, zM0) :: []
def tkX7_spells_56 : List mE := (56, .iinc 4 1, 3, 4, [], 1, 0, zM0) ::
  (59, .goto (-32), 3, 27, [], 0, 0, zM0) :: tkX7_spells_62
def tkX7_spells_51 : List mE := (51, .if_icmp .eq 5, 3, 56, [], 0, 0, zM0) ::
  (54, .iconst 0, 1, 54, [], 0, 0, zM0) ::
  (55, .ireturn, 1, 55, [], 0, 0, zM0) :: tkX7_spells_56
def tkX7_spells_48 : List mE := (48, .invokevirtual 25, 3, 48, [], 0, 0, zM0) :: tkX7_spells_51
def tkX7_spells_33 : List mE := (33, .if_icmp .ge 29, 3, 62, [], 0, 0, zM0) ::
  (36, .aload_n 0, 1, 0, [], 0, 0, zM0) ::
  (37, .getfield 9, 3, 7, [0, 2, 1067], 0, 0, zM0) ::
  (40, .iload_n 2, 1, 2, [], 0, 0, zM0) ::
  (41, .iload 4, 2, 4, [], 0, 0, zM0) ::
  (43, .iadd, 1, 43, [], 0, 0, zM0) ::
  (44, .iaload, 1, 0, [], 0, 0, zM0) ::
  (45, .aload_n 1, 1, 1, [], 0, 0, zM0) ::
  (46, .iload 4, 2, 4, [], 0, 0, zM0) :: tkX7_spells_48
def tkX7_spells_30 : List mE := (30, .invokevirtual 19, 3, 30, [], 0, 0, zM0) :: tkX7_spells_33
def tkX7_spells_27 : List mE := (27, .iload 4, 2, 4, [], 0, 0, zM0) ::
  (29, .aload_n 1, 1, 1, [], 0, 0, zM0) :: tkX7_spells_30
def tkX7_spells_24 : List mE := (24, .iconst 0, 1, 24, [], 0, 0, zM0) ::
  (25, .istore 4, 2, 4, [], 0, 0, zM0) :: tkX7_spells_27
def tkX7_spells_22 : List mE := (22, .iconst 0, 1, 22, [], 0, 0, zM0) ::
  (23, .ireturn, 1, 23, [], 0, 0, zM0) :: tkX7_spells_24
def tkX7_spells_19 : List mE := (19, .if_icmp .eq 5, 3, 24, [], 0, 0, zM0) :: tkX7_spells_22
def tkX7_spells_16 : List mE := (16, .invokevirtual 19, 3, 16, [], 0, 0, zM0) :: tkX7_spells_19
def tkX7_spells_0 : List mE := (0, .iload_n 2, 1, 2, [], 0, 0, zM0) ::
  (1, .ifCond .lt 21, 3, 22, [], 0, 0, zM0) ::
  (4, .iload_n 3, 1, 3, [], 0, 0, zM0) ::
  (5, .aload_n 0, 1, 0, [], 0, 0, zM0) ::
  (6, .getfield 15, 3, 7, [1, 0, 1068], 0, 0, zM0) ::
  (9, .if_icmp .gt 13, 3, 22, [], 0, 0, zM0) ::
  (12, .iload_n 3, 1, 3, [], 0, 0, zM0) ::
  (13, .iload_n 2, 1, 2, [], 0, 0, zM0) ::
  (14, .isub, 1, 14, [], 0, 0, zM0) ::
  (15, .aload_n 1, 1, 1, [], 0, 0, zM0) :: tkX7_spells_16
def tkX7_spells : List mE := tkX7_spells_0
theorem zkX7_spells : zat 0 tkX7_spells = tkX7_spells_0 ∧ zat 16 tkX7_spells = tkX7_spells_16 ∧ zat 19 tkX7_spells = tkX7_spells_19 ∧ zat 22 tkX7_spells = tkX7_spells_22 ∧ zat 24 tkX7_spells = tkX7_spells_24 ∧ zat 27 tkX7_spells = tkX7_spells_27 ∧ zat 30 tkX7_spells = tkX7_spells_30 ∧ zat 33 tkX7_spells = tkX7_spells_33 ∧ zat 48 tkX7_spells = tkX7_spells_48 ∧ zat 51 tkX7_spells = tkX7_spells_51 ∧ zat 56 tkX7_spells = tkX7_spells_56 ∧ zat 62 tkX7_spells = tkX7_spells_62 := ⟨rfl, rfl, rfl, rfl, rfl, rfl, rfl, rfl, rfl, rfl, rfl, rfl⟩
theorem okX7_spells : zok kX7_spells.2.1 kX7_spells.2.2.1 kX7_spells.2.2.2.1 tkX7_spells = true := by decide +kernel
def tkX7_empty_0 : List mE := (0, .aload_n 0, 1, 0, [], 0, 0, zM0) ::
  (1, .iconst 0, 1, 1, [], 0, 0, zM0) ::
  (2, .putfield 15, 3, 7, [1, 0, 1068], 0, 0, zM0) ::
  (5, .return_, 1, 5, [], 0, 0, zM0) :: []
def tkX7_empty : List mE := tkX7_empty_0
theorem zkX7_empty : zat 0 tkX7_empty = tkX7_empty_0 := rfl
theorem okX7_empty : zok kX7_empty.2.1 kX7_empty.2.2.1 kX7_empty.2.2.2.1 tkX7_empty = true := by decide +kernel
def tkX9_init_31 : List mE := (31, .return_, 1, 31, [], 0, 0, zM0) :: []
def tkX9_init_28 : List mE := (28, .putfield 18, 3, 28, [], 0, 0, zM0) :: tkX9_init_31
def tkX9_init_26 : List mE := (26, .newarray .int, 2, 26, [], 0, 0, zM0) :: tkX9_init_28
def tkX9_init_22 : List mE := (22, .aload_n 0, 1, 0, [], 0, 0, zM0) ::
  (23, .sipush 161, 3, 23, [], 161, 0, zM0) :: tkX9_init_26
def tkX9_init_19 : List mE := (19, .putfield 15, 3, 19, [], 0, 0, zM0) :: tkX9_init_22
def tkX9_init_17 : List mE := (17, .newarray .int, 2, 17, [], 0, 0, zM0) :: tkX9_init_19
def tkX9_init_13 : List mE := (13, .aload_n 0, 1, 0, [], 0, 0, zM0) ::
  (14, .sipush 161, 3, 14, [], 161, 0, zM0) :: tkX9_init_17
def tkX9_init_10 : List mE := (10, .putfield 11, 3, 10, [], 0, 0, zM0) :: tkX9_init_13
def tkX9_init_8 : List mE := (8, .newarray .int, 2, 8, [], 0, 0, zM0) :: tkX9_init_10
def tkX9_init_4 : List mE := (4, .aload_n 0, 1, 0, [], 0, 0, zM0) ::
  (5, .sipush 161, 3, 5, [], 161, 0, zM0) :: tkX9_init_8
def tkX9_init_1 : List mE := (1, .invokespecial 3, 3, 1, [], 0, 0, zM0) :: tkX9_init_4
def tkX9_init_0 : List mE := (0, .aload_n 0, 1, 0, [], 0, 0, zM0) :: tkX9_init_1
def tkX9_init : List mE := tkX9_init_0
theorem zkX9_init : zat 0 tkX9_init = tkX9_init_0 ∧ zat 1 tkX9_init = tkX9_init_1 ∧ zat 4 tkX9_init = tkX9_init_4 ∧ zat 8 tkX9_init = tkX9_init_8 ∧ zat 10 tkX9_init = tkX9_init_10 ∧ zat 13 tkX9_init = tkX9_init_13 ∧ zat 17 tkX9_init = tkX9_init_17 ∧ zat 19 tkX9_init = tkX9_init_19 ∧ zat 22 tkX9_init = tkX9_init_22 ∧ zat 26 tkX9_init = tkX9_init_26 ∧ zat 28 tkX9_init = tkX9_init_28 ∧ zat 31 tkX9_init = tkX9_init_31 := ⟨rfl, rfl, rfl, rfl, rfl, rfl, rfl, rfl, rfl, rfl, rfl, rfl⟩
theorem okX9_init : zok kX9_init.2.1 kX9_init.2.2.1 kX9_init.2.2.2.1 tkX9_init = true := by decide +kernel
def tkX9_split_42 : List mE := (42, .aload_n 0, 1, 0, [], 0, 0, zM0) ::
  (43, .bipush 14, 2, 43, [], 14, 0, zM0) ::
  (45, .aload_n 1, 1, 1, [], 0, 0, zM0) ::
  (46, .invokevirtual 28, 3, 7, [2056, 0, 1], 0, 0, kX7_size) ::
  (49, .iconst 0, 1, 49, [], 0, 0, zM0) ::
  (50, .invokevirtual 37, 3, 9, [2096, 3, 0], 0, 0, kX9_add) ::
  (53, .return_, 1, 53, [], 0, 0, zM0) :: []
def tkX9_split_14 : List mE := (14, .iload_n 3, 1, 3, [], 0, 0, zM0) ::
  (15, .sipush 161, 3, 15, [], 161, 0, zM0) ::
  (18, .if_icmp .ge 24, 3, 42, [], 0, 0, zM0) ::
  (21, .iload_n 2, 1, 2, [], 0, 0, zM0) ::
  (22, .aload_n 1, 1, 1, [], 0, 0, zM0) ::
  (23, .invokevirtual 28, 3, 7, [2056, 0, 1], 0, 0, kX7_size) ::
  (26, .if_icmp .ge 16, 3, 42, [], 0, 0, zM0) ::
  (29, .aload_n 0, 1, 0, [], 0, 0, zM0) ::
  (30, .aload_n 1, 1, 1, [], 0, 0, zM0) ::
  (31, .iload_n 2, 1, 2, [], 0, 0, zM0) ::
  (32, .invokevirtual 33, 3, 9, [2060, 2, 1], 0, 0, kX9_take) ::
  (35, .istore_n 2, 1, 2, [], 0, 0, zM0) ::
  (36, .iinc 3 1, 3, 3, [], 1, 0, zM0) ::
  (39, .goto (-25), 3, 14, [], 0, 0, zM0) :: tkX9_split_42
def tkX9_split_0 : List mE := (0, .aload_n 0, 1, 0, [], 0, 0, zM0) ::
  (1, .iconst 0, 1, 1, [], 0, 0, zM0) ::
  (2, .putfield 21, 3, 9, [3, 0, 1089], 0, 0, zM0) ::
  (5, .aload_n 0, 1, 0, [], 0, 0, zM0) ::
  (6, .iconst 0, 1, 6, [], 0, 0, zM0) ::
  (7, .putfield 25, 3, 9, [4, 0, 1090], 0, 0, zM0) ::
  (10, .iconst 0, 1, 10, [], 0, 0, zM0) ::
  (11, .istore_n 2, 1, 2, [], 0, 0, zM0) ::
  (12, .iconst 0, 1, 12, [], 0, 0, zM0) ::
  (13, .istore_n 3, 1, 3, [], 0, 0, zM0) :: tkX9_split_14
def tkX9_split : List mE := tkX9_split_0
theorem zkX9_split : zat 0 tkX9_split = tkX9_split_0 ∧ zat 14 tkX9_split = tkX9_split_14 ∧ zat 42 tkX9_split = tkX9_split_42 := ⟨rfl, rfl, rfl⟩
theorem okX9_split : zok kX9_split.2.1 kX9_split.2.2.1 kX9_split.2.2.2.1 tkX9_split = true := by decide +kernel
def tkX9_take_67 : List mE := (67, .iload_n 2, 1, 2, [], 0, 0, zM0) ::
  (68, .iconst 0, 1, 68, [], 0, 0, zM0) ::
  (69, .invokevirtual 37, 3, 9, [2096, 3, 0], 0, 0, kX9_add) ::
  (72, .iload_n 2, 1, 2, [], 0, 0, zM0) ::
  (73, .iconst 1, 1, 73, [], 1, 0, zM0) ::
  (74, .iadd, 1, 74, [], 0, 0, zM0) ::
  (75, .ireturn, 1, 75, [], 0, 0, zM0) :: []
def tkX9_take_65 : List mE := (65, .bipush 15, 2, 65, [], 15, 0, zM0) :: tkX9_take_67
def tkX9_take_58 : List mE := (58, .ifCond .lt 7, 3, 65, [], 0, 0, zM0) ::
  (61, .iload_n 3, 1, 3, [], 0, 0, zM0) ::
  (62, .goto 5, 3, 67, [], 0, 0, zM0) :: tkX9_take_65
def tkX9_take_55 : List mE := (55, .invokevirtual 60, 3, 55, [], 0, 0, zM0) :: tkX9_take_58
def tkX9_take_53 : List mE := (53, .iload_n 3, 1, 3, [], 0, 0, zM0) ::
  (54, .i2c, 1, 54, [], 0, 0, zM0) :: tkX9_take_55
def tkX9_take_51 : List mE := (51, .ldc 58, 2, 51, [], 0, 0, zM0) :: tkX9_take_53
def tkX9_take_50 : List mE := (50, .aload_n 0, 1, 0, [], 0, 0, zM0) :: tkX9_take_51
def tkX9_take_36 : List mE := (36, .iload_n 3, 1, 3, [], 0, 0, zM0) ::
  (37, .invokestatic 52, 3, 0, [2100, 1, 1], 0, 0, kX9_isDigit) ::
  (40, .ifCond .eq 10, 3, 50, [], 0, 0, zM0) ::
  (43, .aload_n 0, 1, 0, [], 0, 0, zM0) ::
  (44, .aload_n 1, 1, 1, [], 0, 0, zM0) ::
  (45, .iload_n 2, 1, 2, [], 0, 0, zM0) ::
  (46, .invokevirtual 55, 3, 9, [2103, 2, 1], 0, 0, kX9_takeNumber) ::
  (49, .ireturn, 1, 49, [], 0, 0, zM0) :: tkX9_take_50
def tkX9_take_22 : List mE := (22, .iload_n 3, 1, 3, [], 0, 0, zM0) ::
  (23, .invokestatic 45, 3, 0, [2068, 1, 1], 0, 0, kX9_isLetter) ::
  (26, .ifCond .eq 10, 3, 36, [], 0, 0, zM0) ::
  (29, .aload_n 0, 1, 0, [], 0, 0, zM0) ::
  (30, .aload_n 1, 1, 1, [], 0, 0, zM0) ::
  (31, .iload_n 2, 1, 2, [], 0, 0, zM0) ::
  (32, .invokevirtual 49, 3, 9, [2071, 2, 1], 0, 0, kX9_takeWord) ::
  (35, .ireturn, 1, 35, [], 0, 0, zM0) :: tkX9_take_36
def tkX9_take_18 : List mE := (18, .iload_n 2, 1, 2, [], 0, 0, zM0) ::
  (19, .iconst 1, 1, 19, [], 1, 0, zM0) ::
  (20, .iadd, 1, 20, [], 0, 0, zM0) ::
  (21, .ireturn, 1, 21, [], 0, 0, zM0) :: tkX9_take_22
def tkX9_take_0 : List mE := (0, .aload_n 1, 1, 1, [], 0, 0, zM0) ::
  (1, .iload_n 2, 1, 2, [], 0, 0, zM0) ::
  (2, .invokevirtual 41, 3, 7, [2064, 1, 1], 0, 0, kX7_byteAt) ::
  (5, .istore_n 3, 1, 3, [], 0, 0, zM0) ::
  (6, .iload_n 3, 1, 3, [], 0, 0, zM0) ::
  (7, .bipush 32, 2, 7, [], 32, 0, zM0) ::
  (9, .if_icmp .eq 9, 3, 18, [], 0, 0, zM0) ::
  (12, .iload_n 3, 1, 3, [], 0, 0, zM0) ::
  (13, .bipush 10, 2, 13, [], 10, 0, zM0) ::
  (15, .if_icmp .ne 7, 3, 22, [], 0, 0, zM0) :: tkX9_take_18
def tkX9_take : List mE := tkX9_take_0
theorem zkX9_take : zat 0 tkX9_take = tkX9_take_0 ∧ zat 18 tkX9_take = tkX9_take_18 ∧ zat 22 tkX9_take = tkX9_take_22 ∧ zat 36 tkX9_take = tkX9_take_36 ∧ zat 50 tkX9_take = tkX9_take_50 ∧ zat 51 tkX9_take = tkX9_take_51 ∧ zat 53 tkX9_take = tkX9_take_53 ∧ zat 55 tkX9_take = tkX9_take_55 ∧ zat 58 tkX9_take = tkX9_take_58 ∧ zat 65 tkX9_take = tkX9_take_65 ∧ zat 67 tkX9_take = tkX9_take_67 := ⟨rfl, rfl, rfl, rfl, rfl, rfl, rfl, rfl, rfl, rfl, rfl⟩
theorem okX9_take : zok kX9_take.2.1 kX9_take.2.2.1 kX9_take.2.2.2.1 tkX9_take = true := by decide +kernel
def tkX9_isLetter_17 : List mE := (17, .ireturn, 1, 17, [], 0, 0, zM0) :: []
def tkX9_isLetter_16 : List mE := (16, .iconst 0, 1, 16, [], 0, 0, zM0) :: tkX9_isLetter_17
def tkX9_isLetter_0 : List mE := (0, .iload_n 0, 1, 0, [], 0, 0, zM0) ::
  (1, .bipush 97, 2, 1, [], 97, 0, zM0) ::
  (3, .if_icmp .lt 13, 3, 16, [], 0, 0, zM0) ::
  (6, .iload_n 0, 1, 0, [], 0, 0, zM0) ::
  (7, .bipush 122, 2, 7, [], 122, 0, zM0) ::
  (9, .if_icmp .gt 7, 3, 16, [], 0, 0, zM0) ::
  (12, .iconst 1, 1, 12, [], 1, 0, zM0) ::
  (13, .goto 4, 3, 17, [], 0, 0, zM0) :: tkX9_isLetter_16
def tkX9_isLetter : List mE := tkX9_isLetter_0
theorem zkX9_isLetter : zat 0 tkX9_isLetter = tkX9_isLetter_0 ∧ zat 16 tkX9_isLetter = tkX9_isLetter_16 ∧ zat 17 tkX9_isLetter = tkX9_isLetter_17 := ⟨rfl, rfl, rfl⟩
theorem okX9_isLetter : zok kX9_isLetter.2.1 kX9_isLetter.2.2.1 kX9_isLetter.2.2.2.1 tkX9_isLetter = true := by decide +kernel
def tkX9_takeWord_102 : List mE := (102, .iload_n 3, 1, 3, [], 0, 0, zM0) ::
  (103, .ireturn, 1, 103, [], 0, 0, zM0) :: []
def tkX9_takeWord_96 : List mE := (96, .iload_n 2, 1, 2, [], 0, 0, zM0) ::
  (97, .iload 4, 2, 4, [], 0, 0, zM0) ::
  (99, .invokevirtual 37, 3, 9, [2096, 3, 0], 0, 0, kX9_add) :: tkX9_takeWord_102
def tkX9_takeWord_94 : List mE := (94, .iload 4, 2, 4, [], 0, 0, zM0) :: tkX9_takeWord_96
def tkX9_takeWord_81 : List mE := (81, .aload_n 0, 1, 0, [], 0, 0, zM0) ::
  (82, .iload 4, 2, 4, [], 0, 0, zM0) ::
  (84, .bipush 6, 2, 84, [], 6, 0, zM0) ::
  (86, .if_icmp .ge 8, 3, 94, [], 0, 0, zM0) ::
  (89, .bipush 12, 2, 89, [], 12, 0, zM0) ::
  (91, .goto 5, 3, 96, [], 0, 0, zM0) :: tkX9_takeWord_94
def tkX9_takeWord_64 : List mE := (64, .iload 4, 2, 4, [], 0, 0, zM0) ::
  (66, .iconst (-1), 1, 66, [], (-1), 0, zM0) ::
  (67, .if_icmp .ne 14, 3, 81, [], 0, 0, zM0) ::
  (70, .aload_n 0, 1, 0, [], 0, 0, zM0) ::
  (71, .bipush 15, 2, 71, [], 15, 0, zM0) ::
  (73, .iload_n 2, 1, 2, [], 0, 0, zM0) ::
  (74, .iconst 0, 1, 74, [], 0, 0, zM0) ::
  (75, .invokevirtual 37, 3, 9, [2096, 3, 0], 0, 0, kX9_add) ::
  (78, .goto 24, 3, 102, [], 0, 0, zM0) :: tkX9_takeWord_81
def tkX9_takeWord_58 : List mE := (58, .iinc 5 1, 3, 5, [], 1, 0, zM0) ::
  (61, .goto (-28), 3, 33, [], 0, 0, zM0) :: tkX9_takeWord_64
def tkX9_takeWord_33 : List mE := (33, .iload 5, 2, 5, [], 0, 0, zM0) ::
  (35, .bipush 12, 2, 35, [], 12, 0, zM0) ::
  (37, .if_icmp .ge 27, 3, 64, [], 0, 0, zM0) ::
  (40, .aload_n 1, 1, 1, [], 0, 0, zM0) ::
  (41, .iload 5, 2, 5, [], 0, 0, zM0) ::
  (43, .invokestatic 65, 3, 0, [2075, 1, 1], 0, 0, kX9_spelling) ::
  (46, .iload_n 2, 1, 2, [], 0, 0, zM0) ::
  (47, .iload_n 3, 1, 3, [], 0, 0, zM0) ::
  (48, .invokevirtual 69, 3, 7, [2090, 3, 1], 0, 0, kX7_spells) ::
  (51, .ifCond .eq 7, 3, 58, [], 0, 0, zM0) ::
  (54, .iload 5, 2, 5, [], 0, 0, zM0) ::
  (56, .istore 4, 2, 4, [], 0, 0, zM0) :: tkX9_takeWord_58
def tkX9_takeWord_27 : List mE := (27, .iconst (-1), 1, 27, [], (-1), 0, zM0) ::
  (28, .istore 4, 2, 4, [], 0, 0, zM0) ::
  (30, .iconst 0, 1, 30, [], 0, 0, zM0) ::
  (31, .istore 5, 2, 5, [], 0, 0, zM0) :: tkX9_takeWord_33
def tkX9_takeWord_2 : List mE := (2, .iload_n 3, 1, 3, [], 0, 0, zM0) ::
  (3, .aload_n 1, 1, 1, [], 0, 0, zM0) ::
  (4, .invokevirtual 28, 3, 7, [2056, 0, 1], 0, 0, kX7_size) ::
  (7, .if_icmp .ge 20, 3, 27, [], 0, 0, zM0) ::
  (10, .aload_n 1, 1, 1, [], 0, 0, zM0) ::
  (11, .iload_n 3, 1, 3, [], 0, 0, zM0) ::
  (12, .invokevirtual 41, 3, 7, [2064, 1, 1], 0, 0, kX7_byteAt) ::
  (15, .invokestatic 45, 3, 0, [2068, 1, 1], 0, 0, kX9_isLetter) ::
  (18, .ifCond .eq 9, 3, 27, [], 0, 0, zM0) ::
  (21, .iinc 3 1, 3, 3, [], 1, 0, zM0) ::
  (24, .goto (-22), 3, 2, [], 0, 0, zM0) :: tkX9_takeWord_27
def tkX9_takeWord_0 : List mE := (0, .iload_n 2, 1, 2, [], 0, 0, zM0) ::
  (1, .istore_n 3, 1, 3, [], 0, 0, zM0) :: tkX9_takeWord_2
def tkX9_takeWord : List mE := tkX9_takeWord_0
theorem zkX9_takeWord : zat 0 tkX9_takeWord = tkX9_takeWord_0 ∧ zat 2 tkX9_takeWord = tkX9_takeWord_2 ∧ zat 27 tkX9_takeWord = tkX9_takeWord_27 ∧ zat 33 tkX9_takeWord = tkX9_takeWord_33 ∧ zat 58 tkX9_takeWord = tkX9_takeWord_58 ∧ zat 64 tkX9_takeWord = tkX9_takeWord_64 ∧ zat 81 tkX9_takeWord = tkX9_takeWord_81 ∧ zat 94 tkX9_takeWord = tkX9_takeWord_94 ∧ zat 96 tkX9_takeWord = tkX9_takeWord_96 ∧ zat 102 tkX9_takeWord = tkX9_takeWord_102 := ⟨rfl, rfl, rfl, rfl, rfl, rfl, rfl, rfl, rfl, rfl⟩
theorem okX9_takeWord : zok kX9_takeWord.2.1 kX9_takeWord.2.2.1 kX9_takeWord.2.2.2.1 tkX9_takeWord = true := by decide +kernel
def tkX9_spelling_95 : List mE := (95, .areturn, 1, 95, [], 0, 0, zM0) :: []
def tkX9_spelling_93 : List mE := (93, .ldc 95, 2, 93, [], 0, 0, zM0) :: tkX9_spelling_95
def tkX9_spelling_92 : List mE := (92, .areturn, 1, 92, [], 0, 0, zM0) :: tkX9_spelling_93
def tkX9_spelling_90 : List mE := (90, .ldc 93, 2, 90, [], 0, 0, zM0) :: tkX9_spelling_92
def tkX9_spelling_89 : List mE := (89, .areturn, 1, 89, [], 0, 0, zM0) :: tkX9_spelling_90
def tkX9_spelling_87 : List mE := (87, .ldc 91, 2, 87, [], 0, 0, zM0) :: tkX9_spelling_89
def tkX9_spelling_86 : List mE := (86, .areturn, 1, 86, [], 0, 0, zM0) :: tkX9_spelling_87
def tkX9_spelling_84 : List mE := (84, .ldc 89, 2, 84, [], 0, 0, zM0) :: tkX9_spelling_86
def tkX9_spelling_83 : List mE := (83, .areturn, 1, 83, [], 0, 0, zM0) :: tkX9_spelling_84
def tkX9_spelling_81 : List mE := (81, .ldc 87, 2, 81, [], 0, 0, zM0) :: tkX9_spelling_83
def tkX9_spelling_80 : List mE := (80, .areturn, 1, 80, [], 0, 0, zM0) :: tkX9_spelling_81
def tkX9_spelling_78 : List mE := (78, .ldc 85, 2, 78, [], 0, 0, zM0) :: tkX9_spelling_80
def tkX9_spelling_77 : List mE := (77, .areturn, 1, 77, [], 0, 0, zM0) :: tkX9_spelling_78
def tkX9_spelling_75 : List mE := (75, .ldc 83, 2, 75, [], 0, 0, zM0) :: tkX9_spelling_77
def tkX9_spelling_74 : List mE := (74, .areturn, 1, 74, [], 0, 0, zM0) :: tkX9_spelling_75
def tkX9_spelling_72 : List mE := (72, .ldc 81, 2, 72, [], 0, 0, zM0) :: tkX9_spelling_74
def tkX9_spelling_71 : List mE := (71, .areturn, 1, 71, [], 0, 0, zM0) :: tkX9_spelling_72
def tkX9_spelling_69 : List mE := (69, .ldc 79, 2, 69, [], 0, 0, zM0) :: tkX9_spelling_71
def tkX9_spelling_68 : List mE := (68, .areturn, 1, 68, [], 0, 0, zM0) :: tkX9_spelling_69
def tkX9_spelling_66 : List mE := (66, .ldc 77, 2, 66, [], 0, 0, zM0) :: tkX9_spelling_68
def tkX9_spelling_65 : List mE := (65, .areturn, 1, 65, [], 0, 0, zM0) :: tkX9_spelling_66
def tkX9_spelling_63 : List mE := (63, .ldc 75, 2, 63, [], 0, 0, zM0) :: tkX9_spelling_65
def tkX9_spelling_62 : List mE := (62, .areturn, 1, 62, [], 0, 0, zM0) :: tkX9_spelling_63
def tkX9_spelling_60 : List mE := (60, .ldc 73, 2, 60, [], 0, 0, zM0) :: tkX9_spelling_62
def tkX9_spelling_0 : List mE := (0, .iload_n 0, 1, 0, [], 0, 0, zM0) ::
  (1, .tableswitch 92 0 10 #[59, 62, 65, 68, 71, 74, 77, 80, 83, 86, 89], 59, 93, [60, 63, 66, 69, 72, 75, 78, 81, 84, 87, 90], 0, 0, zM0) :: tkX9_spelling_60
def tkX9_spelling : List mE := tkX9_spelling_0
set_option maxRecDepth 100000 in
theorem zkX9_spelling : zat 0 tkX9_spelling = tkX9_spelling_0 ∧ zat 60 tkX9_spelling = tkX9_spelling_60 ∧ zat 62 tkX9_spelling = tkX9_spelling_62 ∧ zat 63 tkX9_spelling = tkX9_spelling_63 ∧ zat 65 tkX9_spelling = tkX9_spelling_65 ∧ zat 66 tkX9_spelling = tkX9_spelling_66 ∧ zat 68 tkX9_spelling = tkX9_spelling_68 ∧ zat 69 tkX9_spelling = tkX9_spelling_69 ∧ zat 71 tkX9_spelling = tkX9_spelling_71 ∧ zat 72 tkX9_spelling = tkX9_spelling_72 ∧ zat 74 tkX9_spelling = tkX9_spelling_74 ∧ zat 75 tkX9_spelling = tkX9_spelling_75 ∧ zat 77 tkX9_spelling = tkX9_spelling_77 ∧ zat 78 tkX9_spelling = tkX9_spelling_78 ∧ zat 80 tkX9_spelling = tkX9_spelling_80 ∧ zat 81 tkX9_spelling = tkX9_spelling_81 ∧ zat 83 tkX9_spelling = tkX9_spelling_83 ∧ zat 84 tkX9_spelling = tkX9_spelling_84 ∧ zat 86 tkX9_spelling = tkX9_spelling_86 ∧ zat 87 tkX9_spelling = tkX9_spelling_87 ∧ zat 89 tkX9_spelling = tkX9_spelling_89 ∧ zat 90 tkX9_spelling = tkX9_spelling_90 ∧ zat 92 tkX9_spelling = tkX9_spelling_92 ∧ zat 93 tkX9_spelling = tkX9_spelling_93 ∧ zat 95 tkX9_spelling = tkX9_spelling_95 := ⟨rfl, rfl, rfl, rfl, rfl, rfl, rfl, rfl, rfl, rfl, rfl, rfl, rfl, rfl, rfl, rfl, rfl, rfl, rfl, rfl, rfl, rfl, rfl, rfl, rfl⟩
theorem okX9_spelling : zok kX9_spelling.2.1 kX9_spelling.2.2.1 kX9_spelling.2.2.2.1 tkX9_spelling = true := by decide +kernel
def tkX9_add_50 : List mE := (50, .return_, 1, 50, [], 0, 0, zM0) :: []
def tkX9_add_0 : List mE := (0, .aload_n 0, 1, 0, [], 0, 0, zM0) ::
  (1, .getfield 21, 3, 9, [3, 0, 1089], 0, 0, zM0) ::
  (4, .sipush 161, 3, 4, [], 161, 0, zM0) ::
  (7, .if_icmp .ge 43, 3, 50, [], 0, 0, zM0) ::
  (10, .aload_n 0, 1, 0, [], 0, 0, zM0) ::
  (11, .getfield 11, 3, 9, [0, 2, 1086], 0, 0, zM0) ::
  (14, .aload_n 0, 1, 0, [], 0, 0, zM0) ::
  (15, .getfield 21, 3, 9, [3, 0, 1089], 0, 0, zM0) ::
  (18, .iload_n 1, 1, 1, [], 0, 0, zM0) ::
  (19, .iastore, 1, 19, [], 0, 0, zM0) ::
  (20, .aload_n 0, 1, 0, [], 0, 0, zM0) ::
  (21, .getfield 15, 3, 9, [1, 2, 1087], 0, 0, zM0) ::
  (24, .aload_n 0, 1, 0, [], 0, 0, zM0) ::
  (25, .getfield 21, 3, 9, [3, 0, 1089], 0, 0, zM0) ::
  (28, .iload_n 2, 1, 2, [], 0, 0, zM0) ::
  (29, .iastore, 1, 29, [], 0, 0, zM0) ::
  (30, .aload_n 0, 1, 0, [], 0, 0, zM0) ::
  (31, .getfield 18, 3, 9, [2, 2, 1088], 0, 0, zM0) ::
  (34, .aload_n 0, 1, 0, [], 0, 0, zM0) ::
  (35, .getfield 21, 3, 9, [3, 0, 1089], 0, 0, zM0) ::
  (38, .iload_n 3, 1, 3, [], 0, 0, zM0) ::
  (39, .iastore, 1, 39, [], 0, 0, zM0) ::
  (40, .aload_n 0, 1, 0, [], 0, 0, zM0) ::
  (41, .dup, 1, 41, [], 0, 0, zM0) ::
  (42, .getfield 21, 3, 9, [3, 0, 1089], 0, 0, zM0) ::
  (45, .iconst 1, 1, 45, [], 1, 0, zM0) ::
  (46, .iadd, 1, 46, [], 0, 0, zM0) ::
  (47, .putfield 21, 3, 9, [3, 0, 1089], 0, 0, zM0) :: tkX9_add_50
def tkX9_add : List mE := tkX9_add_0
theorem zkX9_add : zat 0 tkX9_add = tkX9_add_0 ∧ zat 50 tkX9_add = tkX9_add_50 := ⟨rfl, rfl⟩
theorem okX9_add : zok kX9_add.2.1 kX9_add.2.2.1 kX9_add.2.2.2.1 tkX9_add = true := by decide +kernel
def tkX9_isDigit_17 : List mE := (17, .ireturn, 1, 17, [], 0, 0, zM0) :: []
def tkX9_isDigit_16 : List mE := (16, .iconst 0, 1, 16, [], 0, 0, zM0) :: tkX9_isDigit_17
def tkX9_isDigit_0 : List mE := (0, .iload_n 0, 1, 0, [], 0, 0, zM0) ::
  (1, .bipush 48, 2, 1, [], 48, 0, zM0) ::
  (3, .if_icmp .lt 13, 3, 16, [], 0, 0, zM0) ::
  (6, .iload_n 0, 1, 0, [], 0, 0, zM0) ::
  (7, .bipush 57, 2, 7, [], 57, 0, zM0) ::
  (9, .if_icmp .gt 7, 3, 16, [], 0, 0, zM0) ::
  (12, .iconst 1, 1, 12, [], 1, 0, zM0) ::
  (13, .goto 4, 3, 17, [], 0, 0, zM0) :: tkX9_isDigit_16
def tkX9_isDigit : List mE := tkX9_isDigit_0
theorem zkX9_isDigit : zat 0 tkX9_isDigit = tkX9_isDigit_0 ∧ zat 16 tkX9_isDigit = tkX9_isDigit_16 ∧ zat 17 tkX9_isDigit = tkX9_isDigit_17 := ⟨rfl, rfl, rfl⟩
theorem okX9_isDigit : zok kX9_isDigit.2.1 kX9_isDigit.2.2.1 kX9_isDigit.2.2.2.1 tkX9_isDigit = true := by decide +kernel
def tkX9_takeNumber_61 : List mE := (61, .iload_n 2, 1, 2, [], 0, 0, zM0) ::
  (62, .iload 4, 2, 4, [], 0, 0, zM0) ::
  (64, .invokevirtual 37, 3, 9, [2096, 3, 0], 0, 0, kX9_add) ::
  (67, .iload_n 3, 1, 3, [], 0, 0, zM0) ::
  (68, .ireturn, 1, 68, [], 0, 0, zM0) :: []
def tkX9_takeNumber_59 : List mE := (59, .bipush 15, 2, 59, [], 15, 0, zM0) :: tkX9_takeNumber_61
def tkX9_takeNumber_46 : List mE := (46, .aload_n 0, 1, 0, [], 0, 0, zM0) ::
  (47, .iload_n 3, 1, 3, [], 0, 0, zM0) ::
  (48, .iload_n 2, 1, 2, [], 0, 0, zM0) ::
  (49, .isub, 1, 49, [], 0, 0, zM0) ::
  (50, .iconst 4, 1, 50, [], 4, 0, zM0) ::
  (51, .if_icmp .gt 8, 3, 59, [], 0, 0, zM0) ::
  (54, .bipush 13, 2, 54, [], 13, 0, zM0) ::
  (56, .goto 5, 3, 61, [], 0, 0, zM0) :: tkX9_takeNumber_59
def tkX9_takeNumber_5 : List mE := (5, .iload_n 3, 1, 3, [], 0, 0, zM0) ::
  (6, .aload_n 1, 1, 1, [], 0, 0, zM0) ::
  (7, .invokevirtual 28, 3, 7, [2056, 0, 1], 0, 0, kX7_size) ::
  (10, .if_icmp .ge 36, 3, 46, [], 0, 0, zM0) ::
  (13, .aload_n 1, 1, 1, [], 0, 0, zM0) ::
  (14, .iload_n 3, 1, 3, [], 0, 0, zM0) ::
  (15, .invokevirtual 41, 3, 7, [2064, 1, 1], 0, 0, kX7_byteAt) ::
  (18, .invokestatic 52, 3, 0, [2100, 1, 1], 0, 0, kX9_isDigit) ::
  (21, .ifCond .eq 25, 3, 46, [], 0, 0, zM0) ::
  (24, .bipush 10, 2, 24, [], 10, 0, zM0) ::
  (26, .iload 4, 2, 4, [], 0, 0, zM0) ::
  (28, .imul, 1, 28, [], 0, 0, zM0) ::
  (29, .aload_n 1, 1, 1, [], 0, 0, zM0) ::
  (30, .iload_n 3, 1, 3, [], 0, 0, zM0) ::
  (31, .invokevirtual 41, 3, 7, [2064, 1, 1], 0, 0, kX7_byteAt) ::
  (34, .iadd, 1, 34, [], 0, 0, zM0) ::
  (35, .bipush 48, 2, 35, [], 48, 0, zM0) ::
  (37, .isub, 1, 37, [], 0, 0, zM0) ::
  (38, .istore 4, 2, 4, [], 0, 0, zM0) ::
  (40, .iinc 3 1, 3, 3, [], 1, 0, zM0) ::
  (43, .goto (-38), 3, 5, [], 0, 0, zM0) :: tkX9_takeNumber_46
def tkX9_takeNumber_0 : List mE := (0, .iload_n 2, 1, 2, [], 0, 0, zM0) ::
  (1, .istore_n 3, 1, 3, [], 0, 0, zM0) ::
  (2, .iconst 0, 1, 2, [], 0, 0, zM0) ::
  (3, .istore 4, 2, 4, [], 0, 0, zM0) :: tkX9_takeNumber_5
def tkX9_takeNumber : List mE := tkX9_takeNumber_0
theorem zkX9_takeNumber : zat 0 tkX9_takeNumber = tkX9_takeNumber_0 ∧ zat 5 tkX9_takeNumber = tkX9_takeNumber_5 ∧ zat 46 tkX9_takeNumber = tkX9_takeNumber_46 ∧ zat 59 tkX9_takeNumber = tkX9_takeNumber_59 ∧ zat 61 tkX9_takeNumber = tkX9_takeNumber_61 := ⟨rfl, rfl, rfl, rfl, rfl⟩
theorem okX9_takeNumber : zok kX9_takeNumber.2.1 kX9_takeNumber.2.2.1 kX9_takeNumber.2.2.2.1 tkX9_takeNumber = true := by decide +kernel
def tkX9_sort_25 : List mE := (25, .ireturn, 1, 25, [], 0, 0, zM0) :: []
def tkX9_sort_23 : List mE := (23, .bipush 14, 2, 23, [], 14, 0, zM0) :: tkX9_sort_25
def tkX9_sort_0 : List mE := (0, .aload_n 0, 1, 0, [], 0, 0, zM0) ::
  (1, .getfield 25, 3, 9, [4, 0, 1090], 0, 0, zM0) ::
  (4, .aload_n 0, 1, 0, [], 0, 0, zM0) ::
  (5, .getfield 21, 3, 9, [3, 0, 1089], 0, 0, zM0) ::
  (8, .if_icmp .ge 15, 3, 23, [], 0, 0, zM0) ::
  (11, .aload_n 0, 1, 0, [], 0, 0, zM0) ::
  (12, .getfield 11, 3, 9, [0, 2, 1086], 0, 0, zM0) ::
  (15, .aload_n 0, 1, 0, [], 0, 0, zM0) ::
  (16, .getfield 25, 3, 9, [4, 0, 1090], 0, 0, zM0) ::
  (19, .iaload, 1, 0, [], 0, 0, zM0) ::
  (20, .goto 5, 3, 25, [], 0, 0, zM0) :: tkX9_sort_23
def tkX9_sort : List mE := tkX9_sort_0
theorem zkX9_sort : zat 0 tkX9_sort = tkX9_sort_0 ∧ zat 23 tkX9_sort = tkX9_sort_23 ∧ zat 25 tkX9_sort = tkX9_sort_25 := ⟨rfl, rfl, rfl⟩
theorem okX9_sort : zok kX9_sort.2.1 kX9_sort.2.2.1 kX9_sort.2.2.2.1 tkX9_sort = true := by decide +kernel
def tkX9_advance_23 : List mE := (23, .return_, 1, 23, [], 0, 0, zM0) :: []
def tkX9_advance_0 : List mE := (0, .aload_n 0, 1, 0, [], 0, 0, zM0) ::
  (1, .getfield 25, 3, 9, [4, 0, 1090], 0, 0, zM0) ::
  (4, .aload_n 0, 1, 0, [], 0, 0, zM0) ::
  (5, .getfield 21, 3, 9, [3, 0, 1089], 0, 0, zM0) ::
  (8, .iconst 1, 1, 8, [], 1, 0, zM0) ::
  (9, .isub, 1, 9, [], 0, 0, zM0) ::
  (10, .if_icmp .ge 13, 3, 23, [], 0, 0, zM0) ::
  (13, .aload_n 0, 1, 0, [], 0, 0, zM0) ::
  (14, .dup, 1, 14, [], 0, 0, zM0) ::
  (15, .getfield 25, 3, 9, [4, 0, 1090], 0, 0, zM0) ::
  (18, .iconst 1, 1, 18, [], 1, 0, zM0) ::
  (19, .iadd, 1, 19, [], 0, 0, zM0) ::
  (20, .putfield 25, 3, 9, [4, 0, 1090], 0, 0, zM0) :: tkX9_advance_23
def tkX9_advance : List mE := tkX9_advance_0
theorem zkX9_advance : zat 0 tkX9_advance = tkX9_advance_0 ∧ zat 23 tkX9_advance = tkX9_advance_23 := ⟨rfl, rfl⟩
theorem okX9_advance : zok kX9_advance.2.1 kX9_advance.2.2.1 kX9_advance.2.2.2.1 tkX9_advance = true := by decide +kernel
def tkX9_place_24 : List mE := (24, .ireturn, 1, 24, [], 0, 0, zM0) :: []
def tkX9_place_23 : List mE := (23, .iconst 0, 1, 23, [], 0, 0, zM0) :: tkX9_place_24
def tkX9_place_0 : List mE := (0, .aload_n 0, 1, 0, [], 0, 0, zM0) ::
  (1, .getfield 25, 3, 9, [4, 0, 1090], 0, 0, zM0) ::
  (4, .aload_n 0, 1, 0, [], 0, 0, zM0) ::
  (5, .getfield 21, 3, 9, [3, 0, 1089], 0, 0, zM0) ::
  (8, .if_icmp .ge 15, 3, 23, [], 0, 0, zM0) ::
  (11, .aload_n 0, 1, 0, [], 0, 0, zM0) ::
  (12, .getfield 15, 3, 9, [1, 2, 1087], 0, 0, zM0) ::
  (15, .aload_n 0, 1, 0, [], 0, 0, zM0) ::
  (16, .getfield 25, 3, 9, [4, 0, 1090], 0, 0, zM0) ::
  (19, .iaload, 1, 0, [], 0, 0, zM0) ::
  (20, .goto 4, 3, 24, [], 0, 0, zM0) :: tkX9_place_23
def tkX9_place : List mE := tkX9_place_0
theorem zkX9_place : zat 0 tkX9_place = tkX9_place_0 ∧ zat 23 tkX9_place = tkX9_place_23 ∧ zat 24 tkX9_place = tkX9_place_24 := ⟨rfl, rfl, rfl⟩
theorem okX9_place : zok kX9_place.2.1 kX9_place.2.2.1 kX9_place.2.2.2.1 tkX9_place = true := by decide +kernel
def tkX9_value_24 : List mE := (24, .ireturn, 1, 24, [], 0, 0, zM0) :: []
def tkX9_value_23 : List mE := (23, .iconst 0, 1, 23, [], 0, 0, zM0) :: tkX9_value_24
def tkX9_value_0 : List mE := (0, .aload_n 0, 1, 0, [], 0, 0, zM0) ::
  (1, .getfield 25, 3, 9, [4, 0, 1090], 0, 0, zM0) ::
  (4, .aload_n 0, 1, 0, [], 0, 0, zM0) ::
  (5, .getfield 21, 3, 9, [3, 0, 1089], 0, 0, zM0) ::
  (8, .if_icmp .ge 15, 3, 23, [], 0, 0, zM0) ::
  (11, .aload_n 0, 1, 0, [], 0, 0, zM0) ::
  (12, .getfield 18, 3, 9, [2, 2, 1088], 0, 0, zM0) ::
  (15, .aload_n 0, 1, 0, [], 0, 0, zM0) ::
  (16, .getfield 25, 3, 9, [4, 0, 1090], 0, 0, zM0) ::
  (19, .iaload, 1, 0, [], 0, 0, zM0) ::
  (20, .goto 4, 3, 24, [], 0, 0, zM0) :: tkX9_value_23
def tkX9_value : List mE := tkX9_value_0
theorem zkX9_value : zat 0 tkX9_value = tkX9_value_0 ∧ zat 23 tkX9_value = tkX9_value_23 ∧ zat 24 tkX9_value = tkX9_value_24 := ⟨rfl, rfl, rfl⟩
theorem okX9_value : zok kX9_value.2.1 kX9_value.2.2.1 kX9_value.2.2.2.1 tkX9_value = true := by decide +kernel
def tkX4_init_26 : List mE := (26, .aload_n 0, 1, 0, [], 0, 0, zM0) ::
  (27, .iconst (-1), 1, 27, [], (-1), 0, zM0) ::
  (28, .putfield 25, 3, 4, [2, 0, 1120], 0, 0, zM0) ::
  (31, .return_, 1, 31, [], 0, 0, zM0) :: []
def tkX4_init_23 : List mE := (23, .putfield 21, 3, 23, [], 0, 0, zM0) :: tkX4_init_26
def tkX4_init_20 : List mE := (20, .invokespecial 20, 3, 20, [], 0, 0, zM0) :: tkX4_init_23
def tkX4_init_19 : List mE := (19, .dup, 1, 19, [], 0, 0, zM0) :: tkX4_init_20
def tkX4_init_16 : List mE := (16, .new 18, 3, 16, [], 0, 0, zM0) :: tkX4_init_19
def tkX4_init_15 : List mE := (15, .aload_n 0, 1, 0, [], 0, 0, zM0) :: tkX4_init_16
def tkX4_init_12 : List mE := (12, .putfield 12, 3, 12, [], 0, 0, zM0) :: tkX4_init_15
def tkX4_init_9 : List mE := (9, .invokespecial 11, 3, 9, [], 0, 0, zM0) :: tkX4_init_12
def tkX4_init_8 : List mE := (8, .dup, 1, 8, [], 0, 0, zM0) :: tkX4_init_9
def tkX4_init_5 : List mE := (5, .new 9, 3, 5, [], 0, 0, zM0) :: tkX4_init_8
def tkX4_init_4 : List mE := (4, .aload_n 0, 1, 0, [], 0, 0, zM0) :: tkX4_init_5
def tkX4_init_1 : List mE := (1, .invokespecial 3, 3, 1, [], 0, 0, zM0) :: tkX4_init_4
def tkX4_init_0 : List mE := (0, .aload_n 0, 1, 0, [], 0, 0, zM0) :: tkX4_init_1
def tkX4_init : List mE := tkX4_init_0
set_option maxRecDepth 100000 in
theorem zkX4_init : zat 0 tkX4_init = tkX4_init_0 ∧ zat 1 tkX4_init = tkX4_init_1 ∧ zat 4 tkX4_init = tkX4_init_4 ∧ zat 5 tkX4_init = tkX4_init_5 ∧ zat 8 tkX4_init = tkX4_init_8 ∧ zat 9 tkX4_init = tkX4_init_9 ∧ zat 12 tkX4_init = tkX4_init_12 ∧ zat 15 tkX4_init = tkX4_init_15 ∧ zat 16 tkX4_init = tkX4_init_16 ∧ zat 19 tkX4_init = tkX4_init_19 ∧ zat 20 tkX4_init = tkX4_init_20 ∧ zat 23 tkX4_init = tkX4_init_23 ∧ zat 26 tkX4_init = tkX4_init_26 := ⟨rfl, rfl, rfl, rfl, rfl, rfl, rfl, rfl, rfl, rfl, rfl, rfl, rfl⟩
theorem okX4_init : zok kX4_init.2.1 kX4_init.2.2.1 kX4_init.2.2.2.1 tkX4_init = true := by decide +kernel
def tkX4_read_73 : List mE := (73, .aload_n 0, 1, 0, [], 0, 0, zM0) ::
  (74, .getfield 25, 3, 4, [2, 0, 1120], 0, 0, zM0) ::
  (77, .ireturn, 1, 77, [], 0, 0, zM0) :: []
def tkX4_read_60 : List mE := (60, .aload_n 0, 1, 0, [], 0, 0, zM0) ::
  (61, .bipush 14, 2, 61, [], 14, 0, zM0) ::
  (63, .invokevirtual 46, 3, 4, [2175, 1, 1], 0, 0, kX4_isNext) ::
  (66, .ifCond .ne 7, 3, 73, [], 0, 0, zM0) ::
  (69, .aload_n 0, 1, 0, [], 0, 0, zM0) ::
  (70, .invokevirtual 50, 3, 4, [2187, 0, 0], 0, 0, kX4_fail) :: tkX4_read_73
def tkX4_read_22 : List mE := (22, .iload_n 2, 1, 2, [], 0, 0, zM0) ::
  (23, .iconst 3, 1, 23, [], 3, 0, zM0) ::
  (24, .if_icmp .ge 36, 3, 60, [], 0, 0, zM0) ::
  (27, .aload_n 0, 1, 0, [], 0, 0, zM0) ::
  (28, .bipush 6, 2, 28, [], 6, 0, zM0) ::
  (30, .iload_n 2, 1, 2, [], 0, 0, zM0) ::
  (31, .iadd, 1, 31, [], 0, 0, zM0) ::
  (32, .invokevirtual 36, 3, 4, [2171, 1, 0], 0, 0, kX4_expect) ::
  (35, .aload_n 0, 1, 0, [], 0, 0, zM0) ::
  (36, .iconst 0, 1, 36, [], 0, 0, zM0) ::
  (37, .invokevirtual 40, 3, 4, [2195, 1, 0], 0, 0, kX4_readEither) ::
  (40, .aload_n 0, 1, 0, [], 0, 0, zM0) ::
  (41, .bipush 59, 2, 41, [], 59, 0, zM0) ::
  (43, .invokevirtual 36, 3, 4, [2171, 1, 0], 0, 0, kX4_expect) ::
  (46, .aload_n 0, 1, 0, [], 0, 0, zM0) ::
  (47, .getfield 21, 3, 4, [1, 2, 1119], 0, 0, zM0) ::
  (50, .iload_n 2, 1, 2, [], 0, 0, zM0) ::
  (51, .invokevirtual 43, 3, 8, [2239, 1, 0], 0, 0, kX8_endPart) ::
  (54, .iinc 2 1, 3, 2, [], 1, 0, zM0) ::
  (57, .goto (-35), 3, 22, [], 0, 0, zM0) :: tkX4_read_60
def tkX4_read_0 : List mE := (0, .aload_n 0, 1, 0, [], 0, 0, zM0) ::
  (1, .getfield 12, 3, 4, [0, 2, 1118], 0, 0, zM0) ::
  (4, .aload_n 1, 1, 1, [], 0, 0, zM0) ::
  (5, .invokevirtual 29, 3, 9, [2052, 1, 0], 0, 0, kX9_split) ::
  (8, .aload_n 0, 1, 0, [], 0, 0, zM0) ::
  (9, .getfield 21, 3, 4, [1, 2, 1119], 0, 0, zM0) ::
  (12, .invokevirtual 33, 3, 8, [2167, 0, 0], 0, 0, kX8_clear) ::
  (15, .aload_n 0, 1, 0, [], 0, 0, zM0) ::
  (16, .iconst (-1), 1, 16, [], (-1), 0, zM0) ::
  (17, .putfield 25, 3, 4, [2, 0, 1120], 0, 0, zM0) ::
  (20, .iconst 0, 1, 20, [], 0, 0, zM0) ::
  (21, .istore_n 2, 1, 2, [], 0, 0, zM0) :: tkX4_read_22
def tkX4_read : List mE := tkX4_read_0
theorem zkX4_read : zat 0 tkX4_read = tkX4_read_0 ∧ zat 22 tkX4_read = tkX4_read_22 ∧ zat 60 tkX4_read = tkX4_read_60 ∧ zat 73 tkX4_read = tkX4_read_73 := ⟨rfl, rfl, rfl, rfl⟩
theorem okX4_read : zok kX4_read.2.1 kX4_read.2.2.1 kX4_read.2.2.2.1 tkX4_read = true := by decide +kernel
def tkX4_expect_22 : List mE := (22, .return_, 1, 22, [], 0, 0, zM0) :: []
def tkX4_expect_18 : List mE := (18, .aload_n 0, 1, 0, [], 0, 0, zM0) ::
  (19, .invokevirtual 50, 3, 4, [2187, 0, 0], 0, 0, kX4_fail) :: tkX4_expect_22
def tkX4_expect_0 : List mE := (0, .aload_n 0, 1, 0, [], 0, 0, zM0) ::
  (1, .iload_n 1, 1, 1, [], 0, 0, zM0) ::
  (2, .invokevirtual 46, 3, 4, [2175, 1, 1], 0, 0, kX4_isNext) ::
  (5, .ifCond .eq 13, 3, 18, [], 0, 0, zM0) ::
  (8, .aload_n 0, 1, 0, [], 0, 0, zM0) ::
  (9, .getfield 12, 3, 4, [0, 2, 1118], 0, 0, zM0) ::
  (12, .invokevirtual 60, 3, 9, [2183, 0, 0], 0, 0, kX9_advance) ::
  (15, .goto 7, 3, 22, [], 0, 0, zM0) :: tkX4_expect_18
def tkX4_expect : List mE := tkX4_expect_0
theorem zkX4_expect : zat 0 tkX4_expect = tkX4_expect_0 ∧ zat 18 tkX4_expect = tkX4_expect_18 ∧ zat 22 tkX4_expect = tkX4_expect_22 := ⟨rfl, rfl, rfl⟩
theorem okX4_expect : zok kX4_expect.2.1 kX4_expect.2.2.1 kX4_expect.2.2.2.1 tkX4_expect = true := by decide +kernel
def tkX4_isNext_24 : List mE := (24, .ireturn, 1, 24, [], 0, 0, zM0) :: []
def tkX4_isNext_23 : List mE := (23, .iconst 0, 1, 23, [], 0, 0, zM0) :: tkX4_isNext_24
def tkX4_isNext_0 : List mE := (0, .aload_n 0, 1, 0, [], 0, 0, zM0) ::
  (1, .getfield 25, 3, 4, [2, 0, 1120], 0, 0, zM0) ::
  (4, .iconst (-1), 1, 4, [], (-1), 0, zM0) ::
  (5, .if_icmp .ne 18, 3, 23, [], 0, 0, zM0) ::
  (8, .aload_n 0, 1, 0, [], 0, 0, zM0) ::
  (9, .getfield 12, 3, 4, [0, 2, 1118], 0, 0, zM0) ::
  (12, .invokevirtual 53, 3, 9, [2179, 0, 1], 0, 0, kX9_sort) ::
  (15, .iload_n 1, 1, 1, [], 0, 0, zM0) ::
  (16, .if_icmp .ne 7, 3, 23, [], 0, 0, zM0) ::
  (19, .iconst 1, 1, 19, [], 1, 0, zM0) ::
  (20, .goto 4, 3, 24, [], 0, 0, zM0) :: tkX4_isNext_23
def tkX4_isNext : List mE := tkX4_isNext_0
theorem zkX4_isNext : zat 0 tkX4_isNext = tkX4_isNext_0 ∧ zat 23 tkX4_isNext = tkX4_isNext_23 ∧ zat 24 tkX4_isNext = tkX4_isNext_24 := ⟨rfl, rfl, rfl⟩
theorem okX4_isNext : zok kX4_isNext.2.1 kX4_isNext.2.2.1 kX4_isNext.2.2.2.1 tkX4_isNext = true := by decide +kernel
def tkX4_fail_19 : List mE := (19, .return_, 1, 19, [], 0, 0, zM0) :: []
def tkX4_fail_0 : List mE := (0, .aload_n 0, 1, 0, [], 0, 0, zM0) ::
  (1, .getfield 25, 3, 4, [2, 0, 1120], 0, 0, zM0) ::
  (4, .iconst (-1), 1, 4, [], (-1), 0, zM0) ::
  (5, .if_icmp .ne 14, 3, 19, [], 0, 0, zM0) ::
  (8, .aload_n 0, 1, 0, [], 0, 0, zM0) ::
  (9, .aload_n 0, 1, 0, [], 0, 0, zM0) ::
  (10, .getfield 12, 3, 4, [0, 2, 1118], 0, 0, zM0) ::
  (13, .invokevirtual 57, 3, 9, [2191, 0, 1], 0, 0, kX9_place) ::
  (16, .putfield 25, 3, 4, [2, 0, 1120], 0, 0, zM0) :: tkX4_fail_19
def tkX4_fail : List mE := tkX4_fail_0
theorem zkX4_fail : zat 0 tkX4_fail = tkX4_fail_0 ∧ zat 19 tkX4_fail = tkX4_fail_19 := ⟨rfl, rfl⟩
theorem okX4_fail : zok kX4_fail.2.1 kX4_fail.2.2.1 kX4_fail.2.2.2.1 tkX4_fail = true := by decide +kernel
def tkX4_readEither_50 : List mE := (50, .return_, 1, 50, [], 0, 0, zM0) :: []
def tkX4_readEither_7 : List mE := (7, .iload_n 2, 1, 2, [], 0, 0, zM0) ::
  (8, .sipush 160, 3, 8, [], 160, 0, zM0) ::
  (11, .if_icmp .ge 39, 3, 50, [], 0, 0, zM0) ::
  (14, .aload_n 0, 1, 0, [], 0, 0, zM0) ::
  (15, .bipush 9, 2, 15, [], 9, 0, zM0) ::
  (17, .invokevirtual 46, 3, 4, [2175, 1, 1], 0, 0, kX4_isNext) ::
  (20, .ifCond .eq 30, 3, 50, [], 0, 0, zM0) ::
  (23, .aload_n 0, 1, 0, [], 0, 0, zM0) ::
  (24, .getfield 12, 3, 4, [0, 2, 1118], 0, 0, zM0) ::
  (27, .invokevirtual 60, 3, 9, [2183, 0, 0], 0, 0, kX9_advance) ::
  (30, .aload_n 0, 1, 0, [], 0, 0, zM0) ::
  (31, .iload_n 1, 1, 1, [], 0, 0, zM0) ::
  (32, .invokevirtual 63, 3, 4, [2199, 1, 0], 0, 0, kX4_readBoth) ::
  (35, .aload_n 0, 1, 0, [], 0, 0, zM0) ::
  (36, .getfield 21, 3, 4, [1, 2, 1119], 0, 0, zM0) ::
  (39, .bipush 14, 2, 39, [], 14, 0, zM0) ::
  (41, .invokevirtual 66, 3, 8, [2235, 1, 0], 0, 0, kX8_add) ::
  (44, .iinc 2 1, 3, 2, [], 1, 0, zM0) ::
  (47, .goto (-40), 3, 7, [], 0, 0, zM0) :: tkX4_readEither_50
def tkX4_readEither_0 : List mE := (0, .aload_n 0, 1, 0, [], 0, 0, zM0) ::
  (1, .iload_n 1, 1, 1, [], 0, 0, zM0) ::
  (2, .invokevirtual 63, 3, 4, [2199, 1, 0], 0, 0, kX4_readBoth) ::
  (5, .iconst 0, 1, 5, [], 0, 0, zM0) ::
  (6, .istore_n 2, 1, 2, [], 0, 0, zM0) :: tkX4_readEither_7
def tkX4_readEither : List mE := tkX4_readEither_0
theorem zkX4_readEither : zat 0 tkX4_readEither = tkX4_readEither_0 ∧ zat 7 tkX4_readEither = tkX4_readEither_7 ∧ zat 50 tkX4_readEither = tkX4_readEither_50 := ⟨rfl, rfl, rfl⟩
theorem okX4_readEither : zok kX4_readEither.2.1 kX4_readEither.2.2.1 kX4_readEither.2.2.2.1 tkX4_readEither = true := by decide +kernel
def tkX4_readBoth_50 : List mE := (50, .return_, 1, 50, [], 0, 0, zM0) :: []
def tkX4_readBoth_7 : List mE := (7, .iload_n 2, 1, 2, [], 0, 0, zM0) ::
  (8, .sipush 160, 3, 8, [], 160, 0, zM0) ::
  (11, .if_icmp .ge 39, 3, 50, [], 0, 0, zM0) ::
  (14, .aload_n 0, 1, 0, [], 0, 0, zM0) ::
  (15, .bipush 10, 2, 15, [], 10, 0, zM0) ::
  (17, .invokevirtual 46, 3, 4, [2175, 1, 1], 0, 0, kX4_isNext) ::
  (20, .ifCond .eq 30, 3, 50, [], 0, 0, zM0) ::
  (23, .aload_n 0, 1, 0, [], 0, 0, zM0) ::
  (24, .getfield 12, 3, 4, [0, 2, 1118], 0, 0, zM0) ::
  (27, .invokevirtual 60, 3, 9, [2183, 0, 0], 0, 0, kX9_advance) ::
  (30, .aload_n 0, 1, 0, [], 0, 0, zM0) ::
  (31, .iload_n 1, 1, 1, [], 0, 0, zM0) ::
  (32, .invokevirtual 69, 3, 4, [2203, 1, 0], 0, 0, kX4_readTruth) ::
  (35, .aload_n 0, 1, 0, [], 0, 0, zM0) ::
  (36, .getfield 21, 3, 4, [1, 2, 1119], 0, 0, zM0) ::
  (39, .bipush 13, 2, 39, [], 13, 0, zM0) ::
  (41, .invokevirtual 66, 3, 8, [2235, 1, 0], 0, 0, kX8_add) ::
  (44, .iinc 2 1, 3, 2, [], 1, 0, zM0) ::
  (47, .goto (-40), 3, 7, [], 0, 0, zM0) :: tkX4_readBoth_50
def tkX4_readBoth_0 : List mE := (0, .aload_n 0, 1, 0, [], 0, 0, zM0) ::
  (1, .iload_n 1, 1, 1, [], 0, 0, zM0) ::
  (2, .invokevirtual 69, 3, 4, [2203, 1, 0], 0, 0, kX4_readTruth) ::
  (5, .iconst 0, 1, 5, [], 0, 0, zM0) ::
  (6, .istore_n 2, 1, 2, [], 0, 0, zM0) :: tkX4_readBoth_7
def tkX4_readBoth : List mE := tkX4_readBoth_0
theorem zkX4_readBoth : zat 0 tkX4_readBoth = tkX4_readBoth_0 ∧ zat 7 tkX4_readBoth = tkX4_readBoth_7 ∧ zat 50 tkX4_readBoth = tkX4_readBoth_50 := ⟨rfl, rfl, rfl⟩
theorem okX4_readBoth : zok kX4_readBoth.2.1 kX4_readBoth.2.2.1 kX4_readBoth.2.2.2.1 tkX4_readBoth = true := by decide +kernel
def tkX4_readTruth_54 : List mE := (54, .return_, 1, 54, [], 0, 0, zM0) :: []
def tkX4_readTruth_34 : List mE := (34, .iload_n 3, 1, 3, [], 0, 0, zM0) ::
  (35, .iload_n 2, 1, 2, [], 0, 0, zM0) ::
  (36, .if_icmp .ge 18, 3, 54, [], 0, 0, zM0) ::
  (39, .aload_n 0, 1, 0, [], 0, 0, zM0) ::
  (40, .getfield 21, 3, 4, [1, 2, 1119], 0, 0, zM0) ::
  (43, .bipush 7, 2, 43, [], 7, 0, zM0) ::
  (45, .invokevirtual 66, 3, 8, [2235, 1, 0], 0, 0, kX8_add) ::
  (48, .iinc 3 1, 3, 3, [], 1, 0, zM0) ::
  (51, .goto (-17), 3, 34, [], 0, 0, zM0) :: tkX4_readTruth_54
def tkX4_readTruth_25 : List mE := (25, .aload_n 0, 1, 0, [], 0, 0, zM0) ::
  (26, .iload_n 1, 1, 1, [], 0, 0, zM0) ::
  (27, .iload_n 2, 1, 2, [], 0, 0, zM0) ::
  (28, .iadd, 1, 28, [], 0, 0, zM0) ::
  (29, .invokevirtual 76, 3, 4, [2211, 1, 0], 0, 0, kX4_readCompared) ::
  (32, .iconst 0, 1, 32, [], 0, 0, zM0) ::
  (33, .istore_n 3, 1, 3, [], 0, 0, zM0) :: tkX4_readTruth_34
def tkX4_readTruth_2 : List mE := (2, .iload_n 2, 1, 2, [], 0, 0, zM0) ::
  (3, .iconst 5, 1, 3, [], 5, 0, zM0) ::
  (4, .if_icmp .ge 21, 3, 25, [], 0, 0, zM0) ::
  (7, .aload_n 0, 1, 0, [], 0, 0, zM0) ::
  (8, .bipush 11, 2, 8, [], 11, 0, zM0) ::
  (10, .iload_n 1, 1, 1, [], 0, 0, zM0) ::
  (11, .iload_n 2, 1, 2, [], 0, 0, zM0) ::
  (12, .iadd, 1, 12, [], 0, 0, zM0) ::
  (13, .invokevirtual 72, 3, 4, [2207, 2, 1], 0, 0, kX4_isOpened) ::
  (16, .ifCond .eq 9, 3, 25, [], 0, 0, zM0) ::
  (19, .iinc 2 1, 3, 2, [], 1, 0, zM0) ::
  (22, .goto (-20), 3, 2, [], 0, 0, zM0) :: tkX4_readTruth_25
def tkX4_readTruth_0 : List mE := (0, .iconst 0, 1, 0, [], 0, 0, zM0) ::
  (1, .istore_n 2, 1, 2, [], 0, 0, zM0) :: tkX4_readTruth_2
def tkX4_readTruth : List mE := tkX4_readTruth_0
theorem zkX4_readTruth : zat 0 tkX4_readTruth = tkX4_readTruth_0 ∧ zat 2 tkX4_readTruth = tkX4_readTruth_2 ∧ zat 25 tkX4_readTruth = tkX4_readTruth_25 ∧ zat 34 tkX4_readTruth = tkX4_readTruth_34 ∧ zat 54 tkX4_readTruth = tkX4_readTruth_54 := ⟨rfl, rfl, rfl, rfl, rfl⟩
theorem okX4_readTruth : zok kX4_readTruth.2.1 kX4_readTruth.2.2.1 kX4_readTruth.2.2.2.1 tkX4_readTruth = true := by decide +kernel
def tkX4_isOpened_15 : List mE := (15, .aload_n 0, 1, 0, [], 0, 0, zM0) ::
  (16, .getfield 12, 3, 4, [0, 2, 1118], 0, 0, zM0) ::
  (19, .invokevirtual 60, 3, 9, [2183, 0, 0], 0, 0, kX9_advance) ::
  (22, .iconst 1, 1, 22, [], 1, 0, zM0) ::
  (23, .ireturn, 1, 23, [], 0, 0, zM0) :: []
def tkX4_isOpened_13 : List mE := (13, .iconst 0, 1, 13, [], 0, 0, zM0) ::
  (14, .ireturn, 1, 14, [], 0, 0, zM0) :: tkX4_isOpened_15
def tkX4_isOpened_0 : List mE := (0, .aload_n 0, 1, 0, [], 0, 0, zM0) ::
  (1, .iload_n 1, 1, 1, [], 0, 0, zM0) ::
  (2, .invokevirtual 46, 3, 4, [2175, 1, 1], 0, 0, kX4_isNext) ::
  (5, .ifCond .eq 8, 3, 13, [], 0, 0, zM0) ::
  (8, .iload_n 2, 1, 2, [], 0, 0, zM0) ::
  (9, .iconst 5, 1, 9, [], 5, 0, zM0) ::
  (10, .if_icmp .lt 5, 3, 15, [], 0, 0, zM0) :: tkX4_isOpened_13
def tkX4_isOpened : List mE := tkX4_isOpened_0
theorem zkX4_isOpened : zat 0 tkX4_isOpened = tkX4_isOpened_0 ∧ zat 13 tkX4_isOpened = tkX4_isOpened_13 ∧ zat 15 tkX4_isOpened = tkX4_isOpened_15 := ⟨rfl, rfl, rfl⟩
theorem okX4_isOpened : zok kX4_isOpened.2.1 kX4_isOpened.2.2.1 kX4_isOpened.2.2.2.1 tkX4_isOpened = true := by decide +kernel
def tkX4_readCompared_60 : List mE := (60, .return_, 1, 60, [], 0, 0, zM0) :: []
def tkX4_readCompared_39 : List mE := (39, .istore_n 2, 1, 2, [], 0, 0, zM0) ::
  (40, .aload_n 0, 1, 0, [], 0, 0, zM0) ::
  (41, .getfield 12, 3, 4, [0, 2, 1118], 0, 0, zM0) ::
  (44, .invokevirtual 60, 3, 9, [2183, 0, 0], 0, 0, kX9_advance) ::
  (47, .aload_n 0, 1, 0, [], 0, 0, zM0) ::
  (48, .iload_n 1, 1, 1, [], 0, 0, zM0) ::
  (49, .invokevirtual 79, 3, 4, [2215, 1, 0], 0, 0, kX4_readSum) ::
  (52, .aload_n 0, 1, 0, [], 0, 0, zM0) ::
  (53, .getfield 21, 3, 4, [1, 2, 1119], 0, 0, zM0) ::
  (56, .iload_n 2, 1, 2, [], 0, 0, zM0) ::
  (57, .invokevirtual 66, 3, 8, [2235, 1, 0], 0, 0, kX8_add) :: tkX4_readCompared_60
def tkX4_readCompared_37 : List mE := (37, .bipush 12, 2, 37, [], 12, 0, zM0) :: tkX4_readCompared_39
def tkX4_readCompared_23 : List mE := (23, .aload_n 0, 1, 0, [], 0, 0, zM0) ::
  (24, .bipush 60, 2, 24, [], 60, 0, zM0) ::
  (26, .invokevirtual 46, 3, 4, [2175, 1, 1], 0, 0, kX4_isNext) ::
  (29, .ifCond .eq 8, 3, 37, [], 0, 0, zM0) ::
  (32, .bipush 11, 2, 32, [], 11, 0, zM0) ::
  (34, .goto 5, 3, 39, [], 0, 0, zM0) :: tkX4_readCompared_37
def tkX4_readCompared_0 : List mE := (0, .aload_n 0, 1, 0, [], 0, 0, zM0) ::
  (1, .iload_n 1, 1, 1, [], 0, 0, zM0) ::
  (2, .invokevirtual 79, 3, 4, [2215, 1, 0], 0, 0, kX4_readSum) ::
  (5, .aload_n 0, 1, 0, [], 0, 0, zM0) ::
  (6, .bipush 60, 2, 6, [], 60, 0, zM0) ::
  (8, .invokevirtual 46, 3, 4, [2175, 1, 1], 0, 0, kX4_isNext) ::
  (11, .ifCond .ne 12, 3, 23, [], 0, 0, zM0) ::
  (14, .aload_n 0, 1, 0, [], 0, 0, zM0) ::
  (15, .bipush 61, 2, 15, [], 61, 0, zM0) ::
  (17, .invokevirtual 46, 3, 4, [2175, 1, 1], 0, 0, kX4_isNext) ::
  (20, .ifCond .eq 40, 3, 60, [], 0, 0, zM0) :: tkX4_readCompared_23
def tkX4_readCompared : List mE := tkX4_readCompared_0
theorem zkX4_readCompared : zat 0 tkX4_readCompared = tkX4_readCompared_0 ∧ zat 23 tkX4_readCompared = tkX4_readCompared_23 ∧ zat 37 tkX4_readCompared = tkX4_readCompared_37 ∧ zat 39 tkX4_readCompared = tkX4_readCompared_39 ∧ zat 60 tkX4_readCompared = tkX4_readCompared_60 := ⟨rfl, rfl, rfl, rfl, rfl⟩
theorem okX4_readCompared : zok kX4_readCompared.2.1 kX4_readCompared.2.2.1 kX4_readCompared.2.2.2.1 tkX4_readCompared = true := by decide +kernel
def tkX4_readSum_75 : List mE := (75, .return_, 1, 75, [], 0, 0, zM0) :: []
def tkX4_readSum_48 : List mE := (48, .istore_n 3, 1, 3, [], 0, 0, zM0) ::
  (49, .aload_n 0, 1, 0, [], 0, 0, zM0) ::
  (50, .getfield 12, 3, 4, [0, 2, 1118], 0, 0, zM0) ::
  (53, .invokevirtual 60, 3, 9, [2183, 0, 0], 0, 0, kX9_advance) ::
  (56, .aload_n 0, 1, 0, [], 0, 0, zM0) ::
  (57, .iload_n 1, 1, 1, [], 0, 0, zM0) ::
  (58, .invokevirtual 82, 3, 4, [2219, 1, 0], 0, 0, kX4_readTerm) ::
  (61, .aload_n 0, 1, 0, [], 0, 0, zM0) ::
  (62, .getfield 21, 3, 4, [1, 2, 1119], 0, 0, zM0) ::
  (65, .iload_n 3, 1, 3, [], 0, 0, zM0) ::
  (66, .invokevirtual 66, 3, 8, [2235, 1, 0], 0, 0, kX8_add) ::
  (69, .iinc 2 1, 3, 2, [], 1, 0, zM0) ::
  (72, .goto (-65), 3, 7, [], 0, 0, zM0) :: tkX4_readSum_75
def tkX4_readSum_46 : List mE := (46, .bipush 10, 2, 46, [], 10, 0, zM0) :: tkX4_readSum_48
def tkX4_readSum_32 : List mE := (32, .aload_n 0, 1, 0, [], 0, 0, zM0) ::
  (33, .bipush 43, 2, 33, [], 43, 0, zM0) ::
  (35, .invokevirtual 46, 3, 4, [2175, 1, 1], 0, 0, kX4_isNext) ::
  (38, .ifCond .eq 8, 3, 46, [], 0, 0, zM0) ::
  (41, .bipush 9, 2, 41, [], 9, 0, zM0) ::
  (43, .goto 5, 3, 48, [], 0, 0, zM0) :: tkX4_readSum_46
def tkX4_readSum_7 : List mE := (7, .iload_n 2, 1, 2, [], 0, 0, zM0) ::
  (8, .sipush 160, 3, 8, [], 160, 0, zM0) ::
  (11, .if_icmp .ge 64, 3, 75, [], 0, 0, zM0) ::
  (14, .aload_n 0, 1, 0, [], 0, 0, zM0) ::
  (15, .bipush 43, 2, 15, [], 43, 0, zM0) ::
  (17, .invokevirtual 46, 3, 4, [2175, 1, 1], 0, 0, kX4_isNext) ::
  (20, .ifCond .ne 12, 3, 32, [], 0, 0, zM0) ::
  (23, .aload_n 0, 1, 0, [], 0, 0, zM0) ::
  (24, .bipush 45, 2, 24, [], 45, 0, zM0) ::
  (26, .invokevirtual 46, 3, 4, [2175, 1, 1], 0, 0, kX4_isNext) ::
  (29, .ifCond .eq 46, 3, 75, [], 0, 0, zM0) :: tkX4_readSum_32
def tkX4_readSum_0 : List mE := (0, .aload_n 0, 1, 0, [], 0, 0, zM0) ::
  (1, .iload_n 1, 1, 1, [], 0, 0, zM0) ::
  (2, .invokevirtual 82, 3, 4, [2219, 1, 0], 0, 0, kX4_readTerm) ::
  (5, .iconst 0, 1, 5, [], 0, 0, zM0) ::
  (6, .istore_n 2, 1, 2, [], 0, 0, zM0) :: tkX4_readSum_7
def tkX4_readSum : List mE := tkX4_readSum_0
theorem zkX4_readSum : zat 0 tkX4_readSum = tkX4_readSum_0 ∧ zat 7 tkX4_readSum = tkX4_readSum_7 ∧ zat 32 tkX4_readSum = tkX4_readSum_32 ∧ zat 46 tkX4_readSum = tkX4_readSum_46 ∧ zat 48 tkX4_readSum = tkX4_readSum_48 ∧ zat 75 tkX4_readSum = tkX4_readSum_75 := ⟨rfl, rfl, rfl, rfl, rfl, rfl⟩
theorem okX4_readSum : zok kX4_readSum.2.1 kX4_readSum.2.2.1 kX4_readSum.2.2.2.1 tkX4_readSum = true := by decide +kernel
def tkX4_readTerm_50 : List mE := (50, .return_, 1, 50, [], 0, 0, zM0) :: []
def tkX4_readTerm_7 : List mE := (7, .iload_n 2, 1, 2, [], 0, 0, zM0) ::
  (8, .sipush 160, 3, 8, [], 160, 0, zM0) ::
  (11, .if_icmp .ge 39, 3, 50, [], 0, 0, zM0) ::
  (14, .aload_n 0, 1, 0, [], 0, 0, zM0) ::
  (15, .bipush 42, 2, 15, [], 42, 0, zM0) ::
  (17, .invokevirtual 46, 3, 4, [2175, 1, 1], 0, 0, kX4_isNext) ::
  (20, .ifCond .eq 30, 3, 50, [], 0, 0, zM0) ::
  (23, .aload_n 0, 1, 0, [], 0, 0, zM0) ::
  (24, .getfield 12, 3, 4, [0, 2, 1118], 0, 0, zM0) ::
  (27, .invokevirtual 60, 3, 9, [2183, 0, 0], 0, 0, kX9_advance) ::
  (30, .aload_n 0, 1, 0, [], 0, 0, zM0) ::
  (31, .iload_n 1, 1, 1, [], 0, 0, zM0) ::
  (32, .invokevirtual 85, 3, 4, [2223, 1, 0], 0, 0, kX4_readOne) ::
  (35, .aload_n 0, 1, 0, [], 0, 0, zM0) ::
  (36, .getfield 21, 3, 4, [1, 2, 1119], 0, 0, zM0) ::
  (39, .bipush 8, 2, 39, [], 8, 0, zM0) ::
  (41, .invokevirtual 66, 3, 8, [2235, 1, 0], 0, 0, kX8_add) ::
  (44, .iinc 2 1, 3, 2, [], 1, 0, zM0) ::
  (47, .goto (-40), 3, 7, [], 0, 0, zM0) :: tkX4_readTerm_50
def tkX4_readTerm_0 : List mE := (0, .aload_n 0, 1, 0, [], 0, 0, zM0) ::
  (1, .iload_n 1, 1, 1, [], 0, 0, zM0) ::
  (2, .invokevirtual 85, 3, 4, [2223, 1, 0], 0, 0, kX4_readOne) ::
  (5, .iconst 0, 1, 5, [], 0, 0, zM0) ::
  (6, .istore_n 2, 1, 2, [], 0, 0, zM0) :: tkX4_readTerm_7
def tkX4_readTerm : List mE := tkX4_readTerm_0
theorem zkX4_readTerm : zat 0 tkX4_readTerm = tkX4_readTerm_0 ∧ zat 7 tkX4_readTerm = tkX4_readTerm_7 ∧ zat 50 tkX4_readTerm = tkX4_readTerm_50 := ⟨rfl, rfl, rfl⟩
theorem okX4_readTerm : zok kX4_readTerm.2.1 kX4_readTerm.2.2.1 kX4_readTerm.2.2.2.1 tkX4_readTerm = true := by decide +kernel
def tkX4_readOne_54 : List mE := (54, .return_, 1, 54, [], 0, 0, zM0) :: []
def tkX4_readOne_34 : List mE := (34, .iload_n 3, 1, 3, [], 0, 0, zM0) ::
  (35, .iload_n 2, 1, 2, [], 0, 0, zM0) ::
  (36, .if_icmp .ge 18, 3, 54, [], 0, 0, zM0) ::
  (39, .aload_n 0, 1, 0, [], 0, 0, zM0) ::
  (40, .getfield 21, 3, 4, [1, 2, 1119], 0, 0, zM0) ::
  (43, .bipush 6, 2, 43, [], 6, 0, zM0) ::
  (45, .invokevirtual 66, 3, 8, [2235, 1, 0], 0, 0, kX8_add) ::
  (48, .iinc 3 1, 3, 3, [], 1, 0, zM0) ::
  (51, .goto (-17), 3, 34, [], 0, 0, zM0) :: tkX4_readOne_54
def tkX4_readOne_25 : List mE := (25, .aload_n 0, 1, 0, [], 0, 0, zM0) ::
  (26, .iload_n 1, 1, 1, [], 0, 0, zM0) ::
  (27, .iload_n 2, 1, 2, [], 0, 0, zM0) ::
  (28, .iadd, 1, 28, [], 0, 0, zM0) ::
  (29, .invokevirtual 88, 3, 4, [2227, 1, 0], 0, 0, kX4_readSimple) ::
  (32, .iconst 0, 1, 32, [], 0, 0, zM0) ::
  (33, .istore_n 3, 1, 3, [], 0, 0, zM0) :: tkX4_readOne_34
def tkX4_readOne_2 : List mE := (2, .iload_n 2, 1, 2, [], 0, 0, zM0) ::
  (3, .iconst 5, 1, 3, [], 5, 0, zM0) ::
  (4, .if_icmp .ge 21, 3, 25, [], 0, 0, zM0) ::
  (7, .aload_n 0, 1, 0, [], 0, 0, zM0) ::
  (8, .bipush 45, 2, 8, [], 45, 0, zM0) ::
  (10, .iload_n 1, 1, 1, [], 0, 0, zM0) ::
  (11, .iload_n 2, 1, 2, [], 0, 0, zM0) ::
  (12, .iadd, 1, 12, [], 0, 0, zM0) ::
  (13, .invokevirtual 72, 3, 4, [2207, 2, 1], 0, 0, kX4_isOpened) ::
  (16, .ifCond .eq 9, 3, 25, [], 0, 0, zM0) ::
  (19, .iinc 2 1, 3, 2, [], 1, 0, zM0) ::
  (22, .goto (-20), 3, 2, [], 0, 0, zM0) :: tkX4_readOne_25
def tkX4_readOne_0 : List mE := (0, .iconst 0, 1, 0, [], 0, 0, zM0) ::
  (1, .istore_n 2, 1, 2, [], 0, 0, zM0) :: tkX4_readOne_2
def tkX4_readOne : List mE := tkX4_readOne_0
theorem zkX4_readOne : zat 0 tkX4_readOne = tkX4_readOne_0 ∧ zat 2 tkX4_readOne = tkX4_readOne_2 ∧ zat 25 tkX4_readOne = tkX4_readOne_25 ∧ zat 34 tkX4_readOne = tkX4_readOne_34 ∧ zat 54 tkX4_readOne = tkX4_readOne_54 := ⟨rfl, rfl, rfl, rfl, rfl⟩
theorem okX4_readOne : zok kX4_readOne.2.1 kX4_readOne.2.2.1 kX4_readOne.2.2.2.1 tkX4_readOne = true := by decide +kernel
def tkX4_readSimple_99 : List mE := (99, .return_, 1, 99, [], 0, 0, zM0) :: []
def tkX4_readSimple_95 : List mE := (95, .aload_n 0, 1, 0, [], 0, 0, zM0) ::
  (96, .invokevirtual 50, 3, 4, [2187, 0, 0], 0, 0, kX4_fail) :: tkX4_readSimple_99
def tkX4_readSimple_69 : List mE := (69, .aload_n 0, 1, 0, [], 0, 0, zM0) ::
  (70, .bipush 40, 2, 70, [], 40, 0, zM0) ::
  (72, .iload_n 1, 1, 1, [], 0, 0, zM0) ::
  (73, .invokevirtual 72, 3, 4, [2207, 2, 1], 0, 0, kX4_isOpened) ::
  (76, .ifCond .eq 19, 3, 95, [], 0, 0, zM0) ::
  (79, .aload_n 0, 1, 0, [], 0, 0, zM0) ::
  (80, .iload_n 1, 1, 1, [], 0, 0, zM0) ::
  (81, .iconst 1, 1, 81, [], 1, 0, zM0) ::
  (82, .iadd, 1, 82, [], 0, 0, zM0) ::
  (83, .invokevirtual 40, 3, 4, [2195, 1, 0], 0, 0, kX4_readEither) ::
  (86, .aload_n 0, 1, 0, [], 0, 0, zM0) ::
  (87, .bipush 41, 2, 87, [], 41, 0, zM0) ::
  (89, .invokevirtual 36, 3, 4, [2171, 1, 0], 0, 0, kX4_expect) ::
  (92, .goto 7, 3, 99, [], 0, 0, zM0) :: tkX4_readSimple_95
def tkX4_readSimple_36 : List mE := (36, .aload_n 0, 1, 0, [], 0, 0, zM0) ::
  (37, .bipush 12, 2, 37, [], 12, 0, zM0) ::
  (39, .invokevirtual 46, 3, 4, [2175, 1, 1], 0, 0, kX4_isNext) ::
  (42, .ifCond .eq 27, 3, 69, [], 0, 0, zM0) ::
  (45, .aload_n 0, 1, 0, [], 0, 0, zM0) ::
  (46, .getfield 21, 3, 4, [1, 2, 1119], 0, 0, zM0) ::
  (49, .aload_n 0, 1, 0, [], 0, 0, zM0) ::
  (50, .getfield 12, 3, 4, [0, 2, 1118], 0, 0, zM0) ::
  (53, .invokevirtual 91, 3, 9, [2231, 0, 1], 0, 0, kX9_value) ::
  (56, .invokevirtual 66, 3, 8, [2235, 1, 0], 0, 0, kX8_add) ::
  (59, .aload_n 0, 1, 0, [], 0, 0, zM0) ::
  (60, .getfield 12, 3, 4, [0, 2, 1118], 0, 0, zM0) ::
  (63, .invokevirtual 60, 3, 9, [2183, 0, 0], 0, 0, kX9_advance) ::
  (66, .goto 33, 3, 99, [], 0, 0, zM0) :: tkX4_readSimple_69
def tkX4_readSimple_0 : List mE := (0, .aload_n 0, 1, 0, [], 0, 0, zM0) ::
  (1, .bipush 13, 2, 1, [], 13, 0, zM0) ::
  (3, .invokevirtual 46, 3, 4, [2175, 1, 1], 0, 0, kX4_isNext) ::
  (6, .ifCond .eq 30, 3, 36, [], 0, 0, zM0) ::
  (9, .aload_n 0, 1, 0, [], 0, 0, zM0) ::
  (10, .getfield 21, 3, 4, [1, 2, 1119], 0, 0, zM0) ::
  (13, .bipush 100, 2, 13, [], 100, 0, zM0) ::
  (15, .aload_n 0, 1, 0, [], 0, 0, zM0) ::
  (16, .getfield 12, 3, 4, [0, 2, 1118], 0, 0, zM0) ::
  (19, .invokevirtual 91, 3, 9, [2231, 0, 1], 0, 0, kX9_value) ::
  (22, .iadd, 1, 22, [], 0, 0, zM0) ::
  (23, .invokevirtual 66, 3, 8, [2235, 1, 0], 0, 0, kX8_add) ::
  (26, .aload_n 0, 1, 0, [], 0, 0, zM0) ::
  (27, .getfield 12, 3, 4, [0, 2, 1118], 0, 0, zM0) ::
  (30, .invokevirtual 60, 3, 9, [2183, 0, 0], 0, 0, kX9_advance) ::
  (33, .goto 66, 3, 99, [], 0, 0, zM0) :: tkX4_readSimple_36
def tkX4_readSimple : List mE := tkX4_readSimple_0
theorem zkX4_readSimple : zat 0 tkX4_readSimple = tkX4_readSimple_0 ∧ zat 36 tkX4_readSimple = tkX4_readSimple_36 ∧ zat 69 tkX4_readSimple = tkX4_readSimple_69 ∧ zat 95 tkX4_readSimple = tkX4_readSimple_95 ∧ zat 99 tkX4_readSimple = tkX4_readSimple_99 := ⟨rfl, rfl, rfl, rfl, rfl⟩
theorem okX4_readSimple : zok kX4_readSimple.2.1 kX4_readSimple.2.2.1 kX4_readSimple.2.2.2.1 tkX4_readSimple = true := by decide +kernel
def tkX4_draft_0 : List mE := (0, .aload_n 0, 1, 0, [], 0, 0, zM0) ::
  (1, .getfield 21, 3, 4, [1, 2, 1119], 0, 0, zM0) ::
  (4, .areturn, 1, 4, [], 0, 0, zM0) :: []
def tkX4_draft : List mE := tkX4_draft_0
theorem zkX4_draft : zat 0 tkX4_draft = tkX4_draft_0 := rfl
theorem okX4_draft : zok kX4_draft.2.1 kX4_draft.2.2.1 kX4_draft.2.2.2.1 tkX4_draft = true := by decide +kernel
def tkX1_init_53 : List mE := (53, .return_, 1, 53, [], 0, 0, zM0) :: []
def tkX1_init_47 : List mE := (47, .iinc 1 1, 3, 1, [], 1, 0, zM0) ::
  (50, .goto (-25), 3, 25, [], 0, 0, zM0) :: tkX1_init_53
def tkX1_init_46 : List mE := (46, .aastore, 1, 46, [], 0, 0, zM0) :: tkX1_init_47
def tkX1_init_43 : List mE := (43, .invokespecial 24, 3, 43, [], 0, 0, zM0) :: tkX1_init_46
def tkX1_init_42 : List mE := (42, .dup, 1, 42, [], 0, 0, zM0) :: tkX1_init_43
def tkX1_init_39 : List mE := (39, .new 18, 3, 39, [], 0, 0, zM0) :: tkX1_init_42
def tkX1_init_25 : List mE := (25, .iload_n 1, 1, 1, [], 0, 0, zM0) ::
  (26, .aload_n 0, 1, 0, [], 0, 0, zM0) ::
  (27, .getfield 20, 3, 1, [1, 2, 1195], 0, 0, zM0) ::
  (30, .arraylength, 1, 2, [], 0, 0, zM0) ::
  (31, .if_icmp .ge 22, 3, 53, [], 0, 0, zM0) ::
  (34, .aload_n 0, 1, 0, [], 0, 0, zM0) ::
  (35, .getfield 20, 3, 1, [1, 2, 1195], 0, 0, zM0) ::
  (38, .iload_n 1, 1, 1, [], 0, 0, zM0) :: tkX1_init_39
def tkX1_init_23 : List mE := (23, .iconst 0, 1, 23, [], 0, 0, zM0) ::
  (24, .istore_n 1, 1, 1, [], 0, 0, zM0) :: tkX1_init_25
def tkX1_init_20 : List mE := (20, .putfield 20, 3, 20, [], 0, 0, zM0) :: tkX1_init_23
def tkX1_init_17 : List mE := (17, .anewarray 18, 3, 17, [], 0, 0, zM0) :: tkX1_init_20
def tkX1_init_15 : List mE := (15, .aload_n 0, 1, 0, [], 0, 0, zM0) ::
  (16, .iconst 5, 1, 16, [], 5, 0, zM0) :: tkX1_init_17
def tkX1_init_12 : List mE := (12, .putfield 12, 3, 12, [], 0, 0, zM0) :: tkX1_init_15
def tkX1_init_9 : List mE := (9, .invokespecial 11, 3, 9, [], 0, 0, zM0) :: tkX1_init_12
def tkX1_init_8 : List mE := (8, .dup, 1, 8, [], 0, 0, zM0) :: tkX1_init_9
def tkX1_init_5 : List mE := (5, .new 9, 3, 5, [], 0, 0, zM0) :: tkX1_init_8
def tkX1_init_4 : List mE := (4, .aload_n 0, 1, 0, [], 0, 0, zM0) :: tkX1_init_5
def tkX1_init_1 : List mE := (1, .invokespecial 3, 3, 1, [], 0, 0, zM0) :: tkX1_init_4
def tkX1_init_0 : List mE := (0, .aload_n 0, 1, 0, [], 0, 0, zM0) :: tkX1_init_1
def tkX1_init : List mE := tkX1_init_0
set_option maxRecDepth 100000 in
theorem zkX1_init : zat 0 tkX1_init = tkX1_init_0 ∧ zat 1 tkX1_init = tkX1_init_1 ∧ zat 4 tkX1_init = tkX1_init_4 ∧ zat 5 tkX1_init = tkX1_init_5 ∧ zat 8 tkX1_init = tkX1_init_8 ∧ zat 9 tkX1_init = tkX1_init_9 ∧ zat 12 tkX1_init = tkX1_init_12 ∧ zat 15 tkX1_init = tkX1_init_15 ∧ zat 17 tkX1_init = tkX1_init_17 ∧ zat 20 tkX1_init = tkX1_init_20 ∧ zat 23 tkX1_init = tkX1_init_23 ∧ zat 25 tkX1_init = tkX1_init_25 ∧ zat 39 tkX1_init = tkX1_init_39 ∧ zat 42 tkX1_init = tkX1_init_42 ∧ zat 43 tkX1_init = tkX1_init_43 ∧ zat 46 tkX1_init = tkX1_init_46 ∧ zat 47 tkX1_init = tkX1_init_47 ∧ zat 53 tkX1_init = tkX1_init_53 := ⟨rfl, rfl, rfl, rfl, rfl, rfl, rfl, rfl, rfl, rfl, rfl, rfl, rfl, rfl, rfl, rfl, rfl, rfl⟩
theorem okX1_init : zok kX1_init.2.1 kX1_init.2.2.1 kX1_init.2.2.2.1 tkX1_init = true := by decide +kernel
def tkX3_init_47 : List mE := (47, .return_, 1, 47, [], 0, 0, zM0) :: []
def tkX3_init_44 : List mE := (44, .putfield 28, 3, 44, [], 0, 0, zM0) :: tkX3_init_47
def tkX3_init_42 : List mE := (42, .aload_n 0, 1, 0, [], 0, 0, zM0) ::
  (43, .aload_n 1, 1, 1, [], 0, 0, zM0) :: tkX3_init_44
def tkX3_init_39 : List mE := (39, .putfield 25, 3, 39, [], 0, 0, zM0) :: tkX3_init_42
def tkX3_init_37 : List mE := (37, .newarray .int, 2, 37, [], 0, 0, zM0) :: tkX3_init_39
def tkX3_init_33 : List mE := (33, .aload_n 0, 1, 0, [], 0, 0, zM0) ::
  (34, .sipush 1111, 3, 34, [], 1111, 0, zM0) :: tkX3_init_37
def tkX3_init_30 : List mE := (30, .putfield 22, 3, 30, [], 0, 0, zM0) :: tkX3_init_33
def tkX3_init_28 : List mE := (28, .newarray .int, 2, 28, [], 0, 0, zM0) :: tkX3_init_30
def tkX3_init_24 : List mE := (24, .aload_n 0, 1, 0, [], 0, 0, zM0) ::
  (25, .sipush 1111, 3, 25, [], 1111, 0, zM0) :: tkX3_init_28
def tkX3_init_21 : List mE := (21, .putfield 18, 3, 21, [], 0, 0, zM0) :: tkX3_init_24
def tkX3_init_19 : List mE := (19, .newarray .int, 2, 19, [], 0, 0, zM0) :: tkX3_init_21
def tkX3_init_15 : List mE := (15, .aload_n 0, 1, 0, [], 0, 0, zM0) ::
  (16, .sipush 1111, 3, 16, [], 1111, 0, zM0) :: tkX3_init_19
def tkX3_init_12 : List mE := (12, .putfield 12, 3, 12, [], 0, 0, zM0) :: tkX3_init_15
def tkX3_init_9 : List mE := (9, .invokespecial 11, 3, 9, [], 0, 0, zM0) :: tkX3_init_12
def tkX3_init_8 : List mE := (8, .dup, 1, 8, [], 0, 0, zM0) :: tkX3_init_9
def tkX3_init_5 : List mE := (5, .new 9, 3, 5, [], 0, 0, zM0) :: tkX3_init_8
def tkX3_init_4 : List mE := (4, .aload_n 0, 1, 0, [], 0, 0, zM0) :: tkX3_init_5
def tkX3_init_1 : List mE := (1, .invokespecial 3, 3, 1, [], 0, 0, zM0) :: tkX3_init_4
def tkX3_init_0 : List mE := (0, .aload_n 0, 1, 0, [], 0, 0, zM0) :: tkX3_init_1
def tkX3_init : List mE := tkX3_init_0
set_option maxRecDepth 100000 in
theorem zkX3_init : zat 0 tkX3_init = tkX3_init_0 ∧ zat 1 tkX3_init = tkX3_init_1 ∧ zat 4 tkX3_init = tkX3_init_4 ∧ zat 5 tkX3_init = tkX3_init_5 ∧ zat 8 tkX3_init = tkX3_init_8 ∧ zat 9 tkX3_init = tkX3_init_9 ∧ zat 12 tkX3_init = tkX3_init_12 ∧ zat 15 tkX3_init = tkX3_init_15 ∧ zat 19 tkX3_init = tkX3_init_19 ∧ zat 21 tkX3_init = tkX3_init_21 ∧ zat 24 tkX3_init = tkX3_init_24 ∧ zat 28 tkX3_init = tkX3_init_28 ∧ zat 30 tkX3_init = tkX3_init_30 ∧ zat 33 tkX3_init = tkX3_init_33 ∧ zat 37 tkX3_init = tkX3_init_37 ∧ zat 39 tkX3_init = tkX3_init_39 ∧ zat 42 tkX3_init = tkX3_init_42 ∧ zat 44 tkX3_init = tkX3_init_44 ∧ zat 47 tkX3_init = tkX3_init_47 := ⟨rfl, rfl, rfl, rfl, rfl, rfl, rfl, rfl, rfl, rfl, rfl, rfl, rfl, rfl, rfl, rfl, rfl, rfl, rfl⟩
theorem okX3_init : zok kX3_init.2.1 kX3_init.2.2.1 kX3_init.2.2.2.1 tkX3_init = true := by decide +kernel
def tkX3_begin_0 : List mE := (0, .aload_n 0, 1, 0, [], 0, 0, zM0) ::
  (1, .getfield 12, 3, 3, [1, 2, 1168], 0, 0, zM0) ::
  (4, .aload_n 1, 1, 1, [], 0, 0, zM0) ::
  (5, .invokevirtual 32, 3, 0, [4104, 1, 0], 0, 0, kX0_become) ::
  (8, .aload_n 0, 1, 0, [], 0, 0, zM0) ::
  (9, .getfield 18, 3, 3, [2, 2, 1169], 0, 0, zM0) ::
  (12, .iconst 0, 1, 12, [], 0, 0, zM0) ::
  (13, .aload_n 1, 1, 1, [], 0, 0, zM0) ::
  (14, .getfield 36, 3, 0, [2, 0, 1152], 0, 0, zM0) ::
  (17, .iastore, 1, 17, [], 0, 0, zM0) ::
  (18, .aload_n 0, 1, 0, [], 0, 0, zM0) ::
  (19, .getfield 22, 3, 3, [3, 2, 1170], 0, 0, zM0) ::
  (22, .iconst 0, 1, 22, [], 0, 0, zM0) ::
  (23, .aload_n 1, 1, 1, [], 0, 0, zM0) ::
  (24, .getfield 39, 3, 0, [3, 0, 1155], 0, 0, zM0) ::
  (27, .iastore, 1, 27, [], 0, 0, zM0) ::
  (28, .aload_n 0, 1, 0, [], 0, 0, zM0) ::
  (29, .getfield 25, 3, 3, [4, 2, 1171], 0, 0, zM0) ::
  (32, .iconst 0, 1, 32, [], 0, 0, zM0) ::
  (33, .iconst 0, 1, 33, [], 0, 0, zM0) ::
  (34, .iastore, 1, 34, [], 0, 0, zM0) ::
  (35, .return_, 1, 35, [], 0, 0, zM0) :: []
def tkX3_begin : List mE := tkX3_begin_0
theorem zkX3_begin : zat 0 tkX3_begin = tkX3_begin_0 := rfl
theorem okX3_begin : zok kX3_begin.2.1 kX3_begin.2.2.1 kX3_begin.2.2.2.1 tkX3_begin = true := by decide +kernel
def tkX3_tryAll_139 : List mE := (139, .return_, 1, 139, [], 0, 0, zM0) :: []
def tkX3_tryAll_18 : List mE := (18, .iload 5, 2, 5, [], 0, 0, zM0) ::
  (20, .iload 4, 2, 4, [], 0, 0, zM0) ::
  (22, .if_icmp .ge 117, 3, 139, [], 0, 0, zM0) ::
  (25, .iload 5, 2, 5, [], 0, 0, zM0) ::
  (27, .sipush 1111, 3, 27, [], 1111, 0, zM0) ::
  (30, .if_icmp .ge 109, 3, 139, [], 0, 0, zM0) ::
  (33, .iload 5, 2, 5, [], 0, 0, zM0) ::
  (35, .iconst 1, 1, 35, [], 1, 0, zM0) ::
  (36, .isub, 1, 36, [], 0, 0, zM0) ::
  (37, .bipush 10, 2, 37, [], 10, 0, zM0) ::
  (39, .idiv, 1, 39, [], 0, 0, zM0) ::
  (40, .istore 6, 2, 6, [], 0, 0, zM0) ::
  (42, .aload_n 0, 1, 0, [], 0, 0, zM0) ::
  (43, .getfield 12, 3, 3, [1, 2, 1168], 0, 0, zM0) ::
  (46, .aload_n 0, 1, 0, [], 0, 0, zM0) ::
  (47, .getfield 18, 3, 3, [2, 2, 1169], 0, 0, zM0) ::
  (50, .iload 6, 2, 6, [], 0, 0, zM0) ::
  (52, .iaload, 1, 0, [], 0, 0, zM0) ::
  (53, .putfield 36, 3, 0, [2, 0, 1152], 0, 0, zM0) ::
  (56, .aload_n 0, 1, 0, [], 0, 0, zM0) ::
  (57, .getfield 12, 3, 3, [1, 2, 1168], 0, 0, zM0) ::
  (60, .aload_n 0, 1, 0, [], 0, 0, zM0) ::
  (61, .getfield 22, 3, 3, [3, 2, 1170], 0, 0, zM0) ::
  (64, .iload 6, 2, 6, [], 0, 0, zM0) ::
  (66, .iaload, 1, 0, [], 0, 0, zM0) ::
  (67, .putfield 39, 3, 0, [3, 0, 1155], 0, 0, zM0) ::
  (70, .aload_n 0, 1, 0, [], 0, 0, zM0) ::
  (71, .getfield 25, 3, 3, [4, 2, 1171], 0, 0, zM0) ::
  (74, .iload 5, 2, 5, [], 0, 0, zM0) ::
  (76, .aload_n 0, 1, 0, [], 0, 0, zM0) ::
  (77, .getfield 25, 3, 3, [4, 2, 1171], 0, 0, zM0) ::
  (80, .iload 6, 2, 6, [], 0, 0, zM0) ::
  (82, .iaload, 1, 0, [], 0, 0, zM0) ::
  (83, .aload_n 0, 1, 0, [], 0, 0, zM0) ::
  (84, .getfield 28, 3, 3, [0, 2, 1167], 0, 0, zM0) ::
  (87, .aload_n 0, 1, 0, [], 0, 0, zM0) ::
  (88, .getfield 12, 3, 3, [1, 2, 1168], 0, 0, zM0) ::
  (91, .iload 5, 2, 5, [], 0, 0, zM0) ::
  (93, .iconst 1, 1, 93, [], 1, 0, zM0) ::
  (94, .isub, 1, 94, [], 0, 0, zM0) ::
  (95, .bipush 10, 2, 95, [], 10, 0, zM0) ::
  (97, .irem, 1, 97, [], 0, 0, zM0) ::
  (98, .iload_n 2, 1, 2, [], 0, 0, zM0) ::
  (99, .aload_n 3, 1, 3, [], 0, 0, zM0) ::
  (100, .invokevirtual 51, 3, 2, [4113, 4, 1], 0, 0, kX2_put) ::
  (103, .iadd, 1, 103, [], 0, 0, zM0) ::
  (104, .iastore, 1, 104, [], 0, 0, zM0) ::
  (105, .aload_n 0, 1, 0, [], 0, 0, zM0) ::
  (106, .getfield 18, 3, 3, [2, 2, 1169], 0, 0, zM0) ::
  (109, .iload 5, 2, 5, [], 0, 0, zM0) ::
  (111, .aload_n 0, 1, 0, [], 0, 0, zM0) ::
  (112, .getfield 12, 3, 3, [1, 2, 1168], 0, 0, zM0) ::
  (115, .getfield 36, 3, 0, [2, 0, 1152], 0, 0, zM0) ::
  (118, .iastore, 1, 118, [], 0, 0, zM0) ::
  (119, .aload_n 0, 1, 0, [], 0, 0, zM0) ::
  (120, .getfield 22, 3, 3, [3, 2, 1170], 0, 0, zM0) ::
  (123, .iload 5, 2, 5, [], 0, 0, zM0) ::
  (125, .aload_n 0, 1, 0, [], 0, 0, zM0) ::
  (126, .getfield 12, 3, 3, [1, 2, 1168], 0, 0, zM0) ::
  (129, .getfield 39, 3, 0, [3, 0, 1155], 0, 0, zM0) ::
  (132, .iastore, 1, 132, [], 0, 0, zM0) ::
  (133, .iinc 5 1, 3, 5, [], 1, 0, zM0) ::
  (136, .goto (-118), 3, 18, [], 0, 0, zM0) :: tkX3_tryAll_139
def tkX3_tryAll_0 : List mE := (0, .iload_n 1, 1, 1, [], 0, 0, zM0) ::
  (1, .iconst 1, 1, 1, [], 1, 0, zM0) ::
  (2, .iadd, 1, 2, [], 0, 0, zM0) ::
  (3, .invokestatic 41, 3, 0, [4109, 1, 1], 0, 0, kX3_firstOf) ::
  (6, .istore 4, 2, 4, [], 0, 0, zM0) ::
  (8, .iconst 1, 1, 8, [], 1, 0, zM0) ::
  (9, .iload_n 1, 1, 1, [], 0, 0, zM0) ::
  (10, .invokestatic 41, 3, 0, [4109, 1, 1], 0, 0, kX3_firstOf) ::
  (13, .invokestatic 45, 3, 7, [4112], 0, 0, zM0) ::
  (16, .istore 5, 2, 5, [], 0, 0, zM0) :: tkX3_tryAll_18
def tkX3_tryAll : List mE := tkX3_tryAll_0
theorem zkX3_tryAll : zat 0 tkX3_tryAll = tkX3_tryAll_0 ∧ zat 18 tkX3_tryAll = tkX3_tryAll_18 ∧ zat 139 tkX3_tryAll = tkX3_tryAll_139 := ⟨rfl, rfl, rfl⟩
theorem okX3_tryAll : zok kX3_tryAll.2.1 kX3_tryAll.2.2.1 kX3_tryAll.2.2.2.1 tkX3_tryAll = true := by decide +kernel
def tkX3_firstOf_27 : List mE := (27, .iload_n 1, 1, 1, [], 0, 0, zM0) ::
  (28, .ireturn, 1, 28, [], 0, 0, zM0) :: []
def tkX3_firstOf_4 : List mE := (4, .iload_n 2, 1, 2, [], 0, 0, zM0) ::
  (5, .iload_n 0, 1, 0, [], 0, 0, zM0) ::
  (6, .if_icmp .ge 21, 3, 27, [], 0, 0, zM0) ::
  (9, .iload_n 2, 1, 2, [], 0, 0, zM0) ::
  (10, .iconst 3, 1, 10, [], 3, 0, zM0) ::
  (11, .if_icmp .gt 16, 3, 27, [], 0, 0, zM0) ::
  (14, .bipush 10, 2, 14, [], 10, 0, zM0) ::
  (16, .iload_n 1, 1, 1, [], 0, 0, zM0) ::
  (17, .imul, 1, 17, [], 0, 0, zM0) ::
  (18, .iconst 1, 1, 18, [], 1, 0, zM0) ::
  (19, .iadd, 1, 19, [], 0, 0, zM0) ::
  (20, .istore_n 1, 1, 1, [], 0, 0, zM0) ::
  (21, .iinc 2 1, 3, 2, [], 1, 0, zM0) ::
  (24, .goto (-20), 3, 4, [], 0, 0, zM0) :: tkX3_firstOf_27
def tkX3_firstOf_0 : List mE := (0, .iconst 0, 1, 0, [], 0, 0, zM0) ::
  (1, .istore_n 1, 1, 1, [], 0, 0, zM0) ::
  (2, .iconst 0, 1, 2, [], 0, 0, zM0) ::
  (3, .istore_n 2, 1, 2, [], 0, 0, zM0) :: tkX3_firstOf_4
def tkX3_firstOf : List mE := tkX3_firstOf_0
theorem zkX3_firstOf : zat 0 tkX3_firstOf = tkX3_firstOf_0 ∧ zat 4 tkX3_firstOf = tkX3_firstOf_4 ∧ zat 27 tkX3_firstOf = tkX3_firstOf_27 := ⟨rfl, rfl, rfl⟩
theorem okX3_firstOf : zok kX3_firstOf.2.1 kX3_firstOf.2.2.1 kX3_firstOf.2.2.2.1 tkX3_firstOf = true := by decide +kernel
def tkX3_bestOf_54 : List mE := (54, .iload_n 3, 1, 3, [], 0, 0, zM0) ::
  (55, .ireturn, 1, 55, [], 0, 0, zM0) :: []
def tkX3_bestOf_48 : List mE := (48, .iinc 4 1, 3, 4, [], 1, 0, zM0) ::
  (51, .goto (-36), 3, 15, [], 0, 0, zM0) :: tkX3_bestOf_54
def tkX3_bestOf_15 : List mE := (15, .iload 4, 2, 4, [], 0, 0, zM0) ::
  (17, .iload_n 2, 1, 2, [], 0, 0, zM0) ::
  (18, .if_icmp .ge 36, 3, 54, [], 0, 0, zM0) ::
  (21, .iload 4, 2, 4, [], 0, 0, zM0) ::
  (23, .sipush 1111, 3, 23, [], 1111, 0, zM0) ::
  (26, .if_icmp .ge 28, 3, 54, [], 0, 0, zM0) ::
  (29, .aload_n 0, 1, 0, [], 0, 0, zM0) ::
  (30, .getfield 25, 3, 3, [4, 2, 1171], 0, 0, zM0) ::
  (33, .iload 4, 2, 4, [], 0, 0, zM0) ::
  (35, .iaload, 1, 0, [], 0, 0, zM0) ::
  (36, .aload_n 0, 1, 0, [], 0, 0, zM0) ::
  (37, .getfield 25, 3, 3, [4, 2, 1171], 0, 0, zM0) ::
  (40, .iload_n 3, 1, 3, [], 0, 0, zM0) ::
  (41, .iaload, 1, 0, [], 0, 0, zM0) ::
  (42, .if_icmp .le 6, 3, 48, [], 0, 0, zM0) ::
  (45, .iload 4, 2, 4, [], 0, 0, zM0) ::
  (47, .istore_n 3, 1, 3, [], 0, 0, zM0) :: tkX3_bestOf_48
def tkX3_bestOf_0 : List mE := (0, .iload_n 1, 1, 1, [], 0, 0, zM0) ::
  (1, .iconst 1, 1, 1, [], 1, 0, zM0) ::
  (2, .iadd, 1, 2, [], 0, 0, zM0) ::
  (3, .invokestatic 41, 3, 0, [4109, 1, 1], 0, 0, kX3_firstOf) ::
  (6, .istore_n 2, 1, 2, [], 0, 0, zM0) ::
  (7, .iload_n 1, 1, 1, [], 0, 0, zM0) ::
  (8, .invokestatic 41, 3, 0, [4109, 1, 1], 0, 0, kX3_firstOf) ::
  (11, .istore_n 3, 1, 3, [], 0, 0, zM0) ::
  (12, .iload_n 3, 1, 3, [], 0, 0, zM0) ::
  (13, .istore 4, 2, 4, [], 0, 0, zM0) :: tkX3_bestOf_15
def tkX3_bestOf : List mE := tkX3_bestOf_0
theorem zkX3_bestOf : zat 0 tkX3_bestOf = tkX3_bestOf_0 ∧ zat 15 tkX3_bestOf = tkX3_bestOf_15 ∧ zat 48 tkX3_bestOf = tkX3_bestOf_48 ∧ zat 54 tkX3_bestOf = tkX3_bestOf_54 := ⟨rfl, rfl, rfl, rfl⟩
theorem okX3_bestOf : zok kX3_bestOf.2.1 kX3_bestOf.2.2.1 kX3_bestOf.2.2.2.1 tkX3_bestOf = true := by decide +kernel
def tkX3_numberOf_55 : List mE := (55, .iload_n 2, 1, 2, [], 0, 0, zM0) ::
  (56, .ireturn, 1, 56, [], 0, 0, zM0) :: []
def tkX3_numberOf_10 : List mE := (10, .iload 5, 2, 5, [], 0, 0, zM0) ::
  (12, .iconst 3, 1, 12, [], 3, 0, zM0) ::
  (13, .if_icmp .ge 42, 3, 55, [], 0, 0, zM0) ::
  (16, .iload 4, 2, 4, [], 0, 0, zM0) ::
  (18, .ifCond .le 37, 3, 55, [], 0, 0, zM0) ::
  (21, .iload_n 2, 1, 2, [], 0, 0, zM0) ::
  (22, .iload_n 3, 1, 3, [], 0, 0, zM0) ::
  (23, .iload 4, 2, 4, [], 0, 0, zM0) ::
  (25, .iconst 1, 1, 25, [], 1, 0, zM0) ::
  (26, .isub, 1, 26, [], 0, 0, zM0) ::
  (27, .bipush 10, 2, 27, [], 10, 0, zM0) ::
  (29, .irem, 1, 29, [], 0, 0, zM0) ::
  (30, .iconst 1, 1, 30, [], 1, 0, zM0) ::
  (31, .iadd, 1, 31, [], 0, 0, zM0) ::
  (32, .imul, 1, 32, [], 0, 0, zM0) ::
  (33, .iadd, 1, 33, [], 0, 0, zM0) ::
  (34, .istore_n 2, 1, 2, [], 0, 0, zM0) ::
  (35, .iload_n 3, 1, 3, [], 0, 0, zM0) ::
  (36, .bipush 11, 2, 36, [], 11, 0, zM0) ::
  (38, .imul, 1, 38, [], 0, 0, zM0) ::
  (39, .istore_n 3, 1, 3, [], 0, 0, zM0) ::
  (40, .iload 4, 2, 4, [], 0, 0, zM0) ::
  (42, .iconst 1, 1, 42, [], 1, 0, zM0) ::
  (43, .isub, 1, 43, [], 0, 0, zM0) ::
  (44, .bipush 10, 2, 44, [], 10, 0, zM0) ::
  (46, .idiv, 1, 46, [], 0, 0, zM0) ::
  (47, .istore 4, 2, 4, [], 0, 0, zM0) ::
  (49, .iinc 5 1, 3, 5, [], 1, 0, zM0) ::
  (52, .goto (-42), 3, 10, [], 0, 0, zM0) :: tkX3_numberOf_55
def tkX3_numberOf_0 : List mE := (0, .iconst 0, 1, 0, [], 0, 0, zM0) ::
  (1, .istore_n 2, 1, 2, [], 0, 0, zM0) ::
  (2, .iconst 1, 1, 2, [], 1, 0, zM0) ::
  (3, .istore_n 3, 1, 3, [], 0, 0, zM0) ::
  (4, .iload_n 1, 1, 1, [], 0, 0, zM0) ::
  (5, .istore 4, 2, 4, [], 0, 0, zM0) ::
  (7, .iconst 0, 1, 7, [], 0, 0, zM0) ::
  (8, .istore 5, 2, 5, [], 0, 0, zM0) :: tkX3_numberOf_10
def tkX3_numberOf : List mE := tkX3_numberOf_0
theorem zkX3_numberOf : zat 0 tkX3_numberOf = tkX3_numberOf_0 ∧ zat 10 tkX3_numberOf = tkX3_numberOf_10 ∧ zat 55 tkX3_numberOf = tkX3_numberOf_55 := ⟨rfl, rfl, rfl⟩
theorem okX3_numberOf : zok kX3_numberOf.2.1 kX3_numberOf.2.2.1 kX3_numberOf.2.2.2.1 tkX3_numberOf = true := by decide +kernel
def tkX3_laidOn_21 : List mE := (21, .ireturn, 1, 21, [], 0, 0, zM0) :: []
def tkX3_laidOn_20 : List mE := (20, .iconst 0, 1, 20, [], 0, 0, zM0) :: tkX3_laidOn_21
def tkX3_laidOn_0 : List mE := (0, .iload_n 1, 1, 1, [], 0, 0, zM0) ::
  (1, .ifCond .lt 19, 3, 20, [], 0, 0, zM0) ::
  (4, .iload_n 1, 1, 1, [], 0, 0, zM0) ::
  (5, .sipush 1111, 3, 5, [], 1111, 0, zM0) ::
  (8, .if_icmp .ge 12, 3, 20, [], 0, 0, zM0) ::
  (11, .aload_n 0, 1, 0, [], 0, 0, zM0) ::
  (12, .getfield 25, 3, 3, [4, 2, 1171], 0, 0, zM0) ::
  (15, .iload_n 1, 1, 1, [], 0, 0, zM0) ::
  (16, .iaload, 1, 0, [], 0, 0, zM0) ::
  (17, .goto 4, 3, 21, [], 0, 0, zM0) :: tkX3_laidOn_20
def tkX3_laidOn : List mE := tkX3_laidOn_0
theorem zkX3_laidOn : zat 0 tkX3_laidOn = tkX3_laidOn_0 ∧ zat 20 tkX3_laidOn = tkX3_laidOn_20 ∧ zat 21 tkX3_laidOn = tkX3_laidOn_21 := ⟨rfl, rfl, rfl⟩
theorem okX3_laidOn : zok kX3_laidOn.2.1 kX3_laidOn.2.2.1 kX3_laidOn.2.2.2.1 tkX3_laidOn = true := by decide +kernel
def tkX3_isHeldBehind_49 : List mE := (49, .iconst 0, 1, 49, [], 0, 0, zM0) ::
  (50, .ireturn, 1, 50, [], 0, 0, zM0) :: []
def tkX3_isHeldBehind_43 : List mE := (43, .iinc 4 1, 3, 4, [], 1, 0, zM0) ::
  (46, .goto (-33), 3, 13, [], 0, 0, zM0) :: tkX3_isHeldBehind_49
def tkX3_isHeldBehind_13 : List mE := (13, .iload 4, 2, 4, [], 0, 0, zM0) ::
  (15, .iload_n 3, 1, 3, [], 0, 0, zM0) ::
  (16, .if_icmp .ge 33, 3, 49, [], 0, 0, zM0) ::
  (19, .iload 4, 2, 4, [], 0, 0, zM0) ::
  (21, .sipush 1111, 3, 21, [], 1111, 0, zM0) ::
  (24, .if_icmp .ge 25, 3, 49, [], 0, 0, zM0) ::
  (27, .aload_n 0, 1, 0, [], 0, 0, zM0) ::
  (28, .getfield 18, 3, 3, [2, 2, 1169], 0, 0, zM0) ::
  (31, .iload 4, 2, 4, [], 0, 0, zM0) ::
  (33, .iaload, 1, 0, [], 0, 0, zM0) ::
  (34, .iload_n 2, 1, 2, [], 0, 0, zM0) ::
  (35, .invokestatic 57, 3, 8, [0, 2, 1], 0, 0, kX10_has) ::
  (38, .ifCond .eq 5, 3, 43, [], 0, 0, zM0) ::
  (41, .iconst 1, 1, 41, [], 1, 0, zM0) ::
  (42, .ireturn, 1, 42, [], 0, 0, zM0) :: tkX3_isHeldBehind_43
def tkX3_isHeldBehind_0 : List mE := (0, .iload_n 1, 1, 1, [], 0, 0, zM0) ::
  (1, .iconst 1, 1, 1, [], 1, 0, zM0) ::
  (2, .iadd, 1, 2, [], 0, 0, zM0) ::
  (3, .invokestatic 41, 3, 0, [4109, 1, 1], 0, 0, kX3_firstOf) ::
  (6, .istore_n 3, 1, 3, [], 0, 0, zM0) ::
  (7, .iload_n 1, 1, 1, [], 0, 0, zM0) ::
  (8, .invokestatic 41, 3, 0, [4109, 1, 1], 0, 0, kX3_firstOf) ::
  (11, .istore 4, 2, 4, [], 0, 0, zM0) :: tkX3_isHeldBehind_13
def tkX3_isHeldBehind : List mE := tkX3_isHeldBehind_0
theorem zkX3_isHeldBehind : zat 0 tkX3_isHeldBehind = tkX3_isHeldBehind_0 ∧ zat 13 tkX3_isHeldBehind = tkX3_isHeldBehind_13 ∧ zat 43 tkX3_isHeldBehind = tkX3_isHeldBehind_43 ∧ zat 49 tkX3_isHeldBehind = tkX3_isHeldBehind_49 := ⟨rfl, rfl, rfl, rfl⟩
theorem okX3_isHeldBehind : zok kX3_isHeldBehind.2.1 kX3_isHeldBehind.2.2.1 kX3_isHeldBehind.2.2.2.1 tkX3_isHeldBehind = true := by decide +kernel
def tkJ6_bitCount_0f7a4_0 : List mE := (0, .iload_n 0, 1, 0, [], 0, 0, zM0) ::
  (1, .iload_n 0, 1, 0, [], 0, 0, zM0) ::
  (2, .iconst 1, 1, 2, [], 1, 0, zM0) ::
  (3, .iushr, 1, 3, [], 0, 0, zM0) ::
  (4, .ldc_w 265, 3, 4, [3132], 1431655765, 0, zM0) ::
  (7, .iand, 1, 7, [], 0, 0, zM0) ::
  (8, .isub, 1, 8, [], 0, 0, zM0) ::
  (9, .istore_n 0, 1, 0, [], 0, 0, zM0) ::
  (10, .iload_n 0, 1, 0, [], 0, 0, zM0) ::
  (11, .ldc_w 266, 3, 11, [3133], 858993459, 0, zM0) ::
  (14, .iand, 1, 14, [], 0, 0, zM0) ::
  (15, .iload_n 0, 1, 0, [], 0, 0, zM0) ::
  (16, .iconst 2, 1, 16, [], 2, 0, zM0) ::
  (17, .iushr, 1, 17, [], 0, 0, zM0) ::
  (18, .ldc_w 266, 3, 18, [3133], 858993459, 0, zM0) ::
  (21, .iand, 1, 21, [], 0, 0, zM0) ::
  (22, .iadd, 1, 22, [], 0, 0, zM0) ::
  (23, .istore_n 0, 1, 0, [], 0, 0, zM0) ::
  (24, .iload_n 0, 1, 0, [], 0, 0, zM0) ::
  (25, .iload_n 0, 1, 0, [], 0, 0, zM0) ::
  (26, .iconst 4, 1, 26, [], 4, 0, zM0) ::
  (27, .iushr, 1, 27, [], 0, 0, zM0) ::
  (28, .iadd, 1, 28, [], 0, 0, zM0) ::
  (29, .ldc_w 267, 3, 29, [3134], 252645135, 0, zM0) ::
  (32, .iand, 1, 32, [], 0, 0, zM0) ::
  (33, .istore_n 0, 1, 0, [], 0, 0, zM0) ::
  (34, .iload_n 0, 1, 0, [], 0, 0, zM0) ::
  (35, .iload_n 0, 1, 0, [], 0, 0, zM0) ::
  (36, .bipush 8, 2, 36, [], 8, 0, zM0) ::
  (38, .iushr, 1, 38, [], 0, 0, zM0) ::
  (39, .iadd, 1, 39, [], 0, 0, zM0) ::
  (40, .istore_n 0, 1, 0, [], 0, 0, zM0) ::
  (41, .iload_n 0, 1, 0, [], 0, 0, zM0) ::
  (42, .iload_n 0, 1, 0, [], 0, 0, zM0) ::
  (43, .bipush 16, 2, 43, [], 16, 0, zM0) ::
  (45, .iushr, 1, 45, [], 0, 0, zM0) ::
  (46, .iadd, 1, 46, [], 0, 0, zM0) ::
  (47, .istore_n 0, 1, 0, [], 0, 0, zM0) ::
  (48, .iload_n 0, 1, 0, [], 0, 0, zM0) ::
  (49, .bipush 63, 2, 49, [], 63, 0, zM0) ::
  (51, .iand, 1, 51, [], 0, 0, zM0) ::
  (52, .ireturn, 1, 52, [], 0, 0, zM0) :: []
def tkJ6_bitCount_0f7a4 : List mE := tkJ6_bitCount_0f7a4_0
theorem zkJ6_bitCount_0f7a4 : zat 0 tkJ6_bitCount_0f7a4 = tkJ6_bitCount_0f7a4_0 := rfl
theorem okJ6_bitCount_0f7a4 : zok kJ6_bitCount_0f7a4.2.1 kJ6_bitCount_0f7a4.2.2.1 kJ6_bitCount_0f7a4.2.2.2.1 tkJ6_bitCount_0f7a4 = true := by decide +kernel
