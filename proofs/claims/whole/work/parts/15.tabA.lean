/-! The code of LaidByArgument$Hen, LaidByArgument$Sheet, LaidByArgument$Strife, LaidByArgument$Manner, LaidByArgument$Text. -/
def tkX0_init_4 : List mE := (4, .return_, 1, 4, [], 0, 0, zM0) :: []
def tkX0_init_1 : List mE := (1, .invokespecial 1, 3, 1, [], 0, 0, zM0) :: tkX0_init_4
def tkX0_init_0 : List mE := (0, .aload_n 0, 1, 0, [], 0, 0, zM0) :: tkX0_init_1
def tkX0_init : List mE := tkX0_init_0
theorem zkX0_init : zat 0 tkX0_init = tkX0_init_0 ∧ zat 1 tkX0_init = tkX0_init_1 ∧ zat 4 tkX0_init = tkX0_init_4 := ⟨rfl, rfl, rfl⟩
theorem okX0_init : zok kX0_init.2.1 kX0_init.2.2.1 kX0_init.2.2.2.1 tkX0_init = true := by decide +kernel
def tkX0_come_0 : List mE := (0, .aload_n 0, 1, 0, [], 0, 0, zM0) ::
  (1, .iload_n 1, 1, 1, [], 0, 0, zM0) ::
  (2, .putfield 7, 3, 0, [0, 0, 1144], 0, 0, zM0) ::
  (5, .aload_n 0, 1, 0, [], 0, 0, zM0) ::
  (6, .iload_n 2, 1, 2, [], 0, 0, zM0) ::
  (7, .putfield 13, 3, 0, [1, 0, 1147], 0, 0, zM0) ::
  (10, .aload_n 0, 1, 0, [], 0, 0, zM0) ::
  (11, .iconst 0, 1, 11, [], 0, 0, zM0) ::
  (12, .putfield 16, 3, 0, [2, 0, 1151], 0, 0, zM0) ::
  (15, .aload_n 0, 1, 0, [], 0, 0, zM0) ::
  (16, .iconst 0, 1, 16, [], 0, 0, zM0) ::
  (17, .putfield 19, 3, 0, [3, 0, 1154], 0, 0, zM0) ::
  (20, .return_, 1, 20, [], 0, 0, zM0) :: []
def tkX0_come : List mE := tkX0_come_0
theorem zkX0_come : zat 0 tkX0_come = tkX0_come_0 := rfl
theorem okX0_come : zok kX0_come.2.1 kX0_come.2.2.1 kX0_come.2.2.2.1 tkX0_come = true := by decide +kernel
def tkX0_become_0 : List mE := (0, .aload_n 0, 1, 0, [], 0, 0, zM0) ::
  (1, .aload_n 1, 1, 1, [], 0, 0, zM0) ::
  (2, .getfield 7, 3, 0, [0, 0, 1144], 0, 0, zM0) ::
  (5, .putfield 7, 3, 0, [0, 0, 1144], 0, 0, zM0) ::
  (8, .aload_n 0, 1, 0, [], 0, 0, zM0) ::
  (9, .aload_n 1, 1, 1, [], 0, 0, zM0) ::
  (10, .getfield 13, 3, 0, [1, 0, 1147], 0, 0, zM0) ::
  (13, .putfield 13, 3, 0, [1, 0, 1147], 0, 0, zM0) ::
  (16, .aload_n 0, 1, 0, [], 0, 0, zM0) ::
  (17, .aload_n 1, 1, 1, [], 0, 0, zM0) ::
  (18, .getfield 16, 3, 0, [2, 0, 1151], 0, 0, zM0) ::
  (21, .putfield 16, 3, 0, [2, 0, 1151], 0, 0, zM0) ::
  (24, .aload_n 0, 1, 0, [], 0, 0, zM0) ::
  (25, .aload_n 1, 1, 1, [], 0, 0, zM0) ::
  (26, .getfield 19, 3, 0, [3, 0, 1154], 0, 0, zM0) ::
  (29, .putfield 19, 3, 0, [3, 0, 1154], 0, 0, zM0) ::
  (32, .return_, 1, 32, [], 0, 0, zM0) :: []
def tkX0_become : List mE := tkX0_become_0
theorem zkX0_become : zat 0 tkX0_become = tkX0_become_0 := rfl
theorem okX0_become : zok kX0_become.2.1 kX0_become.2.2.1 kX0_become.2.2.2.1 tkX0_become = true := by decide +kernel
def tkX5_init_12 : List mE := (12, .aload_n 0, 1, 0, [], 0, 0, zM0) ::
  (13, .iconst (-1), 1, 13, [], (-1), 0, zM0) ::
  (14, .putfield 15, 3, 5, [1, 0, 1222], 0, 0, zM0) ::
  (17, .return_, 1, 17, [], 0, 0, zM0) :: []
def tkX5_init_9 : List mE := (9, .putfield 9, 3, 9, [], 0, 0, zM0) :: tkX5_init_12
def tkX5_init_7 : List mE := (7, .newarray .int, 2, 7, [], 0, 0, zM0) :: tkX5_init_9
def tkX5_init_4 : List mE := (4, .aload_n 0, 1, 0, [], 0, 0, zM0) ::
  (5, .bipush 40, 2, 5, [], 40, 0, zM0) :: tkX5_init_7
def tkX5_init_1 : List mE := (1, .invokespecial 3, 3, 1, [], 0, 0, zM0) :: tkX5_init_4
def tkX5_init_0 : List mE := (0, .aload_n 0, 1, 0, [], 0, 0, zM0) :: tkX5_init_1
def tkX5_init : List mE := tkX5_init_0
theorem zkX5_init : zat 0 tkX5_init = tkX5_init_0 ∧ zat 1 tkX5_init = tkX5_init_1 ∧ zat 4 tkX5_init = tkX5_init_4 ∧ zat 7 tkX5_init = tkX5_init_7 ∧ zat 9 tkX5_init = tkX5_init_9 ∧ zat 12 tkX5_init = tkX5_init_12 := ⟨rfl, rfl, rfl, rfl, rfl, rfl⟩
theorem okX5_init : zok kX5_init.2.1 kX5_init.2.2.1 kX5_init.2.2.2.1 tkX5_init = true := by decide +kernel
def tkX5_isMissing_13 : List mE := (13, .ireturn, 1, 13, [], 0, 0, zM0) :: []
def tkX5_isMissing_12 : List mE := (12, .iconst 0, 1, 12, [], 0, 0, zM0) :: tkX5_isMissing_13
def tkX5_isMissing_0 : List mE := (0, .aload_n 0, 1, 0, [], 0, 0, zM0) ::
  (1, .getfield 15, 3, 5, [1, 0, 1222], 0, 0, zM0) ::
  (4, .iconst (-1), 1, 4, [], (-1), 0, zM0) ::
  (5, .if_icmp .ne 7, 3, 12, [], 0, 0, zM0) ::
  (8, .iconst 1, 1, 8, [], 1, 0, zM0) ::
  (9, .goto 4, 3, 13, [], 0, 0, zM0) :: tkX5_isMissing_12
def tkX5_isMissing : List mE := tkX5_isMissing_0
theorem zkX5_isMissing : zat 0 tkX5_isMissing = tkX5_isMissing_0 ∧ zat 12 tkX5_isMissing = tkX5_isMissing_12 ∧ zat 13 tkX5_isMissing = tkX5_isMissing_13 := ⟨rfl, rfl, rfl⟩
theorem okX5_isMissing : zok kX5_isMissing.2.1 kX5_isMissing.2.2.1 kX5_isMissing.2.2.2.1 tkX5_isMissing = true := by decide +kernel
def tkX5_size_0 : List mE := (0, .aload_n 0, 1, 0, [], 0, 0, zM0) ::
  (1, .getfield 28, 3, 5, [2, 0, 1223], 0, 0, zM0) ::
  (4, .ireturn, 1, 4, [], 0, 0, zM0) :: []
def tkX5_size : List mE := tkX5_size_0
theorem zkX5_size : zat 0 tkX5_size = tkX5_size_0 := rfl
theorem okX5_size : zok kX5_size.2.1 kX5_size.2.2.1 kX5_size.2.2.2.1 tkX5_size = true := by decide +kernel
def tkX5_item_19 : List mE := (19, .ireturn, 1, 19, [], 0, 0, zM0) :: []
def tkX5_item_18 : List mE := (18, .iconst 0, 1, 18, [], 0, 0, zM0) :: tkX5_item_19
def tkX5_item_0 : List mE := (0, .aload_n 0, 1, 0, [], 0, 0, zM0) ::
  (1, .iload_n 1, 1, 1, [], 0, 0, zM0) ::
  (2, .iconst 1, 1, 2, [], 1, 0, zM0) ::
  (3, .invokevirtual 31, 3, 5, [3236, 2, 1], 0, 0, kX5_hasItems) ::
  (6, .ifCond .eq 12, 3, 18, [], 0, 0, zM0) ::
  (9, .aload_n 0, 1, 0, [], 0, 0, zM0) ::
  (10, .getfield 9, 3, 5, [0, 2, 1221], 0, 0, zM0) ::
  (13, .iload_n 1, 1, 1, [], 0, 0, zM0) ::
  (14, .iaload, 1, 0, [], 0, 0, zM0) ::
  (15, .goto 4, 3, 19, [], 0, 0, zM0) :: tkX5_item_18
def tkX5_item : List mE := tkX5_item_0
theorem zkX5_item : zat 0 tkX5_item = tkX5_item_0 ∧ zat 18 tkX5_item = tkX5_item_18 ∧ zat 19 tkX5_item = tkX5_item_19 := ⟨rfl, rfl, rfl⟩
theorem okX5_item : zok kX5_item.2.1 kX5_item.2.2.1 kX5_item.2.2.2.1 tkX5_item = true := by decide +kernel
def tkX5_hasItems_23 : List mE := (23, .ireturn, 1, 23, [], 0, 0, zM0) :: []
def tkX5_hasItems_22 : List mE := (22, .iconst 0, 1, 22, [], 0, 0, zM0) :: tkX5_hasItems_23
def tkX5_hasItems_0 : List mE := (0, .iload_n 1, 1, 1, [], 0, 0, zM0) ::
  (1, .ifCond .lt 21, 3, 22, [], 0, 0, zM0) ::
  (4, .iload_n 2, 1, 2, [], 0, 0, zM0) ::
  (5, .ifCond .lt 17, 3, 22, [], 0, 0, zM0) ::
  (8, .iload_n 1, 1, 1, [], 0, 0, zM0) ::
  (9, .aload_n 0, 1, 0, [], 0, 0, zM0) ::
  (10, .getfield 28, 3, 5, [2, 0, 1223], 0, 0, zM0) ::
  (13, .iload_n 2, 1, 2, [], 0, 0, zM0) ::
  (14, .isub, 1, 14, [], 0, 0, zM0) ::
  (15, .if_icmp .gt 7, 3, 22, [], 0, 0, zM0) ::
  (18, .iconst 1, 1, 18, [], 1, 0, zM0) ::
  (19, .goto 4, 3, 23, [], 0, 0, zM0) :: tkX5_hasItems_22
def tkX5_hasItems : List mE := tkX5_hasItems_0
theorem zkX5_hasItems : zat 0 tkX5_hasItems = tkX5_hasItems_0 ∧ zat 22 tkX5_hasItems = tkX5_hasItems_22 ∧ zat 23 tkX5_hasItems = tkX5_hasItems_23 := ⟨rfl, rfl, rfl⟩
theorem okX5_hasItems : zok kX5_hasItems.2.1 kX5_hasItems.2.2.1 kX5_hasItems.2.2.2.1 tkX5_hasItems = true := by decide +kernel
def tkX5_become_43 : List mE := (43, .return_, 1, 43, [], 0, 0, zM0) :: []
def tkX5_become_21 : List mE := (21, .iload_n 3, 1, 3, [], 0, 0, zM0) ::
  (22, .aload_n 0, 1, 0, [], 0, 0, zM0) ::
  (23, .getfield 9, 3, 5, [0, 2, 1221], 0, 0, zM0) ::
  (26, .arraylength, 1, 0, [], 0, 0, zM0) ::
  (27, .if_icmp .ge 16, 3, 43, [], 0, 0, zM0) ::
  (30, .aload_n 0, 1, 0, [], 0, 0, zM0) ::
  (31, .getfield 9, 3, 5, [0, 2, 1221], 0, 0, zM0) ::
  (34, .iload_n 3, 1, 3, [], 0, 0, zM0) ::
  (35, .iconst 0, 1, 35, [], 0, 0, zM0) ::
  (36, .iastore, 1, 36, [], 0, 0, zM0) ::
  (37, .iinc 3 1, 3, 3, [], 1, 0, zM0) ::
  (40, .goto (-19), 3, 21, [], 0, 0, zM0) :: tkX5_become_43
def tkX5_become_0 : List mE := (0, .aload_n 0, 1, 0, [], 0, 0, zM0) ::
  (1, .iload_n 1, 1, 1, [], 0, 0, zM0) ::
  (2, .putfield 15, 3, 5, [1, 0, 1222], 0, 0, zM0) ::
  (5, .aload_n 0, 1, 0, [], 0, 0, zM0) ::
  (6, .iconst 0, 1, 6, [], 0, 0, zM0) ::
  (7, .bipush 40, 2, 7, [], 40, 0, zM0) ::
  (9, .iload_n 2, 1, 2, [], 0, 0, zM0) ::
  (10, .invokestatic 19, 3, 6, [4184], 0, 0, zM0) ::
  (13, .invokestatic 25, 3, 7, [4185], 0, 0, zM0) ::
  (16, .putfield 28, 3, 5, [2, 0, 1223], 0, 0, zM0) ::
  (19, .iconst 0, 1, 19, [], 0, 0, zM0) ::
  (20, .istore_n 3, 1, 3, [], 0, 0, zM0) :: tkX5_become_21
def tkX5_become : List mE := tkX5_become_0
theorem zkX5_become : zat 0 tkX5_become = tkX5_become_0 ∧ zat 21 tkX5_become = tkX5_become_21 ∧ zat 43 tkX5_become = tkX5_become_43 := ⟨rfl, rfl, rfl⟩
theorem okX5_become : zok kX5_become.2.1 kX5_become.2.2.1 kX5_become.2.2.2.1 tkX5_become = true := by decide +kernel
def tkX5_write_54 : List mE := (54, .return_, 1, 54, [], 0, 0, zM0) :: []
def tkX5_write_47 : List mE := (47, .aload_n 0, 1, 0, [], 0, 0, zM0) ::
  (48, .getfield 9, 3, 5, [0, 2, 1221], 0, 0, zM0) ::
  (51, .iload_n 1, 1, 1, [], 0, 0, zM0) ::
  (52, .iload_n 2, 1, 2, [], 0, 0, zM0) ::
  (53, .iastore, 1, 53, [], 0, 0, zM0) :: tkX5_write_54
def tkX5_write_28 : List mE := (28, .aload_n 0, 1, 0, [], 0, 0, zM0) ::
  (29, .getfield 15, 3, 5, [1, 0, 1222], 0, 0, zM0) ::
  (32, .iconst 1, 1, 32, [], 1, 0, zM0) ::
  (33, .if_icmp .ne 14, 3, 47, [], 0, 0, zM0) ::
  (36, .aload_n 0, 1, 0, [], 0, 0, zM0) ::
  (37, .getfield 9, 3, 5, [0, 2, 1221], 0, 0, zM0) ::
  (40, .iload_n 1, 1, 1, [], 0, 0, zM0) ::
  (41, .iload_n 2, 1, 2, [], 0, 0, zM0) ::
  (42, .i2s, 1, 42, [], 0, 0, zM0) ::
  (43, .iastore, 1, 43, [], 0, 0, zM0) ::
  (44, .goto 10, 3, 54, [], 0, 0, zM0) :: tkX5_write_47
def tkX5_write_10 : List mE := (10, .aload_n 0, 1, 0, [], 0, 0, zM0) ::
  (11, .getfield 15, 3, 5, [1, 0, 1222], 0, 0, zM0) ::
  (14, .ifCond .ne 14, 3, 28, [], 0, 0, zM0) ::
  (17, .aload_n 0, 1, 0, [], 0, 0, zM0) ::
  (18, .getfield 9, 3, 5, [0, 2, 1221], 0, 0, zM0) ::
  (21, .iload_n 1, 1, 1, [], 0, 0, zM0) ::
  (22, .iload_n 2, 1, 2, [], 0, 0, zM0) ::
  (23, .i2b, 1, 23, [], 0, 0, zM0) ::
  (24, .iastore, 1, 24, [], 0, 0, zM0) ::
  (25, .goto 29, 3, 54, [], 0, 0, zM0) :: tkX5_write_28
def tkX5_write_0 : List mE := (0, .aload_n 0, 1, 0, [], 0, 0, zM0) ::
  (1, .iload_n 1, 1, 1, [], 0, 0, zM0) ::
  (2, .iconst 1, 1, 2, [], 1, 0, zM0) ::
  (3, .invokevirtual 31, 3, 5, [3236, 2, 1], 0, 0, kX5_hasItems) ::
  (6, .ifCond .ne 4, 3, 10, [], 0, 0, zM0) ::
  (9, .return_, 1, 9, [], 0, 0, zM0) :: tkX5_write_10
def tkX5_write : List mE := tkX5_write_0
theorem zkX5_write : zat 0 tkX5_write = tkX5_write_0 ∧ zat 10 tkX5_write = tkX5_write_10 ∧ zat 28 tkX5_write = tkX5_write_28 ∧ zat 47 tkX5_write = tkX5_write_47 ∧ zat 54 tkX5_write = tkX5_write_54 := ⟨rfl, rfl, rfl, rfl, rfl⟩
theorem okX5_write : zok kX5_write.2.1 kX5_write.2.2.1 kX5_write.2.2.2.1 tkX5_write = true := by decide +kernel
def tkX5_sort_0 : List mE := (0, .aload_n 0, 1, 0, [], 0, 0, zM0) ::
  (1, .getfield 15, 3, 5, [1, 0, 1222], 0, 0, zM0) ::
  (4, .ireturn, 1, 4, [], 0, 0, zM0) :: []
def tkX5_sort : List mE := tkX5_sort_0
theorem zkX5_sort : zat 0 tkX5_sort = tkX5_sort_0 := rfl
theorem okX5_sort : zok kX5_sort.2.1 kX5_sort.2.2.1 kX5_sort.2.2.2.1 tkX5_sort = true := by decide +kernel
def tkX5_copyTo_35 : List mE := (35, .return_, 1, 35, [], 0, 0, zM0) :: []
def tkX5_copyTo_0 : List mE := (0, .aload_n 0, 1, 0, [], 0, 0, zM0) ::
  (1, .iload_n 1, 1, 1, [], 0, 0, zM0) ::
  (2, .iload 4, 2, 4, [], 0, 0, zM0) ::
  (4, .invokevirtual 31, 3, 5, [3236, 2, 1], 0, 0, kX5_hasItems) ::
  (7, .ifCond .eq 28, 3, 35, [], 0, 0, zM0) ::
  (10, .aload_n 2, 1, 2, [], 0, 0, zM0) ::
  (11, .iload_n 3, 1, 3, [], 0, 0, zM0) ::
  (12, .iload 4, 2, 4, [], 0, 0, zM0) ::
  (14, .invokevirtual 31, 3, 5, [3236, 2, 1], 0, 0, kX5_hasItems) ::
  (17, .ifCond .eq 18, 3, 35, [], 0, 0, zM0) ::
  (20, .aload_n 0, 1, 0, [], 0, 0, zM0) ::
  (21, .getfield 9, 3, 5, [0, 2, 1221], 0, 0, zM0) ::
  (24, .iload_n 1, 1, 1, [], 0, 0, zM0) ::
  (25, .aload_n 2, 1, 2, [], 0, 0, zM0) ::
  (26, .getfield 9, 3, 5, [0, 2, 1221], 0, 0, zM0) ::
  (29, .iload_n 3, 1, 3, [], 0, 0, zM0) ::
  (30, .iload 4, 2, 4, [], 0, 0, zM0) ::
  (32, .invokestatic 35, 3, 9, [5012], 0, 0, zM0) :: tkX5_copyTo_35
def tkX5_copyTo : List mE := tkX5_copyTo_0
theorem zkX5_copyTo : zat 0 tkX5_copyTo = tkX5_copyTo_0 ∧ zat 35 tkX5_copyTo = tkX5_copyTo_35 := ⟨rfl, rfl⟩
theorem okX5_copyTo : zok kX5_copyTo.2.1 kX5_copyTo.2.2.1 kX5_copyTo.2.2.2.1 tkX5_copyTo = true := by decide +kernel
def tkX6_init_20 : List mE := (20, .return_, 1, 20, [], 0, 0, zM0) :: []
def tkX6_init_17 : List mE := (17, .putfield 15, 3, 17, [], 0, 0, zM0) :: tkX6_init_20
def tkX6_init_15 : List mE := (15, .newarray .int, 2, 15, [], 0, 0, zM0) :: tkX6_init_17
def tkX6_init_12 : List mE := (12, .aload_n 0, 1, 0, [], 0, 0, zM0) ::
  (13, .bipush 10, 2, 13, [], 10, 0, zM0) :: tkX6_init_15
def tkX6_init_9 : List mE := (9, .putfield 9, 3, 9, [], 0, 0, zM0) :: tkX6_init_12
def tkX6_init_7 : List mE := (7, .newarray .int, 2, 7, [], 0, 0, zM0) :: tkX6_init_9
def tkX6_init_4 : List mE := (4, .aload_n 0, 1, 0, [], 0, 0, zM0) ::
  (5, .bipush 10, 2, 5, [], 10, 0, zM0) :: tkX6_init_7
def tkX6_init_1 : List mE := (1, .invokespecial 3, 3, 1, [], 0, 0, zM0) :: tkX6_init_4
def tkX6_init_0 : List mE := (0, .aload_n 0, 1, 0, [], 0, 0, zM0) :: tkX6_init_1
def tkX6_init : List mE := tkX6_init_0
theorem zkX6_init : zat 0 tkX6_init = tkX6_init_0 ∧ zat 1 tkX6_init = tkX6_init_1 ∧ zat 4 tkX6_init = tkX6_init_4 ∧ zat 7 tkX6_init = tkX6_init_7 ∧ zat 9 tkX6_init = tkX6_init_9 ∧ zat 12 tkX6_init = tkX6_init_12 ∧ zat 15 tkX6_init = tkX6_init_15 ∧ zat 17 tkX6_init = tkX6_init_17 ∧ zat 20 tkX6_init = tkX6_init_20 := ⟨rfl, rfl, rfl, rfl, rfl, rfl, rfl, rfl, rfl⟩
theorem okX6_init : zok kX6_init.2.1 kX6_init.2.2.1 kX6_init.2.2.2.1 tkX6_init = true := by decide +kernel
def tkX6_struckBy_20 : List mE := (20, .ireturn, 1, 20, [], 0, 0, zM0) :: []
def tkX6_struckBy_19 : List mE := (19, .iconst 0, 1, 19, [], 0, 0, zM0) :: tkX6_struckBy_20
def tkX6_struckBy_0 : List mE := (0, .iload_n 1, 1, 1, [], 0, 0, zM0) ::
  (1, .ifCond .lt 18, 3, 19, [], 0, 0, zM0) ::
  (4, .iload_n 1, 1, 1, [], 0, 0, zM0) ::
  (5, .bipush 10, 2, 5, [], 10, 0, zM0) ::
  (7, .if_icmp .ge 12, 3, 19, [], 0, 0, zM0) ::
  (10, .aload_n 0, 1, 0, [], 0, 0, zM0) ::
  (11, .getfield 9, 3, 6, [0, 2, 1035], 0, 0, zM0) ::
  (14, .iload_n 1, 1, 1, [], 0, 0, zM0) ::
  (15, .iaload, 1, 0, [], 0, 0, zM0) ::
  (16, .goto 4, 3, 20, [], 0, 0, zM0) :: tkX6_struckBy_19
def tkX6_struckBy : List mE := tkX6_struckBy_0
theorem zkX6_struckBy : zat 0 tkX6_struckBy = tkX6_struckBy_0 ∧ zat 19 tkX6_struckBy = tkX6_struckBy_19 ∧ zat 20 tkX6_struckBy = tkX6_struckBy_20 := ⟨rfl, rfl, rfl⟩
theorem okX6_struckBy : zok kX6_struckBy.2.1 kX6_struckBy.2.2.1 kX6_struckBy.2.2.2.1 tkX6_struckBy = true := by decide +kernel
def tkX6_change_74 : List mE := (74, .return_, 1, 74, [], 0, 0, zM0) :: []
def tkX6_change_46 : List mE := (46, .aload_n 0, 1, 0, [], 0, 0, zM0) ::
  (47, .getfield 9, 3, 6, [0, 2, 1035], 0, 0, zM0) ::
  (50, .iload_n 1, 1, 1, [], 0, 0, zM0) ::
  (51, .dup2, 1, 51, [], 0, 0, zM0) ::
  (52, .iaload, 1, 0, [], 0, 0, zM0) ::
  (53, .iconst 1, 1, 53, [], 1, 0, zM0) ::
  (54, .iload_n 2, 1, 2, [], 0, 0, zM0) ::
  (55, .ishl, 1, 55, [], 0, 0, zM0) ::
  (56, .iconst (-1), 1, 56, [], (-1), 0, zM0) ::
  (57, .ixor, 1, 57, [], 0, 0, zM0) ::
  (58, .iand, 1, 58, [], 0, 0, zM0) ::
  (59, .iastore, 1, 59, [], 0, 0, zM0) ::
  (60, .aload_n 0, 1, 0, [], 0, 0, zM0) ::
  (61, .getfield 15, 3, 6, [1, 2, 1036], 0, 0, zM0) ::
  (64, .iload_n 2, 1, 2, [], 0, 0, zM0) ::
  (65, .dup2, 1, 65, [], 0, 0, zM0) ::
  (66, .iaload, 1, 0, [], 0, 0, zM0) ::
  (67, .iconst 1, 1, 67, [], 1, 0, zM0) ::
  (68, .iload_n 1, 1, 1, [], 0, 0, zM0) ::
  (69, .ishl, 1, 69, [], 0, 0, zM0) ::
  (70, .iconst (-1), 1, 70, [], (-1), 0, zM0) ::
  (71, .ixor, 1, 71, [], 0, 0, zM0) ::
  (72, .iand, 1, 72, [], 0, 0, zM0) ::
  (73, .iastore, 1, 73, [], 0, 0, zM0) :: tkX6_change_74
def tkX6_change_15 : List mE := (15, .iload_n 3, 1, 3, [], 0, 0, zM0) ::
  (16, .ifCond .eq 30, 3, 46, [], 0, 0, zM0) ::
  (19, .aload_n 0, 1, 0, [], 0, 0, zM0) ::
  (20, .getfield 9, 3, 6, [0, 2, 1035], 0, 0, zM0) ::
  (23, .iload_n 1, 1, 1, [], 0, 0, zM0) ::
  (24, .dup2, 1, 24, [], 0, 0, zM0) ::
  (25, .iaload, 1, 0, [], 0, 0, zM0) ::
  (26, .iconst 1, 1, 26, [], 1, 0, zM0) ::
  (27, .iload_n 2, 1, 2, [], 0, 0, zM0) ::
  (28, .ishl, 1, 28, [], 0, 0, zM0) ::
  (29, .ior, 1, 29, [], 0, 0, zM0) ::
  (30, .iastore, 1, 30, [], 0, 0, zM0) ::
  (31, .aload_n 0, 1, 0, [], 0, 0, zM0) ::
  (32, .getfield 15, 3, 6, [1, 2, 1036], 0, 0, zM0) ::
  (35, .iload_n 2, 1, 2, [], 0, 0, zM0) ::
  (36, .dup2, 1, 36, [], 0, 0, zM0) ::
  (37, .iaload, 1, 0, [], 0, 0, zM0) ::
  (38, .iconst 1, 1, 38, [], 1, 0, zM0) ::
  (39, .iload_n 1, 1, 1, [], 0, 0, zM0) ::
  (40, .ishl, 1, 40, [], 0, 0, zM0) ::
  (41, .ior, 1, 41, [], 0, 0, zM0) ::
  (42, .iastore, 1, 42, [], 0, 0, zM0) ::
  (43, .goto 31, 3, 74, [], 0, 0, zM0) :: tkX6_change_46
def tkX6_change_14 : List mE := (14, .return_, 1, 14, [], 0, 0, zM0) :: tkX6_change_15
def tkX6_change_0 : List mE := (0, .iload_n 1, 1, 1, [], 0, 0, zM0) ::
  (1, .invokestatic 18, 3, 8, [0, 1, 1], 0, 0, kX10_isArgument) ::
  (4, .ifCond .eq 10, 3, 14, [], 0, 0, zM0) ::
  (7, .iload_n 2, 1, 2, [], 0, 0, zM0) ::
  (8, .invokestatic 18, 3, 8, [0, 1, 1], 0, 0, kX10_isArgument) ::
  (11, .ifCond .ne 4, 3, 15, [], 0, 0, zM0) :: tkX6_change_14
def tkX6_change : List mE := tkX6_change_0
theorem zkX6_change : zat 0 tkX6_change = tkX6_change_0 ∧ zat 14 tkX6_change = tkX6_change_14 ∧ zat 15 tkX6_change = tkX6_change_15 ∧ zat 46 tkX6_change = tkX6_change_46 ∧ zat 74 tkX6_change = tkX6_change_74 := ⟨rfl, rfl, rfl, rfl, rfl⟩
theorem okX6_change : zok kX6_change.2.1 kX6_change.2.2.1 kX6_change.2.2.2.1 tkX6_change = true := by decide +kernel
def tkX6_strikersOf_20 : List mE := (20, .ireturn, 1, 20, [], 0, 0, zM0) :: []
def tkX6_strikersOf_19 : List mE := (19, .iconst 0, 1, 19, [], 0, 0, zM0) :: tkX6_strikersOf_20
def tkX6_strikersOf_0 : List mE := (0, .iload_n 1, 1, 1, [], 0, 0, zM0) ::
  (1, .ifCond .lt 18, 3, 19, [], 0, 0, zM0) ::
  (4, .iload_n 1, 1, 1, [], 0, 0, zM0) ::
  (5, .bipush 10, 2, 5, [], 10, 0, zM0) ::
  (7, .if_icmp .ge 12, 3, 19, [], 0, 0, zM0) ::
  (10, .aload_n 0, 1, 0, [], 0, 0, zM0) ::
  (11, .getfield 15, 3, 6, [1, 2, 1036], 0, 0, zM0) ::
  (14, .iload_n 1, 1, 1, [], 0, 0, zM0) ::
  (15, .iaload, 1, 0, [], 0, 0, zM0) ::
  (16, .goto 4, 3, 20, [], 0, 0, zM0) :: tkX6_strikersOf_19
def tkX6_strikersOf : List mE := tkX6_strikersOf_0
theorem zkX6_strikersOf : zat 0 tkX6_strikersOf = tkX6_strikersOf_0 ∧ zat 19 tkX6_strikersOf = tkX6_strikersOf_19 ∧ zat 20 tkX6_strikersOf = tkX6_strikersOf_20 := ⟨rfl, rfl, rfl⟩
theorem okX6_strikersOf : zok kX6_strikersOf.2.1 kX6_strikersOf.2.2.1 kX6_strikersOf.2.2.2.1 tkX6_strikersOf = true := by decide +kernel
def tkX6_standing_22 : List mE := (22, .iload_n 1, 1, 1, [], 0, 0, zM0) ::
  (23, .ireturn, 1, 23, [], 0, 0, zM0) :: []
def tkX6_standing_4 : List mE := (4, .iload_n 2, 1, 2, [], 0, 0, zM0) ::
  (5, .bipush 10, 2, 5, [], 10, 0, zM0) ::
  (7, .if_icmp .ge 15, 3, 22, [], 0, 0, zM0) ::
  (10, .aload_n 0, 1, 0, [], 0, 0, zM0) ::
  (11, .iload_n 1, 1, 1, [], 0, 0, zM0) ::
  (12, .invokevirtual 36, 3, 6, [4028, 1, 1], 0, 0, kX6_defendedBy) ::
  (15, .istore_n 1, 1, 1, [], 0, 0, zM0) ::
  (16, .iinc 2 1, 3, 2, [], 1, 0, zM0) ::
  (19, .goto (-15), 3, 4, [], 0, 0, zM0) :: tkX6_standing_22
def tkX6_standing_0 : List mE := (0, .iconst 0, 1, 0, [], 0, 0, zM0) ::
  (1, .istore_n 1, 1, 1, [], 0, 0, zM0) ::
  (2, .iconst 0, 1, 2, [], 0, 0, zM0) ::
  (3, .istore_n 2, 1, 2, [], 0, 0, zM0) :: tkX6_standing_4
def tkX6_standing : List mE := tkX6_standing_0
theorem zkX6_standing : zat 0 tkX6_standing = tkX6_standing_0 ∧ zat 4 tkX6_standing = tkX6_standing_4 ∧ zat 22 tkX6_standing = tkX6_standing_22 := ⟨rfl, rfl, rfl⟩
theorem okX6_standing : zok kX6_standing.2.1 kX6_standing.2.2.1 kX6_standing.2.2.2.1 tkX6_standing = true := by decide +kernel
def tkX6_defendedBy_45 : List mE := (45, .iload_n 3, 1, 3, [], 0, 0, zM0) ::
  (46, .ireturn, 1, 46, [], 0, 0, zM0) :: []
def tkX6_defendedBy_39 : List mE := (39, .iinc 4 1, 3, 4, [], 1, 0, zM0) ::
  (42, .goto (-31), 3, 11, [], 0, 0, zM0) :: tkX6_defendedBy_45
def tkX6_defendedBy_11 : List mE := (11, .iload 4, 2, 4, [], 0, 0, zM0) ::
  (13, .bipush 10, 2, 13, [], 10, 0, zM0) ::
  (15, .if_icmp .ge 30, 3, 45, [], 0, 0, zM0) ::
  (18, .aload_n 0, 1, 0, [], 0, 0, zM0) ::
  (19, .getfield 15, 3, 6, [1, 2, 1036], 0, 0, zM0) ::
  (22, .iload 4, 2, 4, [], 0, 0, zM0) ::
  (24, .iaload, 1, 0, [], 0, 0, zM0) ::
  (25, .iload_n 2, 1, 2, [], 0, 0, zM0) ::
  (26, .iconst (-1), 1, 26, [], (-1), 0, zM0) ::
  (27, .ixor, 1, 27, [], 0, 0, zM0) ::
  (28, .iand, 1, 28, [], 0, 0, zM0) ::
  (29, .ifCond .ne 10, 3, 39, [], 0, 0, zM0) ::
  (32, .iload_n 3, 1, 3, [], 0, 0, zM0) ::
  (33, .iconst 1, 1, 33, [], 1, 0, zM0) ::
  (34, .iload 4, 2, 4, [], 0, 0, zM0) ::
  (36, .ishl, 1, 36, [], 0, 0, zM0) ::
  (37, .ior, 1, 37, [], 0, 0, zM0) ::
  (38, .istore_n 3, 1, 3, [], 0, 0, zM0) :: tkX6_defendedBy_39
def tkX6_defendedBy_0 : List mE := (0, .aload_n 0, 1, 0, [], 0, 0, zM0) ::
  (1, .iload_n 1, 1, 1, [], 0, 0, zM0) ::
  (2, .invokevirtual 32, 3, 6, [4032, 1, 1], 0, 0, kX6_struckByAll) ::
  (5, .istore_n 2, 1, 2, [], 0, 0, zM0) ::
  (6, .iconst 0, 1, 6, [], 0, 0, zM0) ::
  (7, .istore_n 3, 1, 3, [], 0, 0, zM0) ::
  (8, .iconst 0, 1, 8, [], 0, 0, zM0) ::
  (9, .istore 4, 2, 4, [], 0, 0, zM0) :: tkX6_defendedBy_11
def tkX6_defendedBy : List mE := tkX6_defendedBy_0
theorem zkX6_defendedBy : zat 0 tkX6_defendedBy = tkX6_defendedBy_0 ∧ zat 11 tkX6_defendedBy = tkX6_defendedBy_11 ∧ zat 39 tkX6_defendedBy = tkX6_defendedBy_39 ∧ zat 45 tkX6_defendedBy = tkX6_defendedBy_45 := ⟨rfl, rfl, rfl, rfl⟩
theorem okX6_defendedBy : zok kX6_defendedBy.2.1 kX6_defendedBy.2.2.1 kX6_defendedBy.2.2.2.1 tkX6_defendedBy = true := by decide +kernel
def tkX6_struckByAll_33 : List mE := (33, .iload_n 2, 1, 2, [], 0, 0, zM0) ::
  (34, .ireturn, 1, 34, [], 0, 0, zM0) :: []
def tkX6_struckByAll_27 : List mE := (27, .iinc 3 1, 3, 3, [], 1, 0, zM0) ::
  (30, .goto (-26), 3, 4, [], 0, 0, zM0) :: tkX6_struckByAll_33
def tkX6_struckByAll_4 : List mE := (4, .iload_n 3, 1, 3, [], 0, 0, zM0) ::
  (5, .bipush 10, 2, 5, [], 10, 0, zM0) ::
  (7, .if_icmp .ge 26, 3, 33, [], 0, 0, zM0) ::
  (10, .iload_n 1, 1, 1, [], 0, 0, zM0) ::
  (11, .iload_n 3, 1, 3, [], 0, 0, zM0) ::
  (12, .invokestatic 28, 3, 8, [0, 2, 1], 0, 0, kX10_has) ::
  (15, .ifCond .eq 12, 3, 27, [], 0, 0, zM0) ::
  (18, .iload_n 2, 1, 2, [], 0, 0, zM0) ::
  (19, .aload_n 0, 1, 0, [], 0, 0, zM0) ::
  (20, .getfield 9, 3, 6, [0, 2, 1035], 0, 0, zM0) ::
  (23, .iload_n 3, 1, 3, [], 0, 0, zM0) ::
  (24, .iaload, 1, 0, [], 0, 0, zM0) ::
  (25, .ior, 1, 25, [], 0, 0, zM0) ::
  (26, .istore_n 2, 1, 2, [], 0, 0, zM0) :: tkX6_struckByAll_27
def tkX6_struckByAll_0 : List mE := (0, .iconst 0, 1, 0, [], 0, 0, zM0) ::
  (1, .istore_n 2, 1, 2, [], 0, 0, zM0) ::
  (2, .iconst 0, 1, 2, [], 0, 0, zM0) ::
  (3, .istore_n 3, 1, 3, [], 0, 0, zM0) :: tkX6_struckByAll_4
def tkX6_struckByAll : List mE := tkX6_struckByAll_0
theorem zkX6_struckByAll : zat 0 tkX6_struckByAll = tkX6_struckByAll_0 ∧ zat 4 tkX6_struckByAll = tkX6_struckByAll_4 ∧ zat 27 tkX6_struckByAll = tkX6_struckByAll_27 ∧ zat 33 tkX6_struckByAll = tkX6_struckByAll_33 := ⟨rfl, rfl, rfl, rfl⟩
theorem okX6_struckByAll : zok kX6_struckByAll.2.1 kX6_struckByAll.2.2.1 kX6_struckByAll.2.2.2.1 tkX6_struckByAll = true := by decide +kernel
def tkX6_freeSets_28 : List mE := (28, .iload_n 1, 1, 1, [], 0, 0, zM0) ::
  (29, .ireturn, 1, 29, [], 0, 0, zM0) :: []
def tkX6_freeSets_22 : List mE := (22, .iinc 2 1, 3, 2, [], 1, 0, zM0) ::
  (25, .goto (-21), 3, 4, [], 0, 0, zM0) :: tkX6_freeSets_28
def tkX6_freeSets_4 : List mE := (4, .iload_n 2, 1, 2, [], 0, 0, zM0) ::
  (5, .sipush 1023, 3, 5, [], 1023, 0, zM0) ::
  (8, .if_icmp .gt 20, 3, 28, [], 0, 0, zM0) ::
  (11, .aload_n 0, 1, 0, [], 0, 0, zM0) ::
  (12, .iload_n 2, 1, 2, [], 0, 0, zM0) ::
  (13, .invokevirtual 39, 3, 6, [4042, 1, 1], 0, 0, kX6_isFree) ::
  (16, .ifCond .eq 6, 3, 22, [], 0, 0, zM0) ::
  (19, .iinc 1 1, 3, 1, [], 1, 0, zM0) :: tkX6_freeSets_22
def tkX6_freeSets_0 : List mE := (0, .iconst 0, 1, 0, [], 0, 0, zM0) ::
  (1, .istore_n 1, 1, 1, [], 0, 0, zM0) ::
  (2, .iconst 0, 1, 2, [], 0, 0, zM0) ::
  (3, .istore_n 2, 1, 2, [], 0, 0, zM0) :: tkX6_freeSets_4
def tkX6_freeSets : List mE := tkX6_freeSets_0
theorem zkX6_freeSets : zat 0 tkX6_freeSets = tkX6_freeSets_0 ∧ zat 4 tkX6_freeSets = tkX6_freeSets_4 ∧ zat 22 tkX6_freeSets = tkX6_freeSets_22 ∧ zat 28 tkX6_freeSets = tkX6_freeSets_28 := ⟨rfl, rfl, rfl, rfl⟩
theorem okX6_freeSets : zok kX6_freeSets.2.1 kX6_freeSets.2.2.1 kX6_freeSets.2.2.2.1 tkX6_freeSets = true := by decide +kernel
def tkX6_isFree_15 : List mE := (15, .ireturn, 1, 15, [], 0, 0, zM0) :: []
def tkX6_isFree_14 : List mE := (14, .iconst 0, 1, 14, [], 0, 0, zM0) :: tkX6_isFree_15
def tkX6_isFree_0 : List mE := (0, .aload_n 0, 1, 0, [], 0, 0, zM0) ::
  (1, .iload_n 1, 1, 1, [], 0, 0, zM0) ::
  (2, .invokevirtual 32, 3, 6, [4032, 1, 1], 0, 0, kX6_struckByAll) ::
  (5, .iload_n 1, 1, 1, [], 0, 0, zM0) ::
  (6, .iand, 1, 6, [], 0, 0, zM0) ::
  (7, .ifCond .ne 7, 3, 14, [], 0, 0, zM0) ::
  (10, .iconst 1, 1, 10, [], 1, 0, zM0) ::
  (11, .goto 4, 3, 15, [], 0, 0, zM0) :: tkX6_isFree_14
def tkX6_isFree : List mE := tkX6_isFree_0
theorem zkX6_isFree : zat 0 tkX6_isFree = tkX6_isFree_0 ∧ zat 14 tkX6_isFree = tkX6_isFree_14 ∧ zat 15 tkX6_isFree = tkX6_isFree_15 := ⟨rfl, rfl, rfl⟩
theorem okX6_isFree : zok kX6_isFree.2.1 kX6_isFree.2.2.1 kX6_isFree.2.2.2.1 tkX6_isFree = true := by decide +kernel
def tkX6_stableSets_28 : List mE := (28, .iload_n 1, 1, 1, [], 0, 0, zM0) ::
  (29, .ireturn, 1, 29, [], 0, 0, zM0) :: []
def tkX6_stableSets_22 : List mE := (22, .iinc 2 1, 3, 2, [], 1, 0, zM0) ::
  (25, .goto (-21), 3, 4, [], 0, 0, zM0) :: tkX6_stableSets_28
def tkX6_stableSets_4 : List mE := (4, .iload_n 2, 1, 2, [], 0, 0, zM0) ::
  (5, .sipush 1023, 3, 5, [], 1023, 0, zM0) ::
  (8, .if_icmp .gt 20, 3, 28, [], 0, 0, zM0) ::
  (11, .aload_n 0, 1, 0, [], 0, 0, zM0) ::
  (12, .iload_n 2, 1, 2, [], 0, 0, zM0) ::
  (13, .invokevirtual 42, 3, 6, [4050, 1, 1], 0, 0, kX6_isStable) ::
  (16, .ifCond .eq 6, 3, 22, [], 0, 0, zM0) ::
  (19, .iinc 1 1, 3, 1, [], 1, 0, zM0) :: tkX6_stableSets_22
def tkX6_stableSets_0 : List mE := (0, .iconst 0, 1, 0, [], 0, 0, zM0) ::
  (1, .istore_n 1, 1, 1, [], 0, 0, zM0) ::
  (2, .iconst 0, 1, 2, [], 0, 0, zM0) ::
  (3, .istore_n 2, 1, 2, [], 0, 0, zM0) :: tkX6_stableSets_4
def tkX6_stableSets : List mE := tkX6_stableSets_0
theorem zkX6_stableSets : zat 0 tkX6_stableSets = tkX6_stableSets_0 ∧ zat 4 tkX6_stableSets = tkX6_stableSets_4 ∧ zat 22 tkX6_stableSets = tkX6_stableSets_22 ∧ zat 28 tkX6_stableSets = tkX6_stableSets_28 := ⟨rfl, rfl, rfl, rfl⟩
theorem okX6_stableSets : zok kX6_stableSets.2.1 kX6_stableSets.2.2.1 kX6_stableSets.2.2.2.1 tkX6_stableSets = true := by decide +kernel
def tkX6_isStable_26 : List mE := (26, .ireturn, 1, 26, [], 0, 0, zM0) :: []
def tkX6_isStable_25 : List mE := (25, .iconst 0, 1, 25, [], 0, 0, zM0) :: tkX6_isStable_26
def tkX6_isStable_0 : List mE := (0, .aload_n 0, 1, 0, [], 0, 0, zM0) ::
  (1, .iload_n 1, 1, 1, [], 0, 0, zM0) ::
  (2, .invokevirtual 39, 3, 6, [4042, 1, 1], 0, 0, kX6_isFree) ::
  (5, .ifCond .eq 20, 3, 25, [], 0, 0, zM0) ::
  (8, .aload_n 0, 1, 0, [], 0, 0, zM0) ::
  (9, .iload_n 1, 1, 1, [], 0, 0, zM0) ::
  (10, .invokevirtual 32, 3, 6, [4032, 1, 1], 0, 0, kX6_struckByAll) ::
  (13, .iload_n 1, 1, 1, [], 0, 0, zM0) ::
  (14, .ior, 1, 14, [], 0, 0, zM0) ::
  (15, .sipush 1023, 3, 15, [], 1023, 0, zM0) ::
  (18, .if_icmp .ne 7, 3, 25, [], 0, 0, zM0) ::
  (21, .iconst 1, 1, 21, [], 1, 0, zM0) ::
  (22, .goto 4, 3, 26, [], 0, 0, zM0) :: tkX6_isStable_25
def tkX6_isStable : List mE := tkX6_isStable_0
theorem zkX6_isStable : zat 0 tkX6_isStable = tkX6_isStable_0 ∧ zat 25 tkX6_isStable = tkX6_isStable_25 ∧ zat 26 tkX6_isStable = tkX6_isStable_26 := ⟨rfl, rfl, rfl⟩
theorem okX6_isStable : zok kX6_isStable.2.1 kX6_isStable.2.2.1 kX6_isStable.2.2.2.1 tkX6_isStable = true := by decide +kernel
def tkX6_leastStable_25 : List mE := (25, .iconst (-1), 1, 25, [], (-1), 0, zM0) ::
  (26, .ireturn, 1, 26, [], 0, 0, zM0) :: []
def tkX6_leastStable_19 : List mE := (19, .iinc 1 1, 3, 1, [], 1, 0, zM0) ::
  (22, .goto (-20), 3, 2, [], 0, 0, zM0) :: tkX6_leastStable_25
def tkX6_leastStable_2 : List mE := (2, .iload_n 1, 1, 1, [], 0, 0, zM0) ::
  (3, .sipush 1023, 3, 3, [], 1023, 0, zM0) ::
  (6, .if_icmp .gt 19, 3, 25, [], 0, 0, zM0) ::
  (9, .aload_n 0, 1, 0, [], 0, 0, zM0) ::
  (10, .iload_n 1, 1, 1, [], 0, 0, zM0) ::
  (11, .invokevirtual 42, 3, 6, [4050, 1, 1], 0, 0, kX6_isStable) ::
  (14, .ifCond .eq 5, 3, 19, [], 0, 0, zM0) ::
  (17, .iload_n 1, 1, 1, [], 0, 0, zM0) ::
  (18, .ireturn, 1, 18, [], 0, 0, zM0) :: tkX6_leastStable_19
def tkX6_leastStable_0 : List mE := (0, .iconst 0, 1, 0, [], 0, 0, zM0) ::
  (1, .istore_n 1, 1, 1, [], 0, 0, zM0) :: tkX6_leastStable_2
def tkX6_leastStable : List mE := tkX6_leastStable_0
theorem zkX6_leastStable : zat 0 tkX6_leastStable = tkX6_leastStable_0 ∧ zat 2 tkX6_leastStable = tkX6_leastStable_2 ∧ zat 19 tkX6_leastStable = tkX6_leastStable_19 ∧ zat 25 tkX6_leastStable = tkX6_leastStable_25 := ⟨rfl, rfl, rfl, rfl⟩
theorem okX6_leastStable : zok kX6_leastStable.2.1 kX6_leastStable.2.2.1 kX6_leastStable.2.2.2.1 tkX6_leastStable = true := by decide +kernel
def tkX6_vain_60 : List mE := (60, .iload_n 2, 1, 2, [], 0, 0, zM0) ::
  (61, .ireturn, 1, 61, [], 0, 0, zM0) :: []
def tkX6_vain_44 : List mE := (44, .istore 4, 2, 4, [], 0, 0, zM0) ::
  (46, .iload_n 2, 1, 2, [], 0, 0, zM0) ::
  (47, .iload 4, 2, 4, [], 0, 0, zM0) ::
  (49, .invokestatic 45, 3, 0, [4063, 1, 1], 0, 0, kJ6_bitCount_0f7a4) ::
  (52, .iadd, 1, 52, [], 0, 0, zM0) ::
  (53, .istore_n 2, 1, 2, [], 0, 0, zM0) ::
  (54, .iinc 3 1, 3, 3, [], 1, 0, zM0) ::
  (57, .goto (-44), 3, 13, [], 0, 0, zM0) :: tkX6_vain_60
def tkX6_vain_36 : List mE := (36, .aload_n 0, 1, 0, [], 0, 0, zM0) ::
  (37, .getfield 9, 3, 6, [0, 2, 1035], 0, 0, zM0) ::
  (40, .iload_n 3, 1, 3, [], 0, 0, zM0) ::
  (41, .iaload, 1, 0, [], 0, 0, zM0) ::
  (42, .iload_n 1, 1, 1, [], 0, 0, zM0) ::
  (43, .iand, 1, 43, [], 0, 0, zM0) :: tkX6_vain_44
def tkX6_vain_13 : List mE := (13, .iload_n 3, 1, 3, [], 0, 0, zM0) ::
  (14, .bipush 10, 2, 14, [], 10, 0, zM0) ::
  (16, .if_icmp .ge 44, 3, 60, [], 0, 0, zM0) ::
  (19, .iload_n 1, 1, 1, [], 0, 0, zM0) ::
  (20, .iload_n 3, 1, 3, [], 0, 0, zM0) ::
  (21, .invokestatic 28, 3, 8, [0, 2, 1], 0, 0, kX10_has) ::
  (24, .ifCond .eq 12, 3, 36, [], 0, 0, zM0) ::
  (27, .aload_n 0, 1, 0, [], 0, 0, zM0) ::
  (28, .getfield 9, 3, 6, [0, 2, 1035], 0, 0, zM0) ::
  (31, .iload_n 3, 1, 3, [], 0, 0, zM0) ::
  (32, .iaload, 1, 0, [], 0, 0, zM0) ::
  (33, .goto 11, 3, 44, [], 0, 0, zM0) :: tkX6_vain_36
def tkX6_vain_0 : List mE := (0, .aload_n 0, 1, 0, [], 0, 0, zM0) ::
  (1, .aload_n 0, 1, 0, [], 0, 0, zM0) ::
  (2, .invokevirtual 50, 3, 6, [4062, 0, 1], 0, 0, kX6_standing) ::
  (5, .invokevirtual 32, 3, 6, [4032, 1, 1], 0, 0, kX6_struckByAll) ::
  (8, .istore_n 1, 1, 1, [], 0, 0, zM0) ::
  (9, .iconst 0, 1, 9, [], 0, 0, zM0) ::
  (10, .istore_n 2, 1, 2, [], 0, 0, zM0) ::
  (11, .iconst 0, 1, 11, [], 0, 0, zM0) ::
  (12, .istore_n 3, 1, 3, [], 0, 0, zM0) :: tkX6_vain_13
def tkX6_vain : List mE := tkX6_vain_0
theorem zkX6_vain : zat 0 tkX6_vain = tkX6_vain_0 ∧ zat 13 tkX6_vain = tkX6_vain_13 ∧ zat 36 tkX6_vain = tkX6_vain_36 ∧ zat 44 tkX6_vain = tkX6_vain_44 ∧ zat 60 tkX6_vain = tkX6_vain_60 := ⟨rfl, rfl, rfl, rfl, rfl⟩
theorem okX6_vain : zok kX6_vain.2.1 kX6_vain.2.2.1 kX6_vain.2.2.2.1 tkX6_vain = true := by decide +kernel
def tkX6_become_0 : List mE := (0, .aload_n 1, 1, 1, [], 0, 0, zM0) ::
  (1, .getfield 9, 3, 6, [0, 2, 1035], 0, 0, zM0) ::
  (4, .iconst 0, 1, 4, [], 0, 0, zM0) ::
  (5, .aload_n 0, 1, 0, [], 0, 0, zM0) ::
  (6, .getfield 9, 3, 6, [0, 2, 1035], 0, 0, zM0) ::
  (9, .iconst 0, 1, 9, [], 0, 0, zM0) ::
  (10, .bipush 10, 2, 10, [], 10, 0, zM0) ::
  (12, .invokestatic 22, 3, 9, [4211], 0, 0, zM0) ::
  (15, .aload_n 1, 1, 1, [], 0, 0, zM0) ::
  (16, .getfield 15, 3, 6, [1, 2, 1036], 0, 0, zM0) ::
  (19, .iconst 0, 1, 19, [], 0, 0, zM0) ::
  (20, .aload_n 0, 1, 0, [], 0, 0, zM0) ::
  (21, .getfield 15, 3, 6, [1, 2, 1036], 0, 0, zM0) ::
  (24, .iconst 0, 1, 24, [], 0, 0, zM0) ::
  (25, .bipush 10, 2, 25, [], 10, 0, zM0) ::
  (27, .invokestatic 22, 3, 9, [4211], 0, 0, zM0) ::
  (30, .return_, 1, 30, [], 0, 0, zM0) :: []
def tkX6_become : List mE := tkX6_become_0
theorem zkX6_become : zat 0 tkX6_become = tkX6_become_0 := rfl
theorem okX6_become : zok kX6_become.2.1 kX6_become.2.2.1 kX6_become.2.2.2.1 tkX6_become = true := by decide +kernel
def tkX6_twos_28 : List mE := (28, .iload_n 1, 1, 1, [], 0, 0, zM0) ::
  (29, .ireturn, 1, 29, [], 0, 0, zM0) :: []
def tkX6_twos_4 : List mE := (4, .iload_n 2, 1, 2, [], 0, 0, zM0) ::
  (5, .bipush 10, 2, 5, [], 10, 0, zM0) ::
  (7, .if_icmp .ge 21, 3, 28, [], 0, 0, zM0) ::
  (10, .iload_n 1, 1, 1, [], 0, 0, zM0) ::
  (11, .aload_n 0, 1, 0, [], 0, 0, zM0) ::
  (12, .getfield 9, 3, 6, [0, 2, 1035], 0, 0, zM0) ::
  (15, .iload_n 2, 1, 2, [], 0, 0, zM0) ::
  (16, .iaload, 1, 0, [], 0, 0, zM0) ::
  (17, .invokestatic 45, 3, 0, [4063, 1, 1], 0, 0, kJ6_bitCount_0f7a4) ::
  (20, .iadd, 1, 20, [], 0, 0, zM0) ::
  (21, .istore_n 1, 1, 1, [], 0, 0, zM0) ::
  (22, .iinc 2 1, 3, 2, [], 1, 0, zM0) ::
  (25, .goto (-21), 3, 4, [], 0, 0, zM0) :: tkX6_twos_28
def tkX6_twos_0 : List mE := (0, .iconst 0, 1, 0, [], 0, 0, zM0) ::
  (1, .istore_n 1, 1, 1, [], 0, 0, zM0) ::
  (2, .iconst 0, 1, 2, [], 0, 0, zM0) ::
  (3, .istore_n 2, 1, 2, [], 0, 0, zM0) :: tkX6_twos_4
def tkX6_twos : List mE := tkX6_twos_0
theorem zkX6_twos : zat 0 tkX6_twos = tkX6_twos_0 ∧ zat 4 tkX6_twos = tkX6_twos_4 ∧ zat 28 tkX6_twos = tkX6_twos_28 := ⟨rfl, rfl, rfl⟩
theorem okX6_twos : zok kX6_twos.2.1 kX6_twos.2.2.1 kX6_twos.2.2.2.1 tkX6_twos = true := by decide +kernel
def tkX2_init_26 : List mE := (26, .return_, 1, 26, [], 0, 0, zM0) :: []
def tkX2_init_23 : List mE := (23, .putfield 18, 3, 23, [], 0, 0, zM0) :: tkX2_init_26
def tkX2_init_21 : List mE := (21, .aload_n 0, 1, 0, [], 0, 0, zM0) ::
  (22, .aload_n 1, 1, 1, [], 0, 0, zM0) :: tkX2_init_23
def tkX2_init_18 : List mE := (18, .putfield 15, 3, 18, [], 0, 0, zM0) :: tkX2_init_21
def tkX2_init_16 : List mE := (16, .newarray .int, 2, 16, [], 0, 0, zM0) :: tkX2_init_18
def tkX2_init_12 : List mE := (12, .aload_n 0, 1, 0, [], 0, 0, zM0) ::
  (13, .sipush 160, 3, 13, [], 160, 0, zM0) :: tkX2_init_16
def tkX2_init_9 : List mE := (9, .putfield 9, 3, 9, [], 0, 0, zM0) :: tkX2_init_12
def tkX2_init_7 : List mE := (7, .newarray .int, 2, 7, [], 0, 0, zM0) :: tkX2_init_9
def tkX2_init_4 : List mE := (4, .aload_n 0, 1, 0, [], 0, 0, zM0) ::
  (5, .bipush 6, 2, 5, [], 6, 0, zM0) :: tkX2_init_7
def tkX2_init_1 : List mE := (1, .invokespecial 3, 3, 1, [], 0, 0, zM0) :: tkX2_init_4
def tkX2_init_0 : List mE := (0, .aload_n 0, 1, 0, [], 0, 0, zM0) :: tkX2_init_1
def tkX2_init : List mE := tkX2_init_0
theorem zkX2_init : zat 0 tkX2_init = tkX2_init_0 ∧ zat 1 tkX2_init = tkX2_init_1 ∧ zat 4 tkX2_init = tkX2_init_4 ∧ zat 7 tkX2_init = tkX2_init_7 ∧ zat 9 tkX2_init = tkX2_init_9 ∧ zat 12 tkX2_init = tkX2_init_12 ∧ zat 16 tkX2_init = tkX2_init_16 ∧ zat 18 tkX2_init = tkX2_init_18 ∧ zat 21 tkX2_init = tkX2_init_21 ∧ zat 23 tkX2_init = tkX2_init_23 ∧ zat 26 tkX2_init = tkX2_init_26 := ⟨rfl, rfl, rfl, rfl, rfl, rfl, rfl, rfl, rfl, rfl, rfl⟩
theorem okX2_init : zok kX2_init.2.1 kX2_init.2.2.1 kX2_init.2.2.2.1 tkX2_init = true := by decide +kernel
def tkX2_droppedBy_52 : List mE := (52, .iload 4, 2, 4, [], 0, 0, zM0) ::
  (54, .ireturn, 1, 54, [], 0, 0, zM0) :: []
def tkX2_droppedBy_46 : List mE := (46, .iinc 5 1, 3, 5, [], 1, 0, zM0) ::
  (49, .goto (-43), 3, 6, [], 0, 0, zM0) :: tkX2_droppedBy_52
def tkX2_droppedBy_6 : List mE := (6, .iload 5, 2, 5, [], 0, 0, zM0) ::
  (8, .bipush 10, 2, 8, [], 10, 0, zM0) ::
  (10, .if_icmp .ge 42, 3, 52, [], 0, 0, zM0) ::
  (13, .aload_n 1, 1, 1, [], 0, 0, zM0) ::
  (14, .getfield 22, 3, 0, [2, 0, 1150], 0, 0, zM0) ::
  (17, .iload 5, 2, 5, [], 0, 0, zM0) ::
  (19, .invokestatic 53, 3, 8, [0, 2, 1], 0, 0, kX10_has) ::
  (22, .ifCond .eq 24, 3, 46, [], 0, 0, zM0) ::
  (25, .aload_n 0, 1, 0, [], 0, 0, zM0) ::
  (26, .aload_n 1, 1, 1, [], 0, 0, zM0) ::
  (27, .iload 5, 2, 5, [], 0, 0, zM0) ::
  (29, .iload_n 2, 1, 2, [], 0, 0, zM0) ::
  (30, .aload_n 3, 1, 3, [], 0, 0, zM0) ::
  (31, .invokevirtual 66, 3, 2, [3116, 4, 1], 0, 0, kX2_isDropping) ::
  (34, .ifCond .eq 12, 3, 46, [], 0, 0, zM0) ::
  (37, .iload 4, 2, 4, [], 0, 0, zM0) ::
  (39, .iconst 1, 1, 39, [], 1, 0, zM0) ::
  (40, .iload 5, 2, 5, [], 0, 0, zM0) ::
  (42, .ishl, 1, 42, [], 0, 0, zM0) ::
  (43, .ior, 1, 43, [], 0, 0, zM0) ::
  (44, .istore 4, 2, 4, [], 0, 0, zM0) :: tkX2_droppedBy_46
def tkX2_droppedBy_0 : List mE := (0, .iconst 0, 1, 0, [], 0, 0, zM0) ::
  (1, .istore 4, 2, 4, [], 0, 0, zM0) ::
  (3, .iconst 0, 1, 3, [], 0, 0, zM0) ::
  (4, .istore 5, 2, 5, [], 0, 0, zM0) :: tkX2_droppedBy_6
def tkX2_droppedBy : List mE := tkX2_droppedBy_0
theorem zkX2_droppedBy : zat 0 tkX2_droppedBy = tkX2_droppedBy_0 ∧ zat 6 tkX2_droppedBy = tkX2_droppedBy_6 ∧ zat 46 tkX2_droppedBy = tkX2_droppedBy_46 ∧ zat 52 tkX2_droppedBy = tkX2_droppedBy_52 := ⟨rfl, rfl, rfl, rfl⟩
theorem okX2_droppedBy : zok kX2_droppedBy.2.1 kX2_droppedBy.2.2.1 kX2_droppedBy.2.2.2.1 tkX2_droppedBy = true := by decide +kernel
def tkX2_isDropping_89 : List mE := (89, .ireturn, 1, 89, [], 0, 0, zM0) :: []
def tkX2_isDropping_88 : List mE := (88, .iconst 0, 1, 88, [], 0, 0, zM0) :: tkX2_isDropping_89
def tkX2_isDropping_71 : List mE := (71, .aload_n 0, 1, 0, [], 0, 0, zM0) ::
  (72, .aload 4, 2, 4, [], 0, 0, zM0) ::
  (74, .iconst 2, 1, 74, [], 2, 0, zM0) ::
  (75, .aload_n 1, 1, 1, [], 0, 0, zM0) ::
  (76, .iload_n 2, 1, 2, [], 0, 0, zM0) ::
  (77, .iload_n 3, 1, 3, [], 0, 0, zM0) ::
  (78, .invokevirtual 46, 3, 2, [3120, 5, 1], 0, 0, kX2_toldBy) ::
  (81, .ifCond .eq 7, 3, 88, [], 0, 0, zM0) ::
  (84, .iconst 1, 1, 84, [], 1, 0, zM0) ::
  (85, .goto 4, 3, 89, [], 0, 0, zM0) :: tkX2_isDropping_88
def tkX2_isDropping_70 : List mE := (70, .ireturn, 1, 70, [], 0, 0, zM0) :: tkX2_isDropping_71
def tkX2_isDropping_69 : List mE := (69, .iconst 0, 1, 69, [], 0, 0, zM0) :: tkX2_isDropping_70
def tkX2_isDropping_52 : List mE := (52, .aload_n 0, 1, 0, [], 0, 0, zM0) ::
  (53, .aload 4, 2, 4, [], 0, 0, zM0) ::
  (55, .iconst 2, 1, 55, [], 2, 0, zM0) ::
  (56, .aload_n 1, 1, 1, [], 0, 0, zM0) ::
  (57, .iload_n 2, 1, 2, [], 0, 0, zM0) ::
  (58, .iload_n 3, 1, 3, [], 0, 0, zM0) ::
  (59, .invokevirtual 46, 3, 2, [3120, 5, 1], 0, 0, kX2_toldBy) ::
  (62, .ifCond .ne 7, 3, 69, [], 0, 0, zM0) ::
  (65, .iconst 1, 1, 65, [], 1, 0, zM0) ::
  (66, .goto 4, 3, 70, [], 0, 0, zM0) :: tkX2_isDropping_69
def tkX2_isDropping_51 : List mE := (51, .ireturn, 1, 51, [], 0, 0, zM0) :: tkX2_isDropping_52
def tkX2_isDropping_50 : List mE := (50, .iconst 0, 1, 50, [], 0, 0, zM0) :: tkX2_isDropping_51
def tkX2_isDropping_38 : List mE := (38, .iload_n 2, 1, 2, [], 0, 0, zM0) ::
  (39, .aload_n 1, 1, 1, [], 0, 0, zM0) ::
  (40, .getfield 57, 3, 0, [1, 0, 1149], 0, 0, zM0) ::
  (43, .if_icmp .ne 7, 3, 50, [], 0, 0, zM0) ::
  (46, .iconst 1, 1, 46, [], 1, 0, zM0) ::
  (47, .goto 4, 3, 51, [], 0, 0, zM0) :: tkX2_isDropping_50
def tkX2_isDropping_36 : List mE := (36, .iconst 0, 1, 36, [], 0, 0, zM0) ::
  (37, .ireturn, 1, 37, [], 0, 0, zM0) :: tkX2_isDropping_38
def tkX2_isDropping_0 : List mE := (0, .aload_n 1, 1, 1, [], 0, 0, zM0) ::
  (1, .getfield 43, 3, 0, [0, 0, 1145], 0, 0, zM0) ::
  (4, .tableswitch 67 2 5 #[32, 67, 34, 48], 32, 71, [36, 71, 38, 52], 0, 0, zM0) :: tkX2_isDropping_36
def tkX2_isDropping : List mE := tkX2_isDropping_0
theorem zkX2_isDropping : zat 0 tkX2_isDropping = tkX2_isDropping_0 ∧ zat 36 tkX2_isDropping = tkX2_isDropping_36 ∧ zat 38 tkX2_isDropping = tkX2_isDropping_38 ∧ zat 50 tkX2_isDropping = tkX2_isDropping_50 ∧ zat 51 tkX2_isDropping = tkX2_isDropping_51 ∧ zat 52 tkX2_isDropping = tkX2_isDropping_52 ∧ zat 69 tkX2_isDropping = tkX2_isDropping_69 ∧ zat 70 tkX2_isDropping = tkX2_isDropping_70 ∧ zat 71 tkX2_isDropping = tkX2_isDropping_71 ∧ zat 88 tkX2_isDropping = tkX2_isDropping_88 ∧ zat 89 tkX2_isDropping = tkX2_isDropping_89 := ⟨rfl, rfl, rfl, rfl, rfl, rfl, rfl, rfl, rfl, rfl, rfl⟩
theorem okX2_isDropping : zok kX2_isDropping.2.1 kX2_isDropping.2.2.1 kX2_isDropping.2.2.2.1 tkX2_isDropping = true := by decide +kernel
def tkX2_toldBy_0 : List mE := (0, .aload_n 0, 1, 0, [], 0, 0, zM0) ::
  (1, .getfield 9, 3, 2, [1, 2, 1050], 0, 0, zM0) ::
  (4, .iconst 0, 1, 4, [], 0, 0, zM0) ::
  (5, .iload 4, 2, 4, [], 0, 0, zM0) ::
  (7, .iastore, 1, 7, [], 0, 0, zM0) ::
  (8, .aload_n 0, 1, 0, [], 0, 0, zM0) ::
  (9, .getfield 9, 3, 2, [1, 2, 1050], 0, 0, zM0) ::
  (12, .iconst 1, 1, 12, [], 1, 0, zM0) ::
  (13, .aload_n 0, 1, 0, [], 0, 0, zM0) ::
  (14, .aload_n 3, 1, 3, [], 0, 0, zM0) ::
  (15, .iload 4, 2, 4, [], 0, 0, zM0) ::
  (17, .invokevirtual 39, 3, 2, [3124, 2, 1], 0, 0, kX2_objectors) ::
  (20, .iastore, 1, 20, [], 0, 0, zM0) ::
  (21, .aload_n 0, 1, 0, [], 0, 0, zM0) ::
  (22, .getfield 9, 3, 2, [1, 2, 1050], 0, 0, zM0) ::
  (25, .iconst 2, 1, 25, [], 2, 0, zM0) ::
  (26, .aload_n 3, 1, 3, [], 0, 0, zM0) ::
  (27, .getfield 22, 3, 0, [2, 0, 1150], 0, 0, zM0) ::
  (30, .invokestatic 34, 3, 0, [3129, 1, 1], 0, 0, kJ6_bitCount_0f7a4) ::
  (33, .iastore, 1, 33, [], 0, 0, zM0) ::
  (34, .aload_n 0, 1, 0, [], 0, 0, zM0) ::
  (35, .getfield 9, 3, 2, [1, 2, 1050], 0, 0, zM0) ::
  (38, .iconst 3, 1, 38, [], 3, 0, zM0) ::
  (39, .aload_n 3, 1, 3, [], 0, 0, zM0) ::
  (40, .getfield 57, 3, 0, [1, 0, 1149], 0, 0, zM0) ::
  (43, .iastore, 1, 43, [], 0, 0, zM0) ::
  (44, .aload_n 0, 1, 0, [], 0, 0, zM0) ::
  (45, .getfield 9, 3, 2, [1, 2, 1050], 0, 0, zM0) ::
  (48, .iconst 4, 1, 48, [], 4, 0, zM0) ::
  (49, .iload 5, 2, 5, [], 0, 0, zM0) ::
  (51, .iastore, 1, 51, [], 0, 0, zM0) ::
  (52, .aload_n 0, 1, 0, [], 0, 0, zM0) ::
  (53, .getfield 9, 3, 2, [1, 2, 1050], 0, 0, zM0) ::
  (56, .iconst 5, 1, 56, [], 5, 0, zM0) ::
  (57, .aload_n 3, 1, 3, [], 0, 0, zM0) ::
  (58, .getfield 77, 3, 0, [3, 0, 1157], 0, 0, zM0) ::
  (61, .iastore, 1, 61, [], 0, 0, zM0) ::
  (62, .aload_n 1, 1, 1, [], 0, 0, zM0) ::
  (63, .iload_n 2, 1, 2, [], 0, 0, zM0) ::
  (64, .aload_n 0, 1, 0, [], 0, 0, zM0) ::
  (65, .getfield 9, 3, 2, [1, 2, 1050], 0, 0, zM0) ::
  (68, .aload_n 0, 1, 0, [], 0, 0, zM0) ::
  (69, .getfield 15, 3, 2, [2, 2, 1051], 0, 0, zM0) ::
  (72, .invokevirtual 90, 3, 8, [3135, 3, 1], 0, 0, kX8_worth) ::
  (75, .ireturn, 1, 75, [], 0, 0, zM0) :: []
def tkX2_toldBy : List mE := tkX2_toldBy_0
theorem zkX2_toldBy : zat 0 tkX2_toldBy = tkX2_toldBy_0 := rfl
theorem okX2_toldBy : zok kX2_toldBy.2.1 kX2_toldBy.2.2.1 kX2_toldBy.2.2.2.1 tkX2_toldBy = true := by decide +kernel
def tkX2_objectors_0 : List mE := (0, .aload_n 1, 1, 1, [], 0, 0, zM0) ::
  (1, .getfield 22, 3, 0, [2, 0, 1150], 0, 0, zM0) ::
  (4, .aload_n 0, 1, 0, [], 0, 0, zM0) ::
  (5, .getfield 18, 3, 2, [0, 2, 1049], 0, 0, zM0) ::
  (8, .iload_n 2, 1, 2, [], 0, 0, zM0) ::
  (9, .invokevirtual 28, 3, 6, [3128, 1, 1], 0, 0, kX6_strikersOf) ::
  (12, .iand, 1, 12, [], 0, 0, zM0) ::
  (13, .invokestatic 34, 3, 0, [3129, 1, 1], 0, 0, kJ6_bitCount_0f7a4) ::
  (16, .ireturn, 1, 16, [], 0, 0, zM0) :: []
def tkX2_objectors : List mE := tkX2_objectors_0
theorem zkX2_objectors : zat 0 tkX2_objectors = tkX2_objectors_0 := rfl
theorem okX2_objectors : zok kX2_objectors.2.1 kX2_objectors.2.2.1 kX2_objectors.2.2.2.1 tkX2_objectors = true := by decide +kernel
def tkX2_laidBy_146 : List mE := (146, .iload 6, 2, 6, [], 0, 0, zM0) ::
  (148, .ireturn, 1, 148, [], 0, 0, zM0) :: []
def tkX2_laidBy_139 : List mE := (139, .iconst 4, 1, 139, [], 4, 0, zM0) ::
  (140, .iload 7, 2, 7, [], 0, 0, zM0) ::
  (142, .invokestatic 60, 3, 6, [3175], 0, 0, zM0) ::
  (145, .ireturn, 1, 145, [], 0, 0, zM0) :: tkX2_laidBy_146
def tkX2_laidBy_134 : List mE := (134, .iadd, 1, 134, [], 0, 0, zM0) ::
  (135, .invokestatic 50, 3, 0, [3172, 1, 1], 0, 0, kX2_bounded) ::
  (138, .ireturn, 1, 138, [], 0, 0, zM0) :: tkX2_laidBy_139
def tkX2_laidBy_133 : List mE := (133, .iconst 0, 1, 133, [], 0, 0, zM0) :: tkX2_laidBy_134
def tkX2_laidBy_111 : List mE := (111, .iconst 2, 1, 111, [], 2, 0, zM0) ::
  (112, .iload 6, 2, 6, [], 0, 0, zM0) ::
  (114, .imul, 1, 114, [], 0, 0, zM0) ::
  (115, .aload_n 1, 1, 1, [], 0, 0, zM0) ::
  (116, .getfield 22, 3, 0, [2, 0, 1150], 0, 0, zM0) ::
  (119, .iload_n 2, 1, 2, [], 0, 0, zM0) ::
  (120, .invokestatic 53, 3, 8, [0, 2, 1], 0, 0, kX10_has) ::
  (123, .ifCond .eq 10, 3, 133, [], 0, 0, zM0) ::
  (126, .aload_n 1, 1, 1, [], 0, 0, zM0) ::
  (127, .getfield 57, 3, 0, [1, 0, 1149], 0, 0, zM0) ::
  (130, .goto 4, 3, 134, [], 0, 0, zM0) :: tkX2_laidBy_133
def tkX2_laidBy_108 : List mE := (108, .iload 7, 2, 7, [], 0, 0, zM0) ::
  (110, .ireturn, 1, 110, [], 0, 0, zM0) :: tkX2_laidBy_111
def tkX2_laidBy_100 : List mE := (100, .iconst 2, 1, 100, [], 2, 0, zM0) ::
  (101, .iload 6, 2, 6, [], 0, 0, zM0) ::
  (103, .imul, 1, 103, [], 0, 0, zM0) ::
  (104, .invokestatic 50, 3, 0, [3172, 1, 1], 0, 0, kX2_bounded) ::
  (107, .ireturn, 1, 107, [], 0, 0, zM0) :: tkX2_laidBy_108
def tkX2_laidBy_63 : List mE := (63, .istore 7, 2, 7, [], 0, 0, zM0) ::
  (65, .aload_n 1, 1, 1, [], 0, 0, zM0) ::
  (66, .getfield 43, 3, 0, [0, 0, 1145], 0, 0, zM0) ::
  (69, .tableswitch 77 1 4 #[31, 39, 42, 70], 31, 146, [100, 108, 111, 139], 0, 0, zM0) :: tkX2_laidBy_100
def tkX2_laidBy_61 : List mE := (61, .iload 6, 2, 6, [], 0, 0, zM0) :: tkX2_laidBy_63
def tkX2_laidBy_49 : List mE := (49, .istore 6, 2, 6, [], 0, 0, zM0) ::
  (51, .iload_n 3, 1, 3, [], 0, 0, zM0) ::
  (52, .iconst 3, 1, 52, [], 3, 0, zM0) ::
  (53, .irem, 1, 53, [], 0, 0, zM0) ::
  (54, .ifCond .ne 7, 3, 61, [], 0, 0, zM0) ::
  (57, .iconst 0, 1, 57, [], 0, 0, zM0) ::
  (58, .goto 5, 3, 63, [], 0, 0, zM0) :: tkX2_laidBy_61
def tkX2_laidBy_36 : List mE := (36, .aload_n 0, 1, 0, [], 0, 0, zM0) ::
  (37, .aload 4, 2, 4, [], 0, 0, zM0) ::
  (39, .iconst 0, 1, 39, [], 0, 0, zM0) ::
  (40, .aload_n 1, 1, 1, [], 0, 0, zM0) ::
  (41, .iload_n 2, 1, 2, [], 0, 0, zM0) ::
  (42, .iload_n 3, 1, 3, [], 0, 0, zM0) ::
  (43, .invokevirtual 46, 3, 2, [3120, 5, 1], 0, 0, kX2_toldBy) ::
  (46, .invokestatic 50, 3, 0, [3172, 1, 1], 0, 0, kX2_bounded) :: tkX2_laidBy_49
def tkX2_laidBy_27 : List mE := (27, .iload 5, 2, 5, [], 0, 0, zM0) ::
  (29, .ifCond .ne 7, 3, 36, [], 0, 0, zM0) ::
  (32, .iconst 0, 1, 32, [], 0, 0, zM0) ::
  (33, .goto 16, 3, 49, [], 0, 0, zM0) :: tkX2_laidBy_36
def tkX2_laidBy_26 : List mE := (26, .ireturn, 1, 26, [], 0, 0, zM0) :: tkX2_laidBy_27
def tkX2_laidBy_25 : List mE := (25, .iconst 0, 1, 25, [], 0, 0, zM0) :: tkX2_laidBy_26
def tkX2_laidBy_0 : List mE := (0, .aload_n 0, 1, 0, [], 0, 0, zM0) ::
  (1, .aload_n 1, 1, 1, [], 0, 0, zM0) ::
  (2, .iload_n 2, 1, 2, [], 0, 0, zM0) ::
  (3, .invokevirtual 39, 3, 2, [3124, 2, 1], 0, 0, kX2_objectors) ::
  (6, .istore 5, 2, 5, [], 0, 0, zM0) ::
  (8, .aload_n 1, 1, 1, [], 0, 0, zM0) ::
  (9, .getfield 43, 3, 0, [0, 0, 1145], 0, 0, zM0) ::
  (12, .iconst 5, 1, 12, [], 5, 0, zM0) ::
  (13, .if_icmp .ne 14, 3, 27, [], 0, 0, zM0) ::
  (16, .iload 5, 2, 5, [], 0, 0, zM0) ::
  (18, .ifCond .ne 7, 3, 25, [], 0, 0, zM0) ::
  (21, .iconst 1, 1, 21, [], 1, 0, zM0) ::
  (22, .goto 4, 3, 26, [], 0, 0, zM0) :: tkX2_laidBy_25
def tkX2_laidBy : List mE := tkX2_laidBy_0
set_option maxRecDepth 100000 in
theorem zkX2_laidBy : zat 0 tkX2_laidBy = tkX2_laidBy_0 ∧ zat 25 tkX2_laidBy = tkX2_laidBy_25 ∧ zat 26 tkX2_laidBy = tkX2_laidBy_26 ∧ zat 27 tkX2_laidBy = tkX2_laidBy_27 ∧ zat 36 tkX2_laidBy = tkX2_laidBy_36 ∧ zat 49 tkX2_laidBy = tkX2_laidBy_49 ∧ zat 61 tkX2_laidBy = tkX2_laidBy_61 ∧ zat 63 tkX2_laidBy = tkX2_laidBy_63 ∧ zat 100 tkX2_laidBy = tkX2_laidBy_100 ∧ zat 108 tkX2_laidBy = tkX2_laidBy_108 ∧ zat 111 tkX2_laidBy = tkX2_laidBy_111 ∧ zat 133 tkX2_laidBy = tkX2_laidBy_133 ∧ zat 134 tkX2_laidBy = tkX2_laidBy_134 ∧ zat 139 tkX2_laidBy = tkX2_laidBy_139 ∧ zat 146 tkX2_laidBy = tkX2_laidBy_146 := ⟨rfl, rfl, rfl, rfl, rfl, rfl, rfl, rfl, rfl, rfl, rfl, rfl, rfl, rfl, rfl⟩
theorem okX2_laidBy : zok kX2_laidBy.2.1 kX2_laidBy.2.2.1 kX2_laidBy.2.2.2.1 tkX2_laidBy = true := by decide +kernel
def tkX2_bounded_0 : List mE := (0, .iconst 0, 1, 0, [], 0, 0, zM0) ::
  (1, .bipush 99, 2, 1, [], 99, 0, zM0) ::
  (3, .iload_n 0, 1, 0, [], 0, 0, zM0) ::
  (4, .invokestatic 60, 3, 6, [3175], 0, 0, zM0) ::
  (7, .invokestatic 87, 3, 7, [3176], 0, 0, zM0) ::
  (10, .ireturn, 1, 10, [], 0, 0, zM0) :: []
def tkX2_bounded : List mE := tkX2_bounded_0
theorem zkX2_bounded : zat 0 tkX2_bounded = tkX2_bounded_0 := rfl
theorem okX2_bounded : zok kX2_bounded.2.1 kX2_bounded.2.2.1 kX2_bounded.2.2.2.1 tkX2_bounded = true := by decide +kernel
def tkX2_isYielding_121 : List mE := (121, .iload 5, 2, 5, [], 0, 0, zM0) ::
  (123, .ireturn, 1, 123, [], 0, 0, zM0) :: []
def tkX2_isYielding_119 : List mE := (119, .iconst 0, 1, 119, [], 0, 0, zM0) ::
  (120, .ireturn, 1, 120, [], 0, 0, zM0) :: tkX2_isYielding_121
def tkX2_isYielding_118 : List mE := (118, .ireturn, 1, 118, [], 0, 0, zM0) :: tkX2_isYielding_119
def tkX2_isYielding_117 : List mE := (117, .iconst 0, 1, 117, [], 0, 0, zM0) :: tkX2_isYielding_118
def tkX2_isYielding_113 : List mE := (113, .iconst 1, 1, 113, [], 1, 0, zM0) ::
  (114, .goto 4, 3, 118, [], 0, 0, zM0) :: tkX2_isYielding_117
def tkX2_isYielding_101 : List mE := (101, .iload 6, 2, 6, [], 0, 0, zM0) ::
  (103, .ifCond .ne 10, 3, 113, [], 0, 0, zM0) ::
  (106, .aload_n 1, 1, 1, [], 0, 0, zM0) ::
  (107, .getfield 22, 3, 0, [2, 0, 1150], 0, 0, zM0) ::
  (110, .ifCond .ne 7, 3, 117, [], 0, 0, zM0) :: tkX2_isYielding_113
def tkX2_isYielding_100 : List mE := (100, .ireturn, 1, 100, [], 0, 0, zM0) :: tkX2_isYielding_101
def tkX2_isYielding_99 : List mE := (99, .iconst 0, 1, 99, [], 0, 0, zM0) :: tkX2_isYielding_100
def tkX2_isYielding_85 : List mE := (85, .aload_n 1, 1, 1, [], 0, 0, zM0) ::
  (86, .getfield 57, 3, 0, [1, 0, 1149], 0, 0, zM0) ::
  (89, .iconst 2, 1, 89, [], 2, 0, zM0) ::
  (90, .irem, 1, 90, [], 0, 0, zM0) ::
  (91, .iconst 1, 1, 91, [], 1, 0, zM0) ::
  (92, .if_icmp .ne 7, 3, 99, [], 0, 0, zM0) ::
  (95, .iconst 1, 1, 95, [], 1, 0, zM0) ::
  (96, .goto 4, 3, 100, [], 0, 0, zM0) :: tkX2_isYielding_99
def tkX2_isYielding_82 : List mE := (82, .iload 6, 2, 6, [], 0, 0, zM0) ::
  (84, .ireturn, 1, 84, [], 0, 0, zM0) :: tkX2_isYielding_85
def tkX2_isYielding_80 : List mE := (80, .iconst 1, 1, 80, [], 1, 0, zM0) ::
  (81, .ireturn, 1, 81, [], 0, 0, zM0) :: tkX2_isYielding_82
def tkX2_isYielding_40 : List mE := (40, .istore 6, 2, 6, [], 0, 0, zM0) ::
  (42, .aload_n 1, 1, 1, [], 0, 0, zM0) ::
  (43, .getfield 43, 3, 0, [0, 0, 1145], 0, 0, zM0) ::
  (46, .tableswitch 75 1 5 #[34, 36, 39, 55, 73], 34, 121, [80, 82, 85, 101, 119], 0, 0, zM0) :: tkX2_isYielding_80
def tkX2_isYielding_39 : List mE := (39, .iconst 0, 1, 39, [], 0, 0, zM0) :: tkX2_isYielding_40
def tkX2_isYielding_18 : List mE := (18, .istore 5, 2, 5, [], 0, 0, zM0) ::
  (20, .iload 5, 2, 5, [], 0, 0, zM0) ::
  (22, .ifCond .eq 17, 3, 39, [], 0, 0, zM0) ::
  (25, .aload_n 0, 1, 0, [], 0, 0, zM0) ::
  (26, .aload_n 1, 1, 1, [], 0, 0, zM0) ::
  (27, .iload_n 2, 1, 2, [], 0, 0, zM0) ::
  (28, .invokevirtual 39, 3, 2, [3124, 2, 1], 0, 0, kX2_objectors) ::
  (31, .iconst 2, 1, 31, [], 2, 0, zM0) ::
  (32, .if_icmp .ge 7, 3, 39, [], 0, 0, zM0) ::
  (35, .iconst 1, 1, 35, [], 1, 0, zM0) ::
  (36, .goto 4, 3, 40, [], 0, 0, zM0) :: tkX2_isYielding_39
def tkX2_isYielding_17 : List mE := (17, .iconst 0, 1, 17, [], 0, 0, zM0) :: tkX2_isYielding_18
def tkX2_isYielding_0 : List mE := (0, .aload_n 0, 1, 0, [], 0, 0, zM0) ::
  (1, .aload 4, 2, 4, [], 0, 0, zM0) ::
  (3, .iconst 1, 1, 3, [], 1, 0, zM0) ::
  (4, .aload_n 1, 1, 1, [], 0, 0, zM0) ::
  (5, .iload_n 2, 1, 2, [], 0, 0, zM0) ::
  (6, .iload_n 3, 1, 3, [], 0, 0, zM0) ::
  (7, .invokevirtual 46, 3, 2, [3120, 5, 1], 0, 0, kX2_toldBy) ::
  (10, .ifCond .eq 7, 3, 17, [], 0, 0, zM0) ::
  (13, .iconst 1, 1, 13, [], 1, 0, zM0) ::
  (14, .goto 4, 3, 18, [], 0, 0, zM0) :: tkX2_isYielding_17
def tkX2_isYielding : List mE := tkX2_isYielding_0
set_option maxRecDepth 100000 in
theorem zkX2_isYielding : zat 0 tkX2_isYielding = tkX2_isYielding_0 ∧ zat 17 tkX2_isYielding = tkX2_isYielding_17 ∧ zat 18 tkX2_isYielding = tkX2_isYielding_18 ∧ zat 39 tkX2_isYielding = tkX2_isYielding_39 ∧ zat 40 tkX2_isYielding = tkX2_isYielding_40 ∧ zat 80 tkX2_isYielding = tkX2_isYielding_80 ∧ zat 82 tkX2_isYielding = tkX2_isYielding_82 ∧ zat 85 tkX2_isYielding = tkX2_isYielding_85 ∧ zat 99 tkX2_isYielding = tkX2_isYielding_99 ∧ zat 100 tkX2_isYielding = tkX2_isYielding_100 ∧ zat 101 tkX2_isYielding = tkX2_isYielding_101 ∧ zat 113 tkX2_isYielding = tkX2_isYielding_113 ∧ zat 117 tkX2_isYielding = tkX2_isYielding_117 ∧ zat 118 tkX2_isYielding = tkX2_isYielding_118 ∧ zat 119 tkX2_isYielding = tkX2_isYielding_119 ∧ zat 121 tkX2_isYielding = tkX2_isYielding_121 := ⟨rfl, rfl, rfl, rfl, rfl, rfl, rfl, rfl, rfl, rfl, rfl, rfl, rfl, rfl, rfl, rfl⟩
theorem okX2_isYielding : zok kX2_isYielding.2.1 kX2_isYielding.2.2.1 kX2_isYielding.2.2.2.1 tkX2_isYielding = true := by decide +kernel
def tkX2_put_67 : List mE := (67, .iload 5, 2, 5, [], 0, 0, zM0) ::
  (69, .ireturn, 1, 69, [], 0, 0, zM0) :: []
def tkX2_put_0 : List mE := (0, .aload_n 0, 1, 0, [], 0, 0, zM0) ::
  (1, .aload_n 1, 1, 1, [], 0, 0, zM0) ::
  (2, .iload_n 2, 1, 2, [], 0, 0, zM0) ::
  (3, .iload_n 3, 1, 3, [], 0, 0, zM0) ::
  (4, .aload 4, 2, 4, [], 0, 0, zM0) ::
  (6, .invokevirtual 70, 3, 2, [3200, 4, 1], 0, 0, kX2_laidBy) ::
  (9, .istore 5, 2, 5, [], 0, 0, zM0) ::
  (11, .aload_n 0, 1, 0, [], 0, 0, zM0) ::
  (12, .aload_n 1, 1, 1, [], 0, 0, zM0) ::
  (13, .iload_n 2, 1, 2, [], 0, 0, zM0) ::
  (14, .iload_n 3, 1, 3, [], 0, 0, zM0) ::
  (15, .aload 4, 2, 4, [], 0, 0, zM0) ::
  (17, .invokevirtual 74, 3, 2, [3201, 4, 1], 0, 0, kX2_isYielding) ::
  (20, .istore 6, 2, 6, [], 0, 0, zM0) ::
  (22, .aload_n 1, 1, 1, [], 0, 0, zM0) ::
  (23, .sipush 999, 3, 23, [], 999, 0, zM0) ::
  (26, .aload_n 1, 1, 1, [], 0, 0, zM0) ::
  (27, .getfield 77, 3, 0, [3, 0, 1157], 0, 0, zM0) ::
  (30, .iload 5, 2, 5, [], 0, 0, zM0) ::
  (32, .iadd, 1, 32, [], 0, 0, zM0) ::
  (33, .invokestatic 60, 3, 6, [3175], 0, 0, zM0) ::
  (36, .putfield 77, 3, 0, [3, 0, 1157], 0, 0, zM0) ::
  (39, .iload 6, 2, 6, [], 0, 0, zM0) ::
  (41, .ifCond .eq 26, 3, 67, [], 0, 0, zM0) ::
  (44, .aload_n 1, 1, 1, [], 0, 0, zM0) ::
  (45, .aload_n 1, 1, 1, [], 0, 0, zM0) ::
  (46, .getfield 22, 3, 0, [2, 0, 1150], 0, 0, zM0) ::
  (49, .iconst 1, 1, 49, [], 1, 0, zM0) ::
  (50, .iload_n 2, 1, 2, [], 0, 0, zM0) ::
  (51, .ishl, 1, 51, [], 0, 0, zM0) ::
  (52, .ior, 1, 52, [], 0, 0, zM0) ::
  (53, .aload_n 0, 1, 0, [], 0, 0, zM0) ::
  (54, .getfield 18, 3, 2, [0, 2, 1049], 0, 0, zM0) ::
  (57, .iload_n 2, 1, 2, [], 0, 0, zM0) ::
  (58, .invokevirtual 80, 3, 6, [3202, 1, 1], 0, 0, kX6_struckBy) ::
  (61, .iconst (-1), 1, 61, [], (-1), 0, zM0) ::
  (62, .ixor, 1, 62, [], 0, 0, zM0) ::
  (63, .iand, 1, 63, [], 0, 0, zM0) ::
  (64, .putfield 22, 3, 0, [2, 0, 1150], 0, 0, zM0) :: tkX2_put_67
def tkX2_put : List mE := tkX2_put_0
theorem zkX2_put : zat 0 tkX2_put = tkX2_put_0 ∧ zat 67 tkX2_put = tkX2_put_67 := ⟨rfl, rfl⟩
theorem okX2_put : zok kX2_put.2.1 kX2_put.2.2.1 kX2_put.2.2.2.1 tkX2_put = true := by decide +kernel
def tkX2_sleep_0 : List mE := (0, .aload_n 1, 1, 1, [], 0, 0, zM0) ::
  (1, .dup, 1, 1, [], 0, 0, zM0) ::
  (2, .getfield 22, 3, 0, [2, 0, 1150], 0, 0, zM0) ::
  (5, .aload_n 0, 1, 0, [], 0, 0, zM0) ::
  (6, .aload_n 1, 1, 1, [], 0, 0, zM0) ::
  (7, .iload_n 2, 1, 2, [], 0, 0, zM0) ::
  (8, .aload_n 3, 1, 3, [], 0, 0, zM0) ::
  (9, .invokevirtual 83, 3, 2, [3211, 3, 1], 0, 0, kX2_droppedBy) ::
  (12, .iconst (-1), 1, 12, [], (-1), 0, zM0) ::
  (13, .ixor, 1, 13, [], 0, 0, zM0) ::
  (14, .iand, 1, 14, [], 0, 0, zM0) ::
  (15, .putfield 22, 3, 0, [2, 0, 1150], 0, 0, zM0) ::
  (18, .return_, 1, 18, [], 0, 0, zM0) :: []
def tkX2_sleep : List mE := tkX2_sleep_0
theorem zkX2_sleep : zat 0 tkX2_sleep = tkX2_sleep_0 := rfl
theorem okX2_sleep : zok kX2_sleep.2.1 kX2_sleep.2.2.1 kX2_sleep.2.2.2.1 tkX2_sleep = true := by decide +kernel
def tkX8_init_20 : List mE := (20, .return_, 1, 20, [], 0, 0, zM0) :: []
def tkX8_init_17 : List mE := (17, .putfield 15, 3, 17, [], 0, 0, zM0) :: tkX8_init_20
def tkX8_init_15 : List mE := (15, .newarray .int, 2, 15, [], 0, 0, zM0) :: tkX8_init_17
def tkX8_init_13 : List mE := (13, .aload_n 0, 1, 0, [], 0, 0, zM0) ::
  (14, .iconst 3, 1, 14, [], 3, 0, zM0) :: tkX8_init_15
def tkX8_init_10 : List mE := (10, .putfield 9, 3, 10, [], 0, 0, zM0) :: tkX8_init_13
def tkX8_init_8 : List mE := (8, .newarray .int, 2, 8, [], 0, 0, zM0) :: tkX8_init_10
def tkX8_init_4 : List mE := (4, .aload_n 0, 1, 0, [], 0, 0, zM0) ::
  (5, .sipush 160, 3, 5, [], 160, 0, zM0) :: tkX8_init_8
def tkX8_init_1 : List mE := (1, .invokespecial 3, 3, 1, [], 0, 0, zM0) :: tkX8_init_4
def tkX8_init_0 : List mE := (0, .aload_n 0, 1, 0, [], 0, 0, zM0) :: tkX8_init_1
def tkX8_init : List mE := tkX8_init_0
theorem zkX8_init : zat 0 tkX8_init = tkX8_init_0 ∧ zat 1 tkX8_init = tkX8_init_1 ∧ zat 4 tkX8_init = tkX8_init_4 ∧ zat 8 tkX8_init = tkX8_init_8 ∧ zat 10 tkX8_init = tkX8_init_10 ∧ zat 13 tkX8_init = tkX8_init_13 ∧ zat 15 tkX8_init = tkX8_init_15 ∧ zat 17 tkX8_init = tkX8_init_17 ∧ zat 20 tkX8_init = tkX8_init_20 := ⟨rfl, rfl, rfl, rfl, rfl, rfl, rfl, rfl, rfl⟩
theorem okX8_init : zok kX8_init.2.1 kX8_init.2.2.1 kX8_init.2.2.2.1 tkX8_init = true := by decide +kernel
def tkX8_clear_0 : List mE := (0, .aload_n 0, 1, 0, [], 0, 0, zM0) ::
  (1, .iconst 0, 1, 1, [], 0, 0, zM0) ::
  (2, .putfield 18, 3, 8, [2, 0, 1110], 0, 0, zM0) ::
  (5, .return_, 1, 5, [], 0, 0, zM0) :: []
def tkX8_clear : List mE := tkX8_clear_0
theorem zkX8_clear : zat 0 tkX8_clear = tkX8_clear_0 := rfl
theorem okX8_clear : zok kX8_clear.2.1 kX8_clear.2.2.1 kX8_clear.2.2.2.1 tkX8_clear = true := by decide +kernel
def tkX8_add_32 : List mE := (32, .return_, 1, 32, [], 0, 0, zM0) :: []
def tkX8_add_0 : List mE := (0, .aload_n 0, 1, 0, [], 0, 0, zM0) ::
  (1, .getfield 18, 3, 8, [2, 0, 1110], 0, 0, zM0) ::
  (4, .aload_n 0, 1, 0, [], 0, 0, zM0) ::
  (5, .getfield 9, 3, 8, [0, 2, 1108], 0, 0, zM0) ::
  (8, .arraylength, 1, 0, [], 0, 0, zM0) ::
  (9, .if_icmp .ge 23, 3, 32, [], 0, 0, zM0) ::
  (12, .aload_n 0, 1, 0, [], 0, 0, zM0) ::
  (13, .getfield 9, 3, 8, [0, 2, 1108], 0, 0, zM0) ::
  (16, .aload_n 0, 1, 0, [], 0, 0, zM0) ::
  (17, .getfield 18, 3, 8, [2, 0, 1110], 0, 0, zM0) ::
  (20, .iload_n 1, 1, 1, [], 0, 0, zM0) ::
  (21, .iastore, 1, 21, [], 0, 0, zM0) ::
  (22, .aload_n 0, 1, 0, [], 0, 0, zM0) ::
  (23, .dup, 1, 23, [], 0, 0, zM0) ::
  (24, .getfield 18, 3, 8, [2, 0, 1110], 0, 0, zM0) ::
  (27, .iconst 1, 1, 27, [], 1, 0, zM0) ::
  (28, .iadd, 1, 28, [], 0, 0, zM0) ::
  (29, .putfield 18, 3, 8, [2, 0, 1110], 0, 0, zM0) :: tkX8_add_32
def tkX8_add : List mE := tkX8_add_0
theorem zkX8_add : zat 0 tkX8_add = tkX8_add_0 ∧ zat 32 tkX8_add = tkX8_add_32 := ⟨rfl, rfl⟩
theorem okX8_add : zok kX8_add.2.1 kX8_add.2.2.1 kX8_add.2.2.2.1 tkX8_add = true := by decide +kernel
def tkX8_endPart_19 : List mE := (19, .return_, 1, 19, [], 0, 0, zM0) :: []
def tkX8_endPart_0 : List mE := (0, .iload_n 1, 1, 1, [], 0, 0, zM0) ::
  (1, .ifCond .lt 18, 3, 19, [], 0, 0, zM0) ::
  (4, .iload_n 1, 1, 1, [], 0, 0, zM0) ::
  (5, .iconst 3, 1, 5, [], 3, 0, zM0) ::
  (6, .if_icmp .ge 13, 3, 19, [], 0, 0, zM0) ::
  (9, .aload_n 0, 1, 0, [], 0, 0, zM0) ::
  (10, .getfield 15, 3, 8, [1, 2, 1109], 0, 0, zM0) ::
  (13, .iload_n 1, 1, 1, [], 0, 0, zM0) ::
  (14, .aload_n 0, 1, 0, [], 0, 0, zM0) ::
  (15, .getfield 18, 3, 8, [2, 0, 1110], 0, 0, zM0) ::
  (18, .iastore, 1, 18, [], 0, 0, zM0) :: tkX8_endPart_19
def tkX8_endPart : List mE := tkX8_endPart_0
theorem zkX8_endPart : zat 0 tkX8_endPart = tkX8_endPart_0 ∧ zat 19 tkX8_endPart = tkX8_endPart_19 := ⟨rfl, rfl⟩
theorem okX8_endPart : zok kX8_endPart.2.1 kX8_endPart.2.2.1 kX8_endPart.2.2.2.1 tkX8_endPart = true := by decide +kernel
def tkX8_become_0 : List mE := (0, .aload_n 1, 1, 1, [], 0, 0, zM0) ::
  (1, .getfield 9, 3, 8, [0, 2, 1108], 0, 0, zM0) ::
  (4, .iconst 0, 1, 4, [], 0, 0, zM0) ::
  (5, .aload_n 0, 1, 0, [], 0, 0, zM0) ::
  (6, .getfield 9, 3, 8, [0, 2, 1108], 0, 0, zM0) ::
  (9, .iconst 0, 1, 9, [], 0, 0, zM0) ::
  (10, .sipush 160, 3, 10, [], 160, 0, zM0) ::
  (13, .invokestatic 22, 3, 9, [3015], 0, 0, zM0) ::
  (16, .aload_n 1, 1, 1, [], 0, 0, zM0) ::
  (17, .getfield 15, 3, 8, [1, 2, 1109], 0, 0, zM0) ::
  (20, .iconst 0, 1, 20, [], 0, 0, zM0) ::
  (21, .aload_n 0, 1, 0, [], 0, 0, zM0) ::
  (22, .getfield 15, 3, 8, [1, 2, 1109], 0, 0, zM0) ::
  (25, .iconst 0, 1, 25, [], 0, 0, zM0) ::
  (26, .iconst 3, 1, 26, [], 3, 0, zM0) ::
  (27, .invokestatic 22, 3, 9, [3015], 0, 0, zM0) ::
  (30, .aload_n 0, 1, 0, [], 0, 0, zM0) ::
  (31, .aload_n 1, 1, 1, [], 0, 0, zM0) ::
  (32, .getfield 18, 3, 8, [2, 0, 1110], 0, 0, zM0) ::
  (35, .putfield 18, 3, 8, [2, 0, 1110], 0, 0, zM0) ::
  (38, .return_, 1, 38, [], 0, 0, zM0) :: []
def tkX8_become : List mE := tkX8_become_0
theorem zkX8_become : zat 0 tkX8_become = tkX8_become_0 := rfl
theorem okX8_become : zok kX8_become.2.1 kX8_become.2.2.1 kX8_become.2.2.2.1 tkX8_become = true := by decide +kernel
def tkX8_worth_189 : List mE := (189, .ireturn, 1, 189, [], 0, 0, zM0) :: []
def tkX8_worth_188 : List mE := (188, .iconst 0, 1, 188, [], 0, 0, zM0) :: tkX8_worth_189
def tkX8_worth_173 : List mE := (173, .iload 4, 2, 4, [], 0, 0, zM0) ::
  (175, .iconst 1, 1, 175, [], 1, 0, zM0) ::
  (176, .if_icmp .lt 12, 3, 188, [], 0, 0, zM0) ::
  (179, .aload_n 3, 1, 3, [], 0, 0, zM0) ::
  (180, .iload 4, 2, 4, [], 0, 0, zM0) ::
  (182, .iconst 1, 1, 182, [], 1, 0, zM0) ::
  (183, .isub, 1, 183, [], 0, 0, zM0) ::
  (184, .iaload, 1, 0, [], 0, 0, zM0) ::
  (185, .goto 4, 3, 189, [], 0, 0, zM0) :: tkX8_worth_188
def tkX8_worth_167 : List mE := (167, .iinc 6 1, 3, 6, [], 1, 0, zM0) ::
  (170, .goto (-134), 3, 36, [], 0, 0, zM0) :: tkX8_worth_173
def tkX8_worth_137 : List mE := (137, .iload 4, 2, 4, [], 0, 0, zM0) ::
  (139, .iconst 2, 1, 139, [], 2, 0, zM0) ::
  (140, .if_icmp .lt 27, 3, 167, [], 0, 0, zM0) ::
  (143, .iinc 4 (-1), 3, 4, [], (-1), 0, zM0) ::
  (146, .aload_n 3, 1, 3, [], 0, 0, zM0) ::
  (147, .iload 4, 2, 4, [], 0, 0, zM0) ::
  (149, .iconst 1, 1, 149, [], 1, 0, zM0) ::
  (150, .isub, 1, 150, [], 0, 0, zM0) ::
  (151, .iload 7, 2, 7, [], 0, 0, zM0) ::
  (153, .aload_n 3, 1, 3, [], 0, 0, zM0) ::
  (154, .iload 4, 2, 4, [], 0, 0, zM0) ::
  (156, .iconst 1, 1, 156, [], 1, 0, zM0) ::
  (157, .isub, 1, 157, [], 0, 0, zM0) ::
  (158, .iaload, 1, 0, [], 0, 0, zM0) ::
  (159, .aload_n 3, 1, 3, [], 0, 0, zM0) ::
  (160, .iload 4, 2, 4, [], 0, 0, zM0) ::
  (162, .iaload, 1, 0, [], 0, 0, zM0) ::
  (163, .invokestatic 40, 3, 0, [3148, 3, 1], 0, 0, kX8_ofTwo) ::
  (166, .iastore, 1, 166, [], 0, 0, zM0) :: tkX8_worth_167
def tkX8_worth_111 : List mE := (111, .iload 4, 2, 4, [], 0, 0, zM0) ::
  (113, .iconst 1, 1, 113, [], 1, 0, zM0) ::
  (114, .if_icmp .lt 53, 3, 167, [], 0, 0, zM0) ::
  (117, .aload_n 3, 1, 3, [], 0, 0, zM0) ::
  (118, .iload 4, 2, 4, [], 0, 0, zM0) ::
  (120, .iconst 1, 1, 120, [], 1, 0, zM0) ::
  (121, .isub, 1, 121, [], 0, 0, zM0) ::
  (122, .iload 7, 2, 7, [], 0, 0, zM0) ::
  (124, .aload_n 3, 1, 3, [], 0, 0, zM0) ::
  (125, .iload 4, 2, 4, [], 0, 0, zM0) ::
  (127, .iconst 1, 1, 127, [], 1, 0, zM0) ::
  (128, .isub, 1, 128, [], 0, 0, zM0) ::
  (129, .iaload, 1, 0, [], 0, 0, zM0) ::
  (130, .invokestatic 36, 3, 0, [3145, 2, 1], 0, 0, kX8_ofOne) ::
  (133, .iastore, 1, 133, [], 0, 0, zM0) ::
  (134, .goto 33, 3, 167, [], 0, 0, zM0) :: tkX8_worth_137
def tkX8_worth_97 : List mE := (97, .iload 7, 2, 7, [], 0, 0, zM0) ::
  (99, .bipush 6, 2, 99, [], 6, 0, zM0) ::
  (101, .if_icmp .eq 10, 3, 111, [], 0, 0, zM0) ::
  (104, .iload 7, 2, 7, [], 0, 0, zM0) ::
  (106, .bipush 7, 2, 106, [], 7, 0, zM0) ::
  (108, .if_icmp .ne 29, 3, 137, [], 0, 0, zM0) :: tkX8_worth_111
def tkX8_worth_36 : List mE := (36, .iload 6, 2, 6, [], 0, 0, zM0) ::
  (38, .aload_n 0, 1, 0, [], 0, 0, zM0) ::
  (39, .getfield 15, 3, 8, [1, 2, 1109], 0, 0, zM0) ::
  (42, .iload_n 1, 1, 1, [], 0, 0, zM0) ::
  (43, .iaload, 1, 0, [], 0, 0, zM0) ::
  (44, .if_icmp .ge 129, 3, 173, [], 0, 0, zM0) ::
  (47, .iload 6, 2, 6, [], 0, 0, zM0) ::
  (49, .aload_n 0, 1, 0, [], 0, 0, zM0) ::
  (50, .getfield 9, 3, 8, [0, 2, 1108], 0, 0, zM0) ::
  (53, .arraylength, 1, 0, [], 0, 0, zM0) ::
  (54, .if_icmp .ge 119, 3, 173, [], 0, 0, zM0) ::
  (57, .aload_n 0, 1, 0, [], 0, 0, zM0) ::
  (58, .getfield 9, 3, 8, [0, 2, 1108], 0, 0, zM0) ::
  (61, .iload 6, 2, 6, [], 0, 0, zM0) ::
  (63, .iaload, 1, 0, [], 0, 0, zM0) ::
  (64, .istore 7, 2, 7, [], 0, 0, zM0) ::
  (66, .iload 7, 2, 7, [], 0, 0, zM0) ::
  (68, .invokestatic 28, 3, 0, [3139, 1, 1], 0, 0, kX8_isValue) ::
  (71, .ifCond .eq 26, 3, 97, [], 0, 0, zM0) ::
  (74, .iload 4, 2, 4, [], 0, 0, zM0) ::
  (76, .aload_n 3, 1, 3, [], 0, 0, zM0) ::
  (77, .arraylength, 1, 0, [], 0, 0, zM0) ::
  (78, .if_icmp .ge 89, 3, 167, [], 0, 0, zM0) ::
  (81, .aload_n 3, 1, 3, [], 0, 0, zM0) ::
  (82, .iload 4, 2, 4, [], 0, 0, zM0) ::
  (84, .iload 7, 2, 7, [], 0, 0, zM0) ::
  (86, .aload_n 2, 1, 2, [], 0, 0, zM0) ::
  (87, .invokestatic 32, 3, 0, [3142, 2, 1], 0, 0, kX8_valueOf) ::
  (90, .iastore, 1, 90, [], 0, 0, zM0) ::
  (91, .iinc 4 1, 3, 4, [], 1, 0, zM0) ::
  (94, .goto 73, 3, 167, [], 0, 0, zM0) :: tkX8_worth_97
def tkX8_worth_30 : List mE := (30, .istore 5, 2, 5, [], 0, 0, zM0) ::
  (32, .iload 5, 2, 5, [], 0, 0, zM0) ::
  (34, .istore 6, 2, 6, [], 0, 0, zM0) :: tkX8_worth_36
def tkX8_worth_22 : List mE := (22, .aload_n 0, 1, 0, [], 0, 0, zM0) ::
  (23, .getfield 15, 3, 8, [1, 2, 1109], 0, 0, zM0) ::
  (26, .iload_n 1, 1, 1, [], 0, 0, zM0) ::
  (27, .iconst 1, 1, 27, [], 1, 0, zM0) ::
  (28, .isub, 1, 28, [], 0, 0, zM0) ::
  (29, .iaload, 1, 0, [], 0, 0, zM0) :: tkX8_worth_30
def tkX8_worth_11 : List mE := (11, .iconst 0, 1, 11, [], 0, 0, zM0) ::
  (12, .istore 4, 2, 4, [], 0, 0, zM0) ::
  (14, .iload_n 1, 1, 1, [], 0, 0, zM0) ::
  (15, .ifCond .ne 7, 3, 22, [], 0, 0, zM0) ::
  (18, .iconst 0, 1, 18, [], 0, 0, zM0) ::
  (19, .goto 11, 3, 30, [], 0, 0, zM0) :: tkX8_worth_22
def tkX8_worth_9 : List mE := (9, .iconst 0, 1, 9, [], 0, 0, zM0) ::
  (10, .ireturn, 1, 10, [], 0, 0, zM0) :: tkX8_worth_11
def tkX8_worth_0 : List mE := (0, .iload_n 1, 1, 1, [], 0, 0, zM0) ::
  (1, .ifCond .lt 8, 3, 9, [], 0, 0, zM0) ::
  (4, .iload_n 1, 1, 1, [], 0, 0, zM0) ::
  (5, .iconst 3, 1, 5, [], 3, 0, zM0) ::
  (6, .if_icmp .lt 5, 3, 11, [], 0, 0, zM0) :: tkX8_worth_9
def tkX8_worth : List mE := tkX8_worth_0
set_option maxRecDepth 100000 in
theorem zkX8_worth : zat 0 tkX8_worth = tkX8_worth_0 ∧ zat 9 tkX8_worth = tkX8_worth_9 ∧ zat 11 tkX8_worth = tkX8_worth_11 ∧ zat 22 tkX8_worth = tkX8_worth_22 ∧ zat 30 tkX8_worth = tkX8_worth_30 ∧ zat 36 tkX8_worth = tkX8_worth_36 ∧ zat 97 tkX8_worth = tkX8_worth_97 ∧ zat 111 tkX8_worth = tkX8_worth_111 ∧ zat 137 tkX8_worth = tkX8_worth_137 ∧ zat 167 tkX8_worth = tkX8_worth_167 ∧ zat 173 tkX8_worth = tkX8_worth_173 ∧ zat 188 tkX8_worth = tkX8_worth_188 ∧ zat 189 tkX8_worth = tkX8_worth_189 := ⟨rfl, rfl, rfl, rfl, rfl, rfl, rfl, rfl, rfl, rfl, rfl, rfl, rfl⟩
theorem okX8_worth : zok kX8_worth.2.1 kX8_worth.2.2.1 kX8_worth.2.2.2.1 tkX8_worth = true := by decide +kernel
def tkX8_isValue_17 : List mE := (17, .ireturn, 1, 17, [], 0, 0, zM0) :: []
def tkX8_isValue_16 : List mE := (16, .iconst 0, 1, 16, [], 0, 0, zM0) :: tkX8_isValue_17
def tkX8_isValue_12 : List mE := (12, .iconst 1, 1, 12, [], 1, 0, zM0) ::
  (13, .goto 4, 3, 17, [], 0, 0, zM0) :: tkX8_isValue_16
def tkX8_isValue_0 : List mE := (0, .iload_n 0, 1, 0, [], 0, 0, zM0) ::
  (1, .bipush 6, 2, 1, [], 6, 0, zM0) ::
  (3, .if_icmp .lt 9, 3, 12, [], 0, 0, zM0) ::
  (6, .iload_n 0, 1, 0, [], 0, 0, zM0) ::
  (7, .bipush 100, 2, 7, [], 100, 0, zM0) ::
  (9, .if_icmp .lt 7, 3, 16, [], 0, 0, zM0) :: tkX8_isValue_12
def tkX8_isValue : List mE := tkX8_isValue_0
theorem zkX8_isValue : zat 0 tkX8_isValue = tkX8_isValue_0 ∧ zat 12 tkX8_isValue = tkX8_isValue_12 ∧ zat 16 tkX8_isValue = tkX8_isValue_16 ∧ zat 17 tkX8_isValue = tkX8_isValue_17 := ⟨rfl, rfl, rfl, rfl⟩
theorem okX8_isValue : zok kX8_isValue.2.1 kX8_isValue.2.2.1 kX8_isValue.2.2.2.1 tkX8_isValue = true := by decide +kernel
def tkX8_valueOf_28 : List mE := (28, .ireturn, 1, 28, [], 0, 0, zM0) :: []
def tkX8_valueOf_27 : List mE := (27, .iconst 0, 1, 27, [], 0, 0, zM0) :: tkX8_valueOf_28
def tkX8_valueOf_11 : List mE := (11, .iload_n 0, 1, 0, [], 0, 0, zM0) ::
  (12, .ifCond .lt 15, 3, 27, [], 0, 0, zM0) ::
  (15, .iload_n 0, 1, 0, [], 0, 0, zM0) ::
  (16, .aload_n 1, 1, 1, [], 0, 0, zM0) ::
  (17, .arraylength, 1, 0, [], 0, 0, zM0) ::
  (18, .if_icmp .ge 9, 3, 27, [], 0, 0, zM0) ::
  (21, .aload_n 1, 1, 1, [], 0, 0, zM0) ::
  (22, .iload_n 0, 1, 0, [], 0, 0, zM0) ::
  (23, .iaload, 1, 0, [], 0, 0, zM0) ::
  (24, .goto 4, 3, 28, [], 0, 0, zM0) :: tkX8_valueOf_27
def tkX8_valueOf_0 : List mE := (0, .iload_n 0, 1, 0, [], 0, 0, zM0) ::
  (1, .bipush 100, 2, 1, [], 100, 0, zM0) ::
  (3, .if_icmp .lt 8, 3, 11, [], 0, 0, zM0) ::
  (6, .iload_n 0, 1, 0, [], 0, 0, zM0) ::
  (7, .bipush 100, 2, 7, [], 100, 0, zM0) ::
  (9, .isub, 1, 9, [], 0, 0, zM0) ::
  (10, .ireturn, 1, 10, [], 0, 0, zM0) :: tkX8_valueOf_11
def tkX8_valueOf : List mE := tkX8_valueOf_0
theorem zkX8_valueOf : zat 0 tkX8_valueOf = tkX8_valueOf_0 ∧ zat 11 tkX8_valueOf = tkX8_valueOf_11 ∧ zat 27 tkX8_valueOf = tkX8_valueOf_27 ∧ zat 28 tkX8_valueOf = tkX8_valueOf_28 := ⟨rfl, rfl, rfl, rfl⟩
theorem okX8_valueOf : zok kX8_valueOf.2.1 kX8_valueOf.2.2.1 kX8_valueOf.2.2.2.1 tkX8_valueOf = true := by decide +kernel
def tkX8_ofOne_18 : List mE := (18, .ireturn, 1, 18, [], 0, 0, zM0) :: []
def tkX8_ofOne_17 : List mE := (17, .iconst 0, 1, 17, [], 0, 0, zM0) :: tkX8_ofOne_18
def tkX8_ofOne_9 : List mE := (9, .iload_n 1, 1, 1, [], 0, 0, zM0) ::
  (10, .ifCond .ne 7, 3, 17, [], 0, 0, zM0) ::
  (13, .iconst 1, 1, 13, [], 1, 0, zM0) ::
  (14, .goto 4, 3, 18, [], 0, 0, zM0) :: tkX8_ofOne_17
def tkX8_ofOne_0 : List mE := (0, .iload_n 0, 1, 0, [], 0, 0, zM0) ::
  (1, .bipush 6, 2, 1, [], 6, 0, zM0) ::
  (3, .if_icmp .ne 6, 3, 9, [], 0, 0, zM0) ::
  (6, .iload_n 1, 1, 1, [], 0, 0, zM0) ::
  (7, .ineg, 1, 7, [], 0, 0, zM0) ::
  (8, .ireturn, 1, 8, [], 0, 0, zM0) :: tkX8_ofOne_9
def tkX8_ofOne : List mE := tkX8_ofOne_0
theorem zkX8_ofOne : zat 0 tkX8_ofOne = tkX8_ofOne_0 ∧ zat 9 tkX8_ofOne = tkX8_ofOne_9 ∧ zat 17 tkX8_ofOne = tkX8_ofOne_17 ∧ zat 18 tkX8_ofOne = tkX8_ofOne_18 := ⟨rfl, rfl, rfl, rfl⟩
theorem okX8_ofOne : zok kX8_ofOne.2.1 kX8_ofOne.2.2.1 kX8_ofOne.2.2.2.1 tkX8_ofOne = true := by decide +kernel
def tkX8_ofTwo_101 : List mE := (101, .ireturn, 1, 101, [], 0, 0, zM0) :: []
def tkX8_ofTwo_100 : List mE := (100, .iconst 0, 1, 100, [], 0, 0, zM0) :: tkX8_ofTwo_101
def tkX8_ofTwo_96 : List mE := (96, .iconst 1, 1, 96, [], 1, 0, zM0) ::
  (97, .goto 4, 3, 101, [], 0, 0, zM0) :: tkX8_ofTwo_100
def tkX8_ofTwo_88 : List mE := (88, .iload_n 1, 1, 1, [], 0, 0, zM0) ::
  (89, .ifCond .ne 7, 3, 96, [], 0, 0, zM0) ::
  (92, .iload_n 2, 1, 2, [], 0, 0, zM0) ::
  (93, .ifCond .eq 7, 3, 100, [], 0, 0, zM0) :: tkX8_ofTwo_96
def tkX8_ofTwo_87 : List mE := (87, .ireturn, 1, 87, [], 0, 0, zM0) :: tkX8_ofTwo_88
def tkX8_ofTwo_86 : List mE := (86, .iconst 0, 1, 86, [], 0, 0, zM0) :: tkX8_ofTwo_87
def tkX8_ofTwo_74 : List mE := (74, .iload_n 1, 1, 1, [], 0, 0, zM0) ::
  (75, .ifCond .eq 11, 3, 86, [], 0, 0, zM0) ::
  (78, .iload_n 2, 1, 2, [], 0, 0, zM0) ::
  (79, .ifCond .eq 7, 3, 86, [], 0, 0, zM0) ::
  (82, .iconst 1, 1, 82, [], 1, 0, zM0) ::
  (83, .goto 4, 3, 87, [], 0, 0, zM0) :: tkX8_ofTwo_86
def tkX8_ofTwo_73 : List mE := (73, .ireturn, 1, 73, [], 0, 0, zM0) :: tkX8_ofTwo_74
def tkX8_ofTwo_72 : List mE := (72, .iconst 0, 1, 72, [], 0, 0, zM0) :: tkX8_ofTwo_73
def tkX8_ofTwo_63 : List mE := (63, .iload_n 1, 1, 1, [], 0, 0, zM0) ::
  (64, .iload_n 2, 1, 2, [], 0, 0, zM0) ::
  (65, .if_icmp .ne 7, 3, 72, [], 0, 0, zM0) ::
  (68, .iconst 1, 1, 68, [], 1, 0, zM0) ::
  (69, .goto 4, 3, 73, [], 0, 0, zM0) :: tkX8_ofTwo_72
def tkX8_ofTwo_62 : List mE := (62, .ireturn, 1, 62, [], 0, 0, zM0) :: tkX8_ofTwo_63
def tkX8_ofTwo_61 : List mE := (61, .iconst 0, 1, 61, [], 0, 0, zM0) :: tkX8_ofTwo_62
def tkX8_ofTwo_52 : List mE := (52, .iload_n 1, 1, 1, [], 0, 0, zM0) ::
  (53, .iload_n 2, 1, 2, [], 0, 0, zM0) ::
  (54, .if_icmp .ge 7, 3, 61, [], 0, 0, zM0) ::
  (57, .iconst 1, 1, 57, [], 1, 0, zM0) ::
  (58, .goto 4, 3, 62, [], 0, 0, zM0) :: tkX8_ofTwo_61
def tkX8_ofTwo_48 : List mE := (48, .iload_n 1, 1, 1, [], 0, 0, zM0) ::
  (49, .iload_n 2, 1, 2, [], 0, 0, zM0) ::
  (50, .isub, 1, 50, [], 0, 0, zM0) ::
  (51, .ireturn, 1, 51, [], 0, 0, zM0) :: tkX8_ofTwo_52
def tkX8_ofTwo_44 : List mE := (44, .iload_n 1, 1, 1, [], 0, 0, zM0) ::
  (45, .iload_n 2, 1, 2, [], 0, 0, zM0) ::
  (46, .iadd, 1, 46, [], 0, 0, zM0) ::
  (47, .ireturn, 1, 47, [], 0, 0, zM0) :: tkX8_ofTwo_48
def tkX8_ofTwo_40 : List mE := (40, .iload_n 1, 1, 1, [], 0, 0, zM0) ::
  (41, .iload_n 2, 1, 2, [], 0, 0, zM0) ::
  (42, .imul, 1, 42, [], 0, 0, zM0) ::
  (43, .ireturn, 1, 43, [], 0, 0, zM0) :: tkX8_ofTwo_44
def tkX8_ofTwo_0 : List mE := (0, .iload_n 0, 1, 0, [], 0, 0, zM0) ::
  (1, .tableswitch 87 8 13 #[39, 43, 47, 51, 62, 73], 39, 88, [40, 44, 48, 52, 63, 74], 0, 0, zM0) :: tkX8_ofTwo_40
def tkX8_ofTwo : List mE := tkX8_ofTwo_0
set_option maxRecDepth 100000 in
theorem zkX8_ofTwo : zat 0 tkX8_ofTwo = tkX8_ofTwo_0 ∧ zat 40 tkX8_ofTwo = tkX8_ofTwo_40 ∧ zat 44 tkX8_ofTwo = tkX8_ofTwo_44 ∧ zat 48 tkX8_ofTwo = tkX8_ofTwo_48 ∧ zat 52 tkX8_ofTwo = tkX8_ofTwo_52 ∧ zat 61 tkX8_ofTwo = tkX8_ofTwo_61 ∧ zat 62 tkX8_ofTwo = tkX8_ofTwo_62 ∧ zat 63 tkX8_ofTwo = tkX8_ofTwo_63 ∧ zat 72 tkX8_ofTwo = tkX8_ofTwo_72 ∧ zat 73 tkX8_ofTwo = tkX8_ofTwo_73 ∧ zat 74 tkX8_ofTwo = tkX8_ofTwo_74 ∧ zat 86 tkX8_ofTwo = tkX8_ofTwo_86 ∧ zat 87 tkX8_ofTwo = tkX8_ofTwo_87 ∧ zat 88 tkX8_ofTwo = tkX8_ofTwo_88 ∧ zat 96 tkX8_ofTwo = tkX8_ofTwo_96 ∧ zat 100 tkX8_ofTwo = tkX8_ofTwo_100 ∧ zat 101 tkX8_ofTwo = tkX8_ofTwo_101 := ⟨rfl, rfl, rfl, rfl, rfl, rfl, rfl, rfl, rfl, rfl, rfl, rfl, rfl, rfl, rfl, rfl, rfl⟩
theorem okX8_ofTwo : zok kX8_ofTwo.2.1 kX8_ofTwo.2.2.1 kX8_ofTwo.2.2.2.1 tkX8_ofTwo = true := by decide +kernel
