/-! The code of LaidByArgumentModel. -/
def tkX11_init_119 : List mE := (119, .aload_n 0, 1, 0, [], 0, 0, zM0) ::
  (120, .iconst 0, 1, 120, [], 0, 0, zM0) ::
  (121, .bipush 108, 2, 121, [], 108, 0, zM0) ::
  (123, .bipush 97, 2, 123, [], 97, 0, zM0) ::
  (125, .bipush 121, 2, 125, [], 121, 0, zM0) ::
  (127, .bipush 115, 2, 127, [], 115, 0, zM0) ::
  (129, .bipush 32, 2, 129, [], 32, 0, zM0) ::
  (131, .bipush 97, 2, 131, [], 97, 0, zM0) ::
  (133, .bipush 103, 2, 133, [], 103, 0, zM0) ::
  (135, .bipush 97, 2, 135, [], 97, 0, zM0) ::
  (137, .invokevirtual 60, 3, 11, [5033, 9, 0], 0, 0, kX11_spell) ::
  (140, .aload_n 0, 1, 0, [], 0, 0, zM0) ::
  (141, .bipush 8, 2, 141, [], 8, 0, zM0) ::
  (143, .bipush 105, 2, 143, [], 105, 0, zM0) ::
  (145, .bipush 110, 2, 145, [], 110, 0, zM0) ::
  (147, .bipush 115, 2, 147, [], 115, 0, zM0) ::
  (149, .bipush 116, 2, 149, [], 116, 0, zM0) ::
  (151, .bipush 32, 2, 151, [], 32, 0, zM0) ::
  (153, .bipush 59, 2, 153, [], 59, 0, zM0) ::
  (155, .bipush 32, 2, 155, [], 32, 0, zM0) ::
  (157, .bipush 121, 2, 157, [], 121, 0, zM0) ::
  (159, .invokevirtual 60, 3, 11, [5033, 9, 0], 0, 0, kX11_spell) ::
  (162, .aload_n 0, 1, 0, [], 0, 0, zM0) ::
  (163, .bipush 16, 2, 163, [], 16, 0, zM0) ::
  (165, .bipush 105, 2, 165, [], 105, 0, zM0) ::
  (167, .bipush 101, 2, 167, [], 101, 0, zM0) ::
  (169, .bipush 108, 2, 169, [], 108, 0, zM0) ::
  (171, .bipush 100, 2, 171, [], 100, 0, zM0) ::
  (173, .bipush 115, 2, 173, [], 115, 0, zM0) ::
  (175, .bipush 32, 2, 175, [], 32, 0, zM0) ::
  (177, .bipush 49, 2, 177, [], 49, 0, zM0) ::
  (179, .bipush 32, 2, 179, [], 32, 0, zM0) ::
  (181, .invokevirtual 60, 3, 11, [5033, 9, 0], 0, 0, kX11_spell) ::
  (184, .aload_n 0, 1, 0, [], 0, 0, zM0) ::
  (185, .bipush 24, 2, 185, [], 24, 0, zM0) ::
  (187, .bipush 59, 2, 187, [], 59, 0, zM0) ::
  (189, .bipush 32, 2, 189, [], 32, 0, zM0) ::
  (191, .bipush 100, 2, 191, [], 100, 0, zM0) ::
  (193, .bipush 114, 2, 193, [], 114, 0, zM0) ::
  (195, .bipush 111, 2, 195, [], 111, 0, zM0) ::
  (197, .bipush 112, 2, 197, [], 112, 0, zM0) ::
  (199, .bipush 115, 2, 199, [], 115, 0, zM0) ::
  (201, .bipush 32, 2, 201, [], 32, 0, zM0) ::
  (203, .invokevirtual 60, 3, 11, [5033, 9, 0], 0, 0, kX11_spell) ::
  (206, .aload_n 0, 1, 0, [], 0, 0, zM0) ::
  (207, .bipush 32, 2, 207, [], 32, 0, zM0) ::
  (209, .bipush 48, 2, 209, [], 48, 0, zM0) ::
  (211, .bipush 32, 2, 211, [], 32, 0, zM0) ::
  (213, .bipush 59, 2, 213, [], 59, 0, zM0) ::
  (215, .bipush 32, 2, 215, [], 32, 0, zM0) ::
  (217, .bipush 32, 2, 217, [], 32, 0, zM0) ::
  (219, .bipush 32, 2, 219, [], 32, 0, zM0) ::
  (221, .bipush 32, 2, 221, [], 32, 0, zM0) ::
  (223, .bipush 32, 2, 223, [], 32, 0, zM0) ::
  (225, .invokevirtual 60, 3, 11, [5033, 9, 0], 0, 0, kX11_spell) ::
  (228, .aload_n 0, 1, 0, [], 0, 0, zM0) ::
  (229, .getfield 17, 3, 11, [2, 2, 5038], 0, 0, zM0) ::
  (232, .iconst 0, 1, 232, [], 0, 0, zM0) ::
  (233, .bipush 40, 2, 233, [], 40, 0, zM0) ::
  (235, .iastore, 1, 235, [], 0, 0, zM0) ::
  (236, .aload_n 0, 1, 0, [], 0, 0, zM0) ::
  (237, .iconst 1, 1, 237, [], 1, 0, zM0) ::
  (238, .putfield 64, 3, 11, [3, 0, 5039], 0, 0, zM0) ::
  (241, .return_, 1, 241, [], 0, 0, zM0) :: []
def tkX11_init_116 : List mE := (116, .putfield 57, 3, 116, [], 0, 0, zM0) :: tkX11_init_119
def tkX11_init_114 : List mE := (114, .newarray .int, 2, 114, [], 0, 0, zM0) :: tkX11_init_116
def tkX11_init_110 : List mE := (110, .aload_n 0, 1, 0, [], 0, 0, zM0) ::
  (111, .sipush 160, 3, 111, [], 160, 0, zM0) :: tkX11_init_114
def tkX11_init_107 : List mE := (107, .putfield 54, 3, 107, [], 0, 0, zM0) :: tkX11_init_110
def tkX11_init_105 : List mE := (105, .newarray .int, 2, 105, [], 0, 0, zM0) :: tkX11_init_107
def tkX11_init_103 : List mE := (103, .aload_n 0, 1, 0, [], 0, 0, zM0) ::
  (104, .iconst 4, 1, 104, [], 4, 0, zM0) :: tkX11_init_105
def tkX11_init_100 : List mE := (100, .putfield 51, 3, 100, [], 0, 0, zM0) :: tkX11_init_103
def tkX11_init_98 : List mE := (98, .newarray .int, 2, 98, [], 0, 0, zM0) :: tkX11_init_100
def tkX11_init_96 : List mE := (96, .aload_n 0, 1, 0, [], 0, 0, zM0) ::
  (97, .iconst 4, 1, 97, [], 4, 0, zM0) :: tkX11_init_98
def tkX11_init_93 : List mE := (93, .putfield 47, 3, 93, [], 0, 0, zM0) :: tkX11_init_96
def tkX11_init_91 : List mE := (91, .newarray .boolean, 2, 91, [], 0, 0, zM0) :: tkX11_init_93
def tkX11_init_84 : List mE := (84, .aload_n 0, 1, 0, [], 0, 0, zM0) ::
  (85, .iconst (-1), 1, 85, [], (-1), 0, zM0) ::
  (86, .putfield 44, 3, 11, [39, 0, 5075], 0, 0, zM0) ::
  (89, .aload_n 0, 1, 0, [], 0, 0, zM0) ::
  (90, .iconst 4, 1, 90, [], 4, 0, zM0) :: tkX11_init_91
def tkX11_init_81 : List mE := (81, .putfield 41, 3, 81, [], 0, 0, zM0) :: tkX11_init_84
def tkX11_init_79 : List mE := (79, .newarray .int, 2, 79, [], 0, 0, zM0) :: tkX11_init_81
def tkX11_init_76 : List mE := (76, .aload_n 0, 1, 0, [], 0, 0, zM0) ::
  (77, .bipush 15, 2, 77, [], 15, 0, zM0) :: tkX11_init_79
def tkX11_init_73 : List mE := (73, .putfield 38, 3, 73, [], 0, 0, zM0) :: tkX11_init_76
def tkX11_init_71 : List mE := (71, .newarray .int, 2, 71, [], 0, 0, zM0) :: tkX11_init_73
def tkX11_init_68 : List mE := (68, .aload_n 0, 1, 0, [], 0, 0, zM0) ::
  (69, .bipush 10, 2, 69, [], 10, 0, zM0) :: tkX11_init_71
def tkX11_init_65 : List mE := (65, .putfield 35, 3, 65, [], 0, 0, zM0) :: tkX11_init_68
def tkX11_init_63 : List mE := (63, .newarray .int, 2, 63, [], 0, 0, zM0) :: tkX11_init_65
def tkX11_init_60 : List mE := (60, .aload_n 0, 1, 0, [], 0, 0, zM0) ::
  (61, .bipush 15, 2, 61, [], 15, 0, zM0) :: tkX11_init_63
def tkX11_init_57 : List mE := (57, .putfield 32, 3, 57, [], 0, 0, zM0) :: tkX11_init_60
def tkX11_init_55 : List mE := (55, .newarray .int, 2, 55, [], 0, 0, zM0) :: tkX11_init_57
def tkX11_init_53 : List mE := (53, .aload_n 0, 1, 0, [], 0, 0, zM0) ::
  (54, .iconst 5, 1, 54, [], 5, 0, zM0) :: tkX11_init_55
def tkX11_init_50 : List mE := (50, .putfield 29, 3, 50, [], 0, 0, zM0) :: tkX11_init_53
def tkX11_init_48 : List mE := (48, .newarray .int, 2, 48, [], 0, 0, zM0) :: tkX11_init_50
def tkX11_init_45 : List mE := (45, .aload_n 0, 1, 0, [], 0, 0, zM0) ::
  (46, .bipush 15, 2, 46, [], 15, 0, zM0) :: tkX11_init_48
def tkX11_init_42 : List mE := (42, .putfield 26, 3, 42, [], 0, 0, zM0) :: tkX11_init_45
def tkX11_init_40 : List mE := (40, .newarray .int, 2, 40, [], 0, 0, zM0) :: tkX11_init_42
def tkX11_init_38 : List mE := (38, .aload_n 0, 1, 0, [], 0, 0, zM0) ::
  (39, .iconst 5, 1, 39, [], 5, 0, zM0) :: tkX11_init_40
def tkX11_init_35 : List mE := (35, .putfield 23, 3, 35, [], 0, 0, zM0) :: tkX11_init_38
def tkX11_init_33 : List mE := (33, .newarray .int, 2, 33, [], 0, 0, zM0) :: tkX11_init_35
def tkX11_init_30 : List mE := (30, .aload_n 0, 1, 0, [], 0, 0, zM0) ::
  (31, .bipush 10, 2, 31, [], 10, 0, zM0) :: tkX11_init_33
def tkX11_init_27 : List mE := (27, .putfield 20, 3, 27, [], 0, 0, zM0) :: tkX11_init_30
def tkX11_init_25 : List mE := (25, .newarray .int, 2, 25, [], 0, 0, zM0) :: tkX11_init_27
def tkX11_init_21 : List mE := (21, .aload_n 0, 1, 0, [], 0, 0, zM0) ::
  (22, .sipush 160, 3, 22, [], 160, 0, zM0) :: tkX11_init_25
def tkX11_init_18 : List mE := (18, .putfield 17, 3, 18, [], 0, 0, zM0) :: tkX11_init_21
def tkX11_init_16 : List mE := (16, .newarray .int, 2, 16, [], 0, 0, zM0) :: tkX11_init_18
def tkX11_init_13 : List mE := (13, .aload_n 0, 1, 0, [], 0, 0, zM0) ::
  (14, .bipush 6, 2, 14, [], 6, 0, zM0) :: tkX11_init_16
def tkX11_init_10 : List mE := (10, .putfield 13, 3, 10, [], 0, 0, zM0) :: tkX11_init_13
def tkX11_init_8 : List mE := (8, .newarray .int, 2, 8, [], 0, 0, zM0) :: tkX11_init_10
def tkX11_init_4 : List mE := (4, .aload_n 0, 1, 0, [], 0, 0, zM0) ::
  (5, .sipush 960, 3, 5, [], 960, 0, zM0) :: tkX11_init_8
def tkX11_init_1 : List mE := (1, .invokespecial 7, 3, 1, [], 0, 0, zM0) :: tkX11_init_4
def tkX11_init_0 : List mE := (0, .aload_n 0, 1, 0, [], 0, 0, zM0) :: tkX11_init_1
def tkX11_init : List mE := tkX11_init_0
set_option maxRecDepth 100000 in
theorem zkX11_init : zat 0 tkX11_init = tkX11_init_0 ∧ zat 1 tkX11_init = tkX11_init_1 ∧ zat 4 tkX11_init = tkX11_init_4 ∧ zat 8 tkX11_init = tkX11_init_8 ∧ zat 10 tkX11_init = tkX11_init_10 ∧ zat 13 tkX11_init = tkX11_init_13 ∧ zat 16 tkX11_init = tkX11_init_16 ∧ zat 18 tkX11_init = tkX11_init_18 ∧ zat 21 tkX11_init = tkX11_init_21 ∧ zat 25 tkX11_init = tkX11_init_25 ∧ zat 27 tkX11_init = tkX11_init_27 ∧ zat 30 tkX11_init = tkX11_init_30 ∧ zat 33 tkX11_init = tkX11_init_33 ∧ zat 35 tkX11_init = tkX11_init_35 ∧ zat 38 tkX11_init = tkX11_init_38 ∧ zat 40 tkX11_init = tkX11_init_40 ∧ zat 42 tkX11_init = tkX11_init_42 ∧ zat 45 tkX11_init = tkX11_init_45 ∧ zat 48 tkX11_init = tkX11_init_48 ∧ zat 50 tkX11_init = tkX11_init_50 ∧ zat 53 tkX11_init = tkX11_init_53 ∧ zat 55 tkX11_init = tkX11_init_55 ∧ zat 57 tkX11_init = tkX11_init_57 ∧ zat 60 tkX11_init = tkX11_init_60 ∧ zat 63 tkX11_init = tkX11_init_63 ∧ zat 65 tkX11_init = tkX11_init_65 ∧ zat 68 tkX11_init = tkX11_init_68 ∧ zat 71 tkX11_init = tkX11_init_71 ∧ zat 73 tkX11_init = tkX11_init_73 ∧ zat 76 tkX11_init = tkX11_init_76 ∧ zat 79 tkX11_init = tkX11_init_79 ∧ zat 81 tkX11_init = tkX11_init_81 ∧ zat 84 tkX11_init = tkX11_init_84 ∧ zat 91 tkX11_init = tkX11_init_91 ∧ zat 93 tkX11_init = tkX11_init_93 ∧ zat 96 tkX11_init = tkX11_init_96 ∧ zat 98 tkX11_init = tkX11_init_98 ∧ zat 100 tkX11_init = tkX11_init_100 ∧ zat 103 tkX11_init = tkX11_init_103 ∧ zat 105 tkX11_init = tkX11_init_105 ∧ zat 107 tkX11_init = tkX11_init_107 ∧ zat 110 tkX11_init = tkX11_init_110 ∧ zat 114 tkX11_init = tkX11_init_114 ∧ zat 116 tkX11_init = tkX11_init_116 ∧ zat 119 tkX11_init = tkX11_init_119 := ⟨rfl, rfl, rfl, rfl, rfl, rfl, rfl, rfl, rfl, rfl, rfl, rfl, rfl, rfl, rfl, rfl, rfl, rfl, rfl, rfl, rfl, rfl, rfl, rfl, rfl, rfl, rfl, rfl, rfl, rfl, rfl, rfl, rfl, rfl, rfl, rfl, rfl, rfl, rfl, rfl, rfl, rfl, rfl, rfl, rfl⟩
theorem okX11_init : zok kX11_init.2.1 kX11_init.2.2.1 kX11_init.2.2.2.1 tkX11_init = true := by decide +kernel
def tkX11_spell_0 : List mE := (0, .aload_n 0, 1, 0, [], 0, 0, zM0) ::
  (1, .getfield 13, 3, 11, [1, 2, 5037], 0, 0, zM0) ::
  (4, .iload_n 1, 1, 1, [], 0, 0, zM0) ::
  (5, .iload_n 2, 1, 2, [], 0, 0, zM0) ::
  (6, .iastore, 1, 6, [], 0, 0, zM0) ::
  (7, .aload_n 0, 1, 0, [], 0, 0, zM0) ::
  (8, .getfield 13, 3, 11, [1, 2, 5037], 0, 0, zM0) ::
  (11, .iload_n 1, 1, 1, [], 0, 0, zM0) ::
  (12, .iconst 1, 1, 12, [], 1, 0, zM0) ::
  (13, .iadd, 1, 13, [], 0, 0, zM0) ::
  (14, .iload_n 3, 1, 3, [], 0, 0, zM0) ::
  (15, .iastore, 1, 15, [], 0, 0, zM0) ::
  (16, .aload_n 0, 1, 0, [], 0, 0, zM0) ::
  (17, .getfield 13, 3, 11, [1, 2, 5037], 0, 0, zM0) ::
  (20, .iload_n 1, 1, 1, [], 0, 0, zM0) ::
  (21, .iconst 2, 1, 21, [], 2, 0, zM0) ::
  (22, .iadd, 1, 22, [], 0, 0, zM0) ::
  (23, .iload 4, 2, 4, [], 0, 0, zM0) ::
  (25, .iastore, 1, 25, [], 0, 0, zM0) ::
  (26, .aload_n 0, 1, 0, [], 0, 0, zM0) ::
  (27, .getfield 13, 3, 11, [1, 2, 5037], 0, 0, zM0) ::
  (30, .iload_n 1, 1, 1, [], 0, 0, zM0) ::
  (31, .iconst 3, 1, 31, [], 3, 0, zM0) ::
  (32, .iadd, 1, 32, [], 0, 0, zM0) ::
  (33, .iload 5, 2, 5, [], 0, 0, zM0) ::
  (35, .iastore, 1, 35, [], 0, 0, zM0) ::
  (36, .aload_n 0, 1, 0, [], 0, 0, zM0) ::
  (37, .getfield 13, 3, 11, [1, 2, 5037], 0, 0, zM0) ::
  (40, .iload_n 1, 1, 1, [], 0, 0, zM0) ::
  (41, .iconst 4, 1, 41, [], 4, 0, zM0) ::
  (42, .iadd, 1, 42, [], 0, 0, zM0) ::
  (43, .iload 6, 2, 6, [], 0, 0, zM0) ::
  (45, .iastore, 1, 45, [], 0, 0, zM0) ::
  (46, .aload_n 0, 1, 0, [], 0, 0, zM0) ::
  (47, .getfield 13, 3, 11, [1, 2, 5037], 0, 0, zM0) ::
  (50, .iload_n 1, 1, 1, [], 0, 0, zM0) ::
  (51, .iconst 5, 1, 51, [], 5, 0, zM0) ::
  (52, .iadd, 1, 52, [], 0, 0, zM0) ::
  (53, .iload 7, 2, 7, [], 0, 0, zM0) ::
  (55, .iastore, 1, 55, [], 0, 0, zM0) ::
  (56, .aload_n 0, 1, 0, [], 0, 0, zM0) ::
  (57, .getfield 13, 3, 11, [1, 2, 5037], 0, 0, zM0) ::
  (60, .iload_n 1, 1, 1, [], 0, 0, zM0) ::
  (61, .bipush 6, 2, 61, [], 6, 0, zM0) ::
  (63, .iadd, 1, 63, [], 0, 0, zM0) ::
  (64, .iload 8, 2, 8, [], 0, 0, zM0) ::
  (66, .iastore, 1, 66, [], 0, 0, zM0) ::
  (67, .aload_n 0, 1, 0, [], 0, 0, zM0) ::
  (68, .getfield 13, 3, 11, [1, 2, 5037], 0, 0, zM0) ::
  (71, .iload_n 1, 1, 1, [], 0, 0, zM0) ::
  (72, .bipush 7, 2, 72, [], 7, 0, zM0) ::
  (74, .iadd, 1, 74, [], 0, 0, zM0) ::
  (75, .iload 9, 2, 9, [], 0, 0, zM0) ::
  (77, .iastore, 1, 77, [], 0, 0, zM0) ::
  (78, .return_, 1, 78, [], 0, 0, zM0) :: []
def tkX11_spell : List mE := tkX11_spell_0
theorem zkX11_spell : zat 0 tkX11_spell = tkX11_spell_0 := rfl
theorem okX11_spell : zok kX11_spell.2.1 kX11_spell.2.2.1 kX11_spell.2.2.2.1 tkX11_spell = true := by decide +kernel
def tkX11_against_32 : List mE := (32, .aload_n 0, 1, 0, [], 0, 0, zM0) ::
  (33, .getfield 23, 3, 11, [8, 2, 5044], 0, 0, zM0) ::
  (36, .iload_n 1, 1, 1, [], 0, 0, zM0) ::
  (37, .iaload, 1, 0, [], 0, 0, zM0) ::
  (38, .iload_n 2, 1, 2, [], 0, 0, zM0) ::
  (39, .ishr, 1, 39, [], 0, 0, zM0) ::
  (40, .iconst 1, 1, 40, [], 1, 0, zM0) ::
  (41, .iand, 1, 41, [], 0, 0, zM0) ::
  (42, .istore 4, 2, 4, [], 0, 0, zM0) ::
  (44, .aload_n 0, 1, 0, [], 0, 0, zM0) ::
  (45, .getfield 23, 3, 11, [8, 2, 5044], 0, 0, zM0) ::
  (48, .iload_n 1, 1, 1, [], 0, 0, zM0) ::
  (49, .aload_n 0, 1, 0, [], 0, 0, zM0) ::
  (50, .getfield 23, 3, 11, [8, 2, 5044], 0, 0, zM0) ::
  (53, .iload_n 1, 1, 1, [], 0, 0, zM0) ::
  (54, .iaload, 1, 0, [], 0, 0, zM0) ::
  (55, .iconst 1, 1, 55, [], 1, 0, zM0) ::
  (56, .iload_n 2, 1, 2, [], 0, 0, zM0) ::
  (57, .ishl, 1, 57, [], 0, 0, zM0) ::
  (58, .iconst (-1), 1, 58, [], (-1), 0, zM0) ::
  (59, .ixor, 1, 59, [], 0, 0, zM0) ::
  (60, .iand, 1, 60, [], 0, 0, zM0) ::
  (61, .iload_n 3, 1, 3, [], 0, 0, zM0) ::
  (62, .iload_n 2, 1, 2, [], 0, 0, zM0) ::
  (63, .ishl, 1, 63, [], 0, 0, zM0) ::
  (64, .ior, 1, 64, [], 0, 0, zM0) ::
  (65, .iastore, 1, 65, [], 0, 0, zM0) ::
  (66, .iload 4, 2, 4, [], 0, 0, zM0) ::
  (68, .ireturn, 1, 68, [], 0, 0, zM0) :: []
def tkX11_against_29 : List mE := (29, .bipush (-2), 2, 29, [], (-2), 0, zM0) ::
  (31, .ireturn, 1, 31, [], 0, 0, zM0) :: tkX11_against_32
def tkX11_against_0 : List mE := (0, .iload_n 1, 1, 1, [], 0, 0, zM0) ::
  (1, .invokestatic 76, 3, 0, [5180, 1, 1], 0, 0, kX11_isPoint) ::
  (4, .ifCond .eq 25, 3, 29, [], 0, 0, zM0) ::
  (7, .iload_n 2, 1, 2, [], 0, 0, zM0) ::
  (8, .invokestatic 76, 3, 0, [5180, 1, 1], 0, 0, kX11_isPoint) ::
  (11, .ifCond .eq 18, 3, 29, [], 0, 0, zM0) ::
  (14, .iload_n 1, 1, 1, [], 0, 0, zM0) ::
  (15, .iload_n 2, 1, 2, [], 0, 0, zM0) ::
  (16, .if_icmp .eq 13, 3, 29, [], 0, 0, zM0) ::
  (19, .iload_n 3, 1, 3, [], 0, 0, zM0) ::
  (20, .i2l, 1, 20, [], 0, 0, zM0) ::
  (21, .lconst 0, 1, 21, [], 0, 0, zM0) ::
  (22, .lconst 1, 1, 22, [], 0, 1, zM0) ::
  (23, .invokestatic 70, 3, 0, [5184, 3, 1], 0, 0, kX11_in) ::
  (26, .ifCond .ne 6, 3, 32, [], 0, 0, zM0) :: tkX11_against_29
def tkX11_against : List mE := tkX11_against_0
theorem zkX11_against : zat 0 tkX11_against = tkX11_against_0 ∧ zat 29 tkX11_against = tkX11_against_29 ∧ zat 32 tkX11_against = tkX11_against_32 := ⟨rfl, rfl, rfl⟩
theorem okX11_against : zok kX11_against.2.1 kX11_against.2.2.1 kX11_against.2.2.2.1 tkX11_against = true := by decide +kernel
def tkX11_isPoint_0 : List mE := (0, .iload_n 0, 1, 0, [], 0, 0, zM0) ::
  (1, .i2l, 1, 1, [], 0, 0, zM0) ::
  (2, .lconst 0, 1, 2, [], 0, 0, zM0) ::
  (3, .ldc2_w 74, 3, 3, [5183], 0, 9, zM0) ::
  (6, .invokestatic 70, 3, 0, [5184, 3, 1], 0, 0, kX11_in) ::
  (9, .ireturn, 1, 9, [], 0, 0, zM0) :: []
def tkX11_isPoint : List mE := tkX11_isPoint_0
theorem zkX11_isPoint : zat 0 tkX11_isPoint = tkX11_isPoint_0 := rfl
theorem okX11_isPoint : zok kX11_isPoint.2.1 kX11_isPoint.2.2.1 kX11_isPoint.2.2.2.1 tkX11_isPoint = true := by decide +kernel
def tkX11_in_18 : List mE := (18, .ireturn, 1, 18, [], 0, 0, zM0) :: []
def tkX11_in_17 : List mE := (17, .iconst 0, 1, 17, [], 0, 0, zM0) :: tkX11_in_18
def tkX11_in_0 : List mE := (0, .lload_n 0, 1, 0, [], 0, 0, zM0) ::
  (1, .lload_n 2, 1, 2, [], 0, 0, zM0) ::
  (2, .lcmp, 1, 2, [], 0, 0, zM0) ::
  (3, .ifCond .lt 14, 3, 17, [], 0, 0, zM0) ::
  (6, .lload_n 0, 1, 0, [], 0, 0, zM0) ::
  (7, .lload 4, 2, 4, [], 0, 0, zM0) ::
  (9, .lcmp, 1, 9, [], 0, 0, zM0) ::
  (10, .ifCond .gt 7, 3, 17, [], 0, 0, zM0) ::
  (13, .iconst 1, 1, 13, [], 1, 0, zM0) ::
  (14, .goto 4, 3, 18, [], 0, 0, zM0) :: tkX11_in_17
def tkX11_in : List mE := tkX11_in_0
theorem zkX11_in : zat 0 tkX11_in = tkX11_in_0 ∧ zat 17 tkX11_in = tkX11_in_17 ∧ zat 18 tkX11_in = tkX11_in_18 := ⟨rfl, rfl, rfl⟩
theorem okX11_in : zok kX11_in.2.1 kX11_in.2.2.1 kX11_in.2.2.2.1 tkX11_in = true := by decide +kernel
def tkX11_set_41 : List mE := (41, .aload_n 0, 1, 0, [], 0, 0, zM0) ::
  (42, .iload_n 2, 1, 2, [], 0, 0, zM0) ::
  (43, .iload_n 1, 1, 1, [], 0, 0, zM0) ::
  (44, .invokevirtual 89, 3, 11, [5199, 2, 1], 0, 0, kX11_told) ::
  (47, .istore 4, 2, 4, [], 0, 0, zM0) ::
  (49, .aload_n 0, 1, 0, [], 0, 0, zM0) ::
  (50, .iload_n 1, 1, 1, [], 0, 0, zM0) ::
  (51, .iload_n 2, 1, 2, [], 0, 0, zM0) ::
  (52, .iload_n 3, 1, 3, [], 0, 0, zM0) ::
  (53, .invokevirtual 93, 3, 11, [6069, 3, 0], 0, 0, kX11_lays1) ::
  (56, .iload 4, 2, 4, [], 0, 0, zM0) ::
  (58, .ireturn, 1, 58, [], 0, 0, zM0) :: []
def tkX11_set_38 : List mE := (38, .bipush (-2), 2, 38, [], (-2), 0, zM0) ::
  (40, .ireturn, 1, 40, [], 0, 0, zM0) :: tkX11_set_41
def tkX11_set_24 : List mE := (24, .iload_n 3, 1, 3, [], 0, 0, zM0) ::
  (25, .i2l, 1, 25, [], 0, 0, zM0) ::
  (26, .lconst 0, 1, 26, [], 0, 0, zM0) ::
  (27, .iload_n 1, 1, 1, [], 0, 0, zM0) ::
  (28, .invokestatic 85, 3, 0, [5196, 1, 1], 0, 0, kX11_mostOf) ::
  (31, .i2l, 1, 31, [], 0, 0, zM0) ::
  (32, .invokestatic 70, 3, 0, [5184, 3, 1], 0, 0, kX11_in) ::
  (35, .ifCond .ne 6, 3, 41, [], 0, 0, zM0) :: tkX11_set_38
def tkX11_set_0 : List mE := (0, .iload_n 1, 1, 1, [], 0, 0, zM0) ::
  (1, .i2l, 1, 1, [], 0, 0, zM0) ::
  (2, .lconst 0, 1, 2, [], 0, 0, zM0) ::
  (3, .ldc2_w 80, 3, 3, [5191], 0, 3, zM0) ::
  (6, .invokestatic 70, 3, 0, [5184, 3, 1], 0, 0, kX11_in) ::
  (9, .ifCond .eq 29, 3, 38, [], 0, 0, zM0) ::
  (12, .iload_n 1, 1, 1, [], 0, 0, zM0) ::
  (13, .ifCond .le 11, 3, 24, [], 0, 0, zM0) ::
  (16, .aload_n 0, 1, 0, [], 0, 0, zM0) ::
  (17, .iload_n 2, 1, 2, [], 0, 0, zM0) ::
  (18, .invokevirtual 82, 3, 11, [5192, 1, 1], 0, 0, kX11_isHen) ::
  (21, .ifCond .eq 17, 3, 38, [], 0, 0, zM0) :: tkX11_set_24
def tkX11_set : List mE := tkX11_set_0
theorem zkX11_set : zat 0 tkX11_set = tkX11_set_0 ∧ zat 24 tkX11_set = tkX11_set_24 ∧ zat 38 tkX11_set = tkX11_set_38 ∧ zat 41 tkX11_set = tkX11_set_41 := ⟨rfl, rfl, rfl, rfl⟩
theorem okX11_set : zok kX11_set.2.1 kX11_set.2.2.1 kX11_set.2.2.2.1 tkX11_set = true := by decide +kernel
def tkX11_isHen_0 : List mE := (0, .iload_n 1, 1, 1, [], 0, 0, zM0) ::
  (1, .i2l, 1, 1, [], 0, 0, zM0) ::
  (2, .lconst 0, 1, 2, [], 0, 0, zM0) ::
  (3, .aload_n 0, 1, 0, [], 0, 0, zM0) ::
  (4, .getfield 67, 3, 11, [11, 0, 5047], 0, 0, zM0) ::
  (7, .iconst 1, 1, 7, [], 1, 0, zM0) ::
  (8, .isub, 1, 8, [], 0, 0, zM0) ::
  (9, .i2l, 1, 9, [], 0, 0, zM0) ::
  (10, .invokestatic 70, 3, 0, [5184, 3, 1], 0, 0, kX11_in) ::
  (13, .ireturn, 1, 13, [], 0, 0, zM0) :: []
def tkX11_isHen : List mE := tkX11_isHen_0
theorem zkX11_isHen : zat 0 tkX11_isHen = tkX11_isHen_0 := rfl
theorem okX11_isHen : zok kX11_isHen.2.1 kX11_isHen.2.2.1 kX11_isHen.2.2.2.1 tkX11_isHen = true := by decide +kernel
def tkX11_mostOf_24 : List mE := (24, .ireturn, 1, 24, [], 0, 0, zM0) :: []
def tkX11_mostOf_21 : List mE := (21, .sipush 999, 3, 21, [], 999, 0, zM0) :: tkX11_mostOf_24
def tkX11_mostOf_10 : List mE := (10, .iload_n 0, 1, 0, [], 0, 0, zM0) ::
  (11, .iconst 2, 1, 11, [], 2, 0, zM0) ::
  (12, .if_icmp .ne 9, 3, 21, [], 0, 0, zM0) ::
  (15, .sipush 1023, 3, 15, [], 1023, 0, zM0) ::
  (18, .goto 6, 3, 24, [], 0, 0, zM0) :: tkX11_mostOf_21
def tkX11_mostOf_0 : List mE := (0, .iload_n 0, 1, 0, [], 0, 0, zM0) ::
  (1, .iconst 1, 1, 1, [], 1, 0, zM0) ::
  (2, .if_icmp .ne 8, 3, 10, [], 0, 0, zM0) ::
  (5, .bipush 9, 2, 5, [], 9, 0, zM0) ::
  (7, .goto 17, 3, 24, [], 0, 0, zM0) :: tkX11_mostOf_10
def tkX11_mostOf : List mE := tkX11_mostOf_0
theorem zkX11_mostOf : zat 0 tkX11_mostOf = tkX11_mostOf_0 ∧ zat 10 tkX11_mostOf = tkX11_mostOf_10 ∧ zat 21 tkX11_mostOf = tkX11_mostOf_21 ∧ zat 24 tkX11_mostOf = tkX11_mostOf_24 := ⟨rfl, rfl, rfl, rfl⟩
theorem okX11_mostOf : zok kX11_mostOf.2.1 kX11_mostOf.2.2.1 kX11_mostOf.2.2.2.1 tkX11_mostOf = true := by decide +kernel
def tkX11_told_119 : List mE := (119, .ireturn, 1, 119, [], 0, 0, zM0) :: []
def tkX11_told_113 : List mE := (113, .aload_n 0, 1, 0, [], 0, 0, zM0) ::
  (114, .getfield 23, 3, 11, [8, 2, 5044], 0, 0, zM0) ::
  (117, .iload_n 1, 1, 1, [], 0, 0, zM0) ::
  (118, .iaload, 1, 0, [], 0, 0, zM0) :: tkX11_told_119
def tkX11_told_99 : List mE := (99, .iload_n 2, 1, 2, [], 0, 0, zM0) ::
  (100, .bipush 6, 2, 100, [], 6, 0, zM0) ::
  (102, .if_icmp .ne 11, 3, 113, [], 0, 0, zM0) ::
  (105, .aload_n 0, 1, 0, [], 0, 0, zM0) ::
  (106, .iload_n 1, 1, 1, [], 0, 0, zM0) ::
  (107, .invokevirtual 113, 3, 11, [5228, 1, 1], 0, 0, kX11_foes) ::
  (110, .goto 9, 3, 119, [], 0, 0, zM0) :: tkX11_told_113
def tkX11_told_86 : List mE := (86, .iload_n 2, 1, 2, [], 0, 0, zM0) ::
  (87, .iconst 5, 1, 87, [], 5, 0, zM0) ::
  (88, .if_icmp .ne 11, 3, 99, [], 0, 0, zM0) ::
  (91, .aload_n 0, 1, 0, [], 0, 0, zM0) ::
  (92, .iload_n 1, 1, 1, [], 0, 0, zM0) ::
  (93, .invokevirtual 110, 3, 11, [5204, 1, 1], 0, 0, kX11_dropSet) ::
  (96, .goto 23, 3, 119, [], 0, 0, zM0) :: tkX11_told_99
def tkX11_told_85 : List mE := (85, .ireturn, 1, 85, [], 0, 0, zM0) :: tkX11_told_86
def tkX11_told_79 : List mE := (79, .aload_n 0, 1, 0, [], 0, 0, zM0) ::
  (80, .getfield 26, 3, 11, [9, 2, 5045], 0, 0, zM0) ::
  (83, .iload_n 1, 1, 1, [], 0, 0, zM0) ::
  (84, .iaload, 1, 0, [], 0, 0, zM0) :: tkX11_told_85
def tkX11_told_59 : List mE := (59, .iload_n 2, 1, 2, [], 0, 0, zM0) ::
  (60, .iconst 4, 1, 60, [], 4, 0, zM0) ::
  (61, .if_icmp .ge 18, 3, 79, [], 0, 0, zM0) ::
  (64, .aload_n 0, 1, 0, [], 0, 0, zM0) ::
  (65, .getfield 29, 3, 11, [10, 2, 5046], 0, 0, zM0) ::
  (68, .iconst 3, 1, 68, [], 3, 0, zM0) ::
  (69, .iload_n 1, 1, 1, [], 0, 0, zM0) ::
  (70, .imul, 1, 70, [], 0, 0, zM0) ::
  (71, .iload_n 2, 1, 2, [], 0, 0, zM0) ::
  (72, .iadd, 1, 72, [], 0, 0, zM0) ::
  (73, .iconst 1, 1, 73, [], 1, 0, zM0) ::
  (74, .isub, 1, 74, [], 0, 0, zM0) ::
  (75, .iaload, 1, 0, [], 0, 0, zM0) ::
  (76, .goto 9, 3, 85, [], 0, 0, zM0) :: tkX11_told_79
def tkX11_told_43 : List mE := (43, .iload_n 2, 1, 2, [], 0, 0, zM0) ::
  (44, .iconst 5, 1, 44, [], 5, 0, zM0) ::
  (45, .if_icmp .ge 41, 3, 86, [], 0, 0, zM0) ::
  (48, .iload_n 2, 1, 2, [], 0, 0, zM0) ::
  (49, .ifCond .ne 10, 3, 59, [], 0, 0, zM0) ::
  (52, .aload_n 0, 1, 0, [], 0, 0, zM0) ::
  (53, .getfield 97, 3, 11, [7, 0, 5043], 0, 0, zM0) ::
  (56, .goto 29, 3, 85, [], 0, 0, zM0) :: tkX11_told_59
def tkX11_told_40 : List mE := (40, .bipush (-2), 2, 40, [], (-2), 0, zM0) ::
  (42, .ireturn, 1, 42, [], 0, 0, zM0) :: tkX11_told_43
def tkX11_told_33 : List mE := (33, .iload_n 1, 1, 1, [], 0, 0, zM0) ::
  (34, .invokestatic 76, 3, 0, [5180, 1, 1], 0, 0, kX11_isPoint) ::
  (37, .ifCond .ne 6, 3, 43, [], 0, 0, zM0) :: tkX11_told_40
def tkX11_told_0 : List mE := (0, .iload_n 2, 1, 2, [], 0, 0, zM0) ::
  (1, .i2l, 1, 1, [], 0, 0, zM0) ::
  (2, .lconst 0, 1, 2, [], 0, 0, zM0) ::
  (3, .ldc2_w 108, 3, 3, [5203], 0, 7, zM0) ::
  (6, .invokestatic 70, 3, 0, [5184, 3, 1], 0, 0, kX11_in) ::
  (9, .ifCond .eq 31, 3, 40, [], 0, 0, zM0) ::
  (12, .iload_n 2, 1, 2, [], 0, 0, zM0) ::
  (13, .ifCond .le 30, 3, 43, [], 0, 0, zM0) ::
  (16, .iload_n 2, 1, 2, [], 0, 0, zM0) ::
  (17, .bipush 6, 2, 17, [], 6, 0, zM0) ::
  (19, .if_icmp .ge 14, 3, 33, [], 0, 0, zM0) ::
  (22, .aload_n 0, 1, 0, [], 0, 0, zM0) ::
  (23, .iload_n 1, 1, 1, [], 0, 0, zM0) ::
  (24, .invokevirtual 82, 3, 11, [5192, 1, 1], 0, 0, kX11_isHen) ::
  (27, .ifCond .ne 16, 3, 43, [], 0, 0, zM0) ::
  (30, .goto 10, 3, 40, [], 0, 0, zM0) :: tkX11_told_33
def tkX11_told : List mE := tkX11_told_0
theorem zkX11_told : zat 0 tkX11_told = tkX11_told_0 ∧ zat 33 tkX11_told = tkX11_told_33 ∧ zat 40 tkX11_told = tkX11_told_40 ∧ zat 43 tkX11_told = tkX11_told_43 ∧ zat 59 tkX11_told = tkX11_told_59 ∧ zat 79 tkX11_told = tkX11_told_79 ∧ zat 85 tkX11_told = tkX11_told_85 ∧ zat 86 tkX11_told = tkX11_told_86 ∧ zat 99 tkX11_told = tkX11_told_99 ∧ zat 113 tkX11_told = tkX11_told_113 ∧ zat 119 tkX11_told = tkX11_told_119 := ⟨rfl, rfl, rfl, rfl, rfl, rfl, rfl, rfl, rfl, rfl, rfl⟩
theorem okX11_told : zok kX11_told.2.1 kX11_told.2.2.1 kX11_told.2.2.2.1 tkX11_told = true := by decide +kernel
def tkX11_dropSet_44 : List mE := (44, .iload_n 2, 1, 2, [], 0, 0, zM0) ::
  (45, .ireturn, 1, 45, [], 0, 0, zM0) :: []
def tkX11_dropSet_34 : List mE := (34, .iload_n 3, 1, 3, [], 0, 0, zM0) ::
  (35, .ishl, 1, 35, [], 0, 0, zM0) ::
  (36, .ior, 1, 36, [], 0, 0, zM0) ::
  (37, .istore_n 2, 1, 2, [], 0, 0, zM0) ::
  (38, .iinc 3 1, 3, 3, [], 1, 0, zM0) ::
  (41, .goto (-37), 3, 4, [], 0, 0, zM0) :: tkX11_dropSet_44
def tkX11_dropSet_33 : List mE := (33, .iconst 0, 1, 33, [], 0, 0, zM0) :: tkX11_dropSet_34
def tkX11_dropSet_4 : List mE := (4, .iload_n 3, 1, 3, [], 0, 0, zM0) ::
  (5, .bipush 10, 2, 5, [], 10, 0, zM0) ::
  (7, .if_icmp .ge 37, 3, 44, [], 0, 0, zM0) ::
  (10, .iload_n 2, 1, 2, [], 0, 0, zM0) ::
  (11, .aload_n 0, 1, 0, [], 0, 0, zM0) ::
  (12, .iload_n 1, 1, 1, [], 0, 0, zM0) ::
  (13, .iload_n 3, 1, 3, [], 0, 0, zM0) ::
  (14, .invokevirtual 248, 3, 11, [5208, 2, 1], 0, 0, kX11_holdsIt) ::
  (17, .ifCond .eq 16, 3, 33, [], 0, 0, zM0) ::
  (20, .aload_n 0, 1, 0, [], 0, 0, zM0) ::
  (21, .iload_n 1, 1, 1, [], 0, 0, zM0) ::
  (22, .iload_n 3, 1, 3, [], 0, 0, zM0) ::
  (23, .invokevirtual 251, 3, 11, [5216, 2, 1], 0, 0, kX11_dropsIt) ::
  (26, .ifCond .eq 7, 3, 33, [], 0, 0, zM0) ::
  (29, .iconst 1, 1, 29, [], 1, 0, zM0) ::
  (30, .goto 4, 3, 34, [], 0, 0, zM0) :: tkX11_dropSet_33
def tkX11_dropSet_0 : List mE := (0, .iconst 0, 1, 0, [], 0, 0, zM0) ::
  (1, .istore_n 2, 1, 2, [], 0, 0, zM0) ::
  (2, .iconst 0, 1, 2, [], 0, 0, zM0) ::
  (3, .istore_n 3, 1, 3, [], 0, 0, zM0) :: tkX11_dropSet_4
def tkX11_dropSet : List mE := tkX11_dropSet_0
theorem zkX11_dropSet : zat 0 tkX11_dropSet = tkX11_dropSet_0 ∧ zat 4 tkX11_dropSet = tkX11_dropSet_4 ∧ zat 33 tkX11_dropSet = tkX11_dropSet_33 ∧ zat 34 tkX11_dropSet = tkX11_dropSet_34 ∧ zat 44 tkX11_dropSet = tkX11_dropSet_44 := ⟨rfl, rfl, rfl, rfl, rfl⟩
theorem okX11_dropSet : zok kX11_dropSet.2.1 kX11_dropSet.2.2.1 kX11_dropSet.2.2.2.1 tkX11_dropSet = true := by decide +kernel
def tkX11_holdsIt_18 : List mE := (18, .ireturn, 1, 18, [], 0, 0, zM0) :: []
def tkX11_holdsIt_17 : List mE := (17, .iconst 0, 1, 17, [], 0, 0, zM0) :: tkX11_holdsIt_18
def tkX11_holdsIt_0 : List mE := (0, .aload_n 0, 1, 0, [], 0, 0, zM0) ::
  (1, .iload_n 1, 1, 1, [], 0, 0, zM0) ::
  (2, .invokevirtual 105, 3, 11, [5212, 1, 1], 0, 0, kX11_holdsOf) ::
  (5, .iload_n 2, 1, 2, [], 0, 0, zM0) ::
  (6, .ishr, 1, 6, [], 0, 0, zM0) ::
  (7, .iconst 1, 1, 7, [], 1, 0, zM0) ::
  (8, .iand, 1, 8, [], 0, 0, zM0) ::
  (9, .iconst 1, 1, 9, [], 1, 0, zM0) ::
  (10, .if_icmp .ne 7, 3, 17, [], 0, 0, zM0) ::
  (13, .iconst 1, 1, 13, [], 1, 0, zM0) ::
  (14, .goto 4, 3, 18, [], 0, 0, zM0) :: tkX11_holdsIt_17
def tkX11_holdsIt : List mE := tkX11_holdsIt_0
theorem zkX11_holdsIt : zat 0 tkX11_holdsIt = tkX11_holdsIt_0 ∧ zat 17 tkX11_holdsIt = tkX11_holdsIt_17 ∧ zat 18 tkX11_holdsIt = tkX11_holdsIt_18 := ⟨rfl, rfl, rfl⟩
theorem okX11_holdsIt : zok kX11_holdsIt.2.1 kX11_holdsIt.2.2.1 kX11_holdsIt.2.2.2.1 tkX11_holdsIt = true := by decide +kernel
def tkX11_holdsOf_0 : List mE := (0, .aload_n 0, 1, 0, [], 0, 0, zM0) ::
  (1, .getfield 29, 3, 11, [10, 2, 5046], 0, 0, zM0) ::
  (4, .iconst 3, 1, 4, [], 3, 0, zM0) ::
  (5, .iload_n 1, 1, 1, [], 0, 0, zM0) ::
  (6, .imul, 1, 6, [], 0, 0, zM0) ::
  (7, .iconst 1, 1, 7, [], 1, 0, zM0) ::
  (8, .iadd, 1, 8, [], 0, 0, zM0) ::
  (9, .iaload, 1, 0, [], 0, 0, zM0) ::
  (10, .ireturn, 1, 10, [], 0, 0, zM0) :: []
def tkX11_holdsOf : List mE := tkX11_holdsOf_0
theorem zkX11_holdsOf : zat 0 tkX11_holdsOf = tkX11_holdsOf_0 := rfl
theorem okX11_holdsOf : zok kX11_holdsOf.2.1 kX11_holdsOf.2.2.1 kX11_holdsOf.2.2.2.1 tkX11_holdsOf = true := by decide +kernel
def tkX11_dropsIt_77 : List mE := (77, .ireturn, 1, 77, [], 0, 0, zM0) :: []
def tkX11_dropsIt_75 : List mE := (75, .iload 4, 2, 4, [], 0, 0, zM0) :: tkX11_dropsIt_77
def tkX11_dropsIt_71 : List mE := (71, .iconst 0, 1, 71, [], 0, 0, zM0) ::
  (72, .goto 5, 3, 77, [], 0, 0, zM0) :: tkX11_dropsIt_75
def tkX11_dropsIt_55 : List mE := (55, .istore 4, 2, 4, [], 0, 0, zM0) ::
  (57, .iload_n 3, 1, 3, [], 0, 0, zM0) ::
  (58, .iconst 5, 1, 58, [], 5, 0, zM0) ::
  (59, .if_icmp .ne 16, 3, 75, [], 0, 0, zM0) ::
  (62, .iload 4, 2, 4, [], 0, 0, zM0) ::
  (64, .ifCond .ne 7, 3, 71, [], 0, 0, zM0) ::
  (67, .iconst 1, 1, 67, [], 1, 0, zM0) ::
  (68, .goto 9, 3, 77, [], 0, 0, zM0) :: tkX11_dropsIt_71
def tkX11_dropsIt_54 : List mE := (54, .iconst 0, 1, 54, [], 0, 0, zM0) :: tkX11_dropsIt_55
def tkX11_dropsIt_40 : List mE := (40, .aload_n 0, 1, 0, [], 0, 0, zM0) ::
  (41, .iconst 2, 1, 41, [], 2, 0, zM0) ::
  (42, .iload_n 1, 1, 1, [], 0, 0, zM0) ::
  (43, .iload_n 2, 1, 2, [], 0, 0, zM0) ::
  (44, .invokevirtual 245, 3, 11, [5220, 3, 1], 0, 0, kX11_says) ::
  (47, .ifCond .eq 7, 3, 54, [], 0, 0, zM0) ::
  (50, .iconst 1, 1, 50, [], 1, 0, zM0) ::
  (51, .goto 4, 3, 55, [], 0, 0, zM0) :: tkX11_dropsIt_54
def tkX11_dropsIt_39 : List mE := (39, .ireturn, 1, 39, [], 0, 0, zM0) :: tkX11_dropsIt_40
def tkX11_dropsIt_38 : List mE := (38, .iconst 0, 1, 38, [], 0, 0, zM0) :: tkX11_dropsIt_39
def tkX11_dropsIt_17 : List mE := (17, .iload_n 3, 1, 3, [], 0, 0, zM0) ::
  (18, .iconst 4, 1, 18, [], 4, 0, zM0) ::
  (19, .if_icmp .ne 19, 3, 38, [], 0, 0, zM0) ::
  (22, .iload_n 2, 1, 2, [], 0, 0, zM0) ::
  (23, .aload_n 0, 1, 0, [], 0, 0, zM0) ::
  (24, .getfield 29, 3, 11, [10, 2, 5046], 0, 0, zM0) ::
  (27, .iconst 3, 1, 27, [], 3, 0, zM0) ::
  (28, .iload_n 1, 1, 1, [], 0, 0, zM0) ::
  (29, .imul, 1, 29, [], 0, 0, zM0) ::
  (30, .iaload, 1, 0, [], 0, 0, zM0) ::
  (31, .if_icmp .ne 7, 3, 38, [], 0, 0, zM0) ::
  (34, .iconst 1, 1, 34, [], 1, 0, zM0) ::
  (35, .goto 4, 3, 39, [], 0, 0, zM0) :: tkX11_dropsIt_38
def tkX11_dropsIt_0 : List mE := (0, .aload_n 0, 1, 0, [], 0, 0, zM0) ::
  (1, .getfield 26, 3, 11, [9, 2, 5045], 0, 0, zM0) ::
  (4, .iload_n 1, 1, 1, [], 0, 0, zM0) ::
  (5, .iaload, 1, 0, [], 0, 0, zM0) ::
  (6, .istore_n 3, 1, 3, [], 0, 0, zM0) ::
  (7, .iload_n 3, 1, 3, [], 0, 0, zM0) ::
  (8, .iconst 2, 1, 8, [], 2, 0, zM0) ::
  (9, .if_icmp .eq 8, 3, 17, [], 0, 0, zM0) ::
  (12, .iload_n 3, 1, 3, [], 0, 0, zM0) ::
  (13, .iconst 4, 1, 13, [], 4, 0, zM0) ::
  (14, .if_icmp .ne 26, 3, 40, [], 0, 0, zM0) :: tkX11_dropsIt_17
def tkX11_dropsIt : List mE := tkX11_dropsIt_0
theorem zkX11_dropsIt : zat 0 tkX11_dropsIt = tkX11_dropsIt_0 ∧ zat 17 tkX11_dropsIt = tkX11_dropsIt_17 ∧ zat 38 tkX11_dropsIt = tkX11_dropsIt_38 ∧ zat 39 tkX11_dropsIt = tkX11_dropsIt_39 ∧ zat 40 tkX11_dropsIt = tkX11_dropsIt_40 ∧ zat 54 tkX11_dropsIt = tkX11_dropsIt_54 ∧ zat 55 tkX11_dropsIt = tkX11_dropsIt_55 ∧ zat 71 tkX11_dropsIt = tkX11_dropsIt_71 ∧ zat 75 tkX11_dropsIt = tkX11_dropsIt_75 ∧ zat 77 tkX11_dropsIt = tkX11_dropsIt_77 := ⟨rfl, rfl, rfl, rfl, rfl, rfl, rfl, rfl, rfl, rfl⟩
theorem okX11_dropsIt : zok kX11_dropsIt.2.1 kX11_dropsIt.2.2.1 kX11_dropsIt.2.2.2.1 tkX11_dropsIt = true := by decide +kernel
def tkX11_says_89 : List mE := (89, .ireturn, 1, 89, [], 0, 0, zM0) :: []
def tkX11_says_87 : List mE := (87, .iload 4, 2, 4, [], 0, 0, zM0) :: tkX11_says_89
def tkX11_says_0 : List mE := (0, .aload_n 0, 1, 0, [], 0, 0, zM0) ::
  (1, .iload_n 3, 1, 3, [], 0, 0, zM0) ::
  (2, .putfield 177, 3, 11, [12, 0, 5048], 0, 0, zM0) ::
  (5, .aload_n 0, 1, 0, [], 0, 0, zM0) ::
  (6, .aload_n 0, 1, 0, [], 0, 0, zM0) ::
  (7, .iload_n 2, 1, 2, [], 0, 0, zM0) ::
  (8, .iload_n 3, 1, 3, [], 0, 0, zM0) ::
  (9, .invokevirtual 238, 3, 11, [5224, 2, 1], 0, 0, kX11_objects) ::
  (12, .putfield 180, 3, 11, [13, 0, 5049], 0, 0, zM0) ::
  (15, .aload_n 0, 1, 0, [], 0, 0, zM0) ::
  (16, .aload_n 0, 1, 0, [], 0, 0, zM0) ::
  (17, .iload_n 2, 1, 2, [], 0, 0, zM0) ::
  (18, .invokevirtual 105, 3, 11, [5212, 1, 1], 0, 0, kX11_holdsOf) ::
  (21, .invokestatic 235, 3, 0, [5232, 1, 1], 0, 0, kX11_bitsOf) ::
  (24, .putfield 183, 3, 11, [14, 0, 5050], 0, 0, zM0) ::
  (27, .aload_n 0, 1, 0, [], 0, 0, zM0) ::
  (28, .aload_n 0, 1, 0, [], 0, 0, zM0) ::
  (29, .getfield 29, 3, 11, [10, 2, 5046], 0, 0, zM0) ::
  (32, .iconst 3, 1, 32, [], 3, 0, zM0) ::
  (33, .iload_n 2, 1, 2, [], 0, 0, zM0) ::
  (34, .imul, 1, 34, [], 0, 0, zM0) ::
  (35, .iaload, 1, 0, [], 0, 0, zM0) ::
  (36, .putfield 186, 3, 11, [15, 0, 5051], 0, 0, zM0) ::
  (39, .aload_n 0, 1, 0, [], 0, 0, zM0) ::
  (40, .aload_n 0, 1, 0, [], 0, 0, zM0) ::
  (41, .getfield 97, 3, 11, [7, 0, 5043], 0, 0, zM0) ::
  (44, .putfield 189, 3, 11, [16, 0, 5052], 0, 0, zM0) ::
  (47, .aload_n 0, 1, 0, [], 0, 0, zM0) ::
  (48, .aload_n 0, 1, 0, [], 0, 0, zM0) ::
  (49, .getfield 29, 3, 11, [10, 2, 5046], 0, 0, zM0) ::
  (52, .iconst 3, 1, 52, [], 3, 0, zM0) ::
  (53, .iload_n 2, 1, 2, [], 0, 0, zM0) ::
  (54, .imul, 1, 54, [], 0, 0, zM0) ::
  (55, .iconst 2, 1, 55, [], 2, 0, zM0) ::
  (56, .iadd, 1, 56, [], 0, 0, zM0) ::
  (57, .iaload, 1, 0, [], 0, 0, zM0) ::
  (58, .putfield 192, 3, 11, [17, 0, 5053], 0, 0, zM0) ::
  (61, .aload_n 0, 1, 0, [], 0, 0, zM0) ::
  (62, .aload_n 0, 1, 0, [], 0, 0, zM0) ::
  (63, .getfield 100, 3, 11, [4, 0, 5040], 0, 0, zM0) ::
  (66, .iload_n 1, 1, 1, [], 0, 0, zM0) ::
  (67, .invokevirtual 232, 3, 11, [5235, 2, 1], 0, 0, kX11_read) ::
  (70, .istore 4, 2, 4, [], 0, 0, zM0) ::
  (72, .iload_n 1, 1, 1, [], 0, 0, zM0) ::
  (73, .ifCond .ne 14, 3, 87, [], 0, 0, zM0) ::
  (76, .iload 4, 2, 4, [], 0, 0, zM0) ::
  (78, .iconst 0, 1, 78, [], 0, 0, zM0) ::
  (79, .bipush 99, 2, 79, [], 99, 0, zM0) ::
  (81, .invokestatic 241, 3, 0, [6066, 3, 1], 0, 0, kX11_within) ::
  (84, .goto 5, 3, 89, [], 0, 0, zM0) :: tkX11_says_87
def tkX11_says : List mE := tkX11_says_0
theorem zkX11_says : zat 0 tkX11_says = tkX11_says_0 ∧ zat 87 tkX11_says = tkX11_says_87 ∧ zat 89 tkX11_says = tkX11_says_89 := ⟨rfl, rfl, rfl⟩
theorem okX11_says : zok kX11_says.2.1 kX11_says.2.2.1 kX11_says.2.2.2.1 tkX11_says = true := by decide +kernel
def tkX11_objects_0 : List mE := (0, .aload_n 0, 1, 0, [], 0, 0, zM0) ::
  (1, .iload_n 1, 1, 1, [], 0, 0, zM0) ::
  (2, .invokevirtual 105, 3, 11, [5212, 1, 1], 0, 0, kX11_holdsOf) ::
  (5, .aload_n 0, 1, 0, [], 0, 0, zM0) ::
  (6, .iload_n 2, 1, 2, [], 0, 0, zM0) ::
  (7, .invokevirtual 113, 3, 11, [5228, 1, 1], 0, 0, kX11_foes) ::
  (10, .iand, 1, 10, [], 0, 0, zM0) ::
  (11, .invokestatic 235, 3, 0, [5232, 1, 1], 0, 0, kX11_bitsOf) ::
  (14, .ireturn, 1, 14, [], 0, 0, zM0) :: []
def tkX11_objects : List mE := tkX11_objects_0
theorem zkX11_objects : zat 0 tkX11_objects = tkX11_objects_0 := rfl
theorem okX11_objects : zok kX11_objects.2.1 kX11_objects.2.2.1 kX11_objects.2.2.2.1 tkX11_objects = true := by decide +kernel
def tkX11_foes_31 : List mE := (31, .iload_n 2, 1, 2, [], 0, 0, zM0) ::
  (32, .ireturn, 1, 32, [], 0, 0, zM0) :: []
def tkX11_foes_4 : List mE := (4, .iload_n 3, 1, 3, [], 0, 0, zM0) ::
  (5, .bipush 10, 2, 5, [], 10, 0, zM0) ::
  (7, .if_icmp .ge 24, 3, 31, [], 0, 0, zM0) ::
  (10, .iload_n 2, 1, 2, [], 0, 0, zM0) ::
  (11, .aload_n 0, 1, 0, [], 0, 0, zM0) ::
  (12, .getfield 23, 3, 11, [8, 2, 5044], 0, 0, zM0) ::
  (15, .iload_n 3, 1, 3, [], 0, 0, zM0) ::
  (16, .iaload, 1, 0, [], 0, 0, zM0) ::
  (17, .iload_n 1, 1, 1, [], 0, 0, zM0) ::
  (18, .ishr, 1, 18, [], 0, 0, zM0) ::
  (19, .iconst 1, 1, 19, [], 1, 0, zM0) ::
  (20, .iand, 1, 20, [], 0, 0, zM0) ::
  (21, .iload_n 3, 1, 3, [], 0, 0, zM0) ::
  (22, .ishl, 1, 22, [], 0, 0, zM0) ::
  (23, .ior, 1, 23, [], 0, 0, zM0) ::
  (24, .istore_n 2, 1, 2, [], 0, 0, zM0) ::
  (25, .iinc 3 1, 3, 3, [], 1, 0, zM0) ::
  (28, .goto (-24), 3, 4, [], 0, 0, zM0) :: tkX11_foes_31
def tkX11_foes_0 : List mE := (0, .iconst 0, 1, 0, [], 0, 0, zM0) ::
  (1, .istore_n 2, 1, 2, [], 0, 0, zM0) ::
  (2, .iconst 0, 1, 2, [], 0, 0, zM0) ::
  (3, .istore_n 3, 1, 3, [], 0, 0, zM0) :: tkX11_foes_4
def tkX11_foes : List mE := tkX11_foes_0
theorem zkX11_foes : zat 0 tkX11_foes = tkX11_foes_0 ∧ zat 4 tkX11_foes = tkX11_foes_4 ∧ zat 31 tkX11_foes = tkX11_foes_31 := ⟨rfl, rfl, rfl⟩
theorem okX11_foes : zok kX11_foes.2.1 kX11_foes.2.2.1 kX11_foes.2.2.2.1 tkX11_foes = true := by decide +kernel
def tkX11_bitsOf_20 : List mE := (20, .iload_n 1, 1, 1, [], 0, 0, zM0) ::
  (21, .ireturn, 1, 21, [], 0, 0, zM0) :: []
def tkX11_bitsOf_4 : List mE := (4, .iload_n 2, 1, 2, [], 0, 0, zM0) ::
  (5, .ifCond .eq 15, 3, 20, [], 0, 0, zM0) ::
  (8, .iinc 1 1, 3, 1, [], 1, 0, zM0) ::
  (11, .iload_n 2, 1, 2, [], 0, 0, zM0) ::
  (12, .iload_n 2, 1, 2, [], 0, 0, zM0) ::
  (13, .iconst 1, 1, 13, [], 1, 0, zM0) ::
  (14, .isub, 1, 14, [], 0, 0, zM0) ::
  (15, .iand, 1, 15, [], 0, 0, zM0) ::
  (16, .istore_n 2, 1, 2, [], 0, 0, zM0) ::
  (17, .goto (-13), 3, 4, [], 0, 0, zM0) :: tkX11_bitsOf_20
def tkX11_bitsOf_0 : List mE := (0, .iconst 0, 1, 0, [], 0, 0, zM0) ::
  (1, .istore_n 1, 1, 1, [], 0, 0, zM0) ::
  (2, .iload_n 0, 1, 0, [], 0, 0, zM0) ::
  (3, .istore_n 2, 1, 2, [], 0, 0, zM0) :: tkX11_bitsOf_4
def tkX11_bitsOf : List mE := tkX11_bitsOf_0
theorem zkX11_bitsOf : zat 0 tkX11_bitsOf = tkX11_bitsOf_0 ∧ zat 4 tkX11_bitsOf = tkX11_bitsOf_4 ∧ zat 20 tkX11_bitsOf = tkX11_bitsOf_20 := ⟨rfl, rfl, rfl⟩
theorem okX11_bitsOf : zok kX11_bitsOf.2.1 kX11_bitsOf.2.2.1 kX11_bitsOf.2.2.2.1 tkX11_bitsOf = true := by decide +kernel
def tkX11_read_166 : List mE := (166, .ireturn, 1, 166, [], 0, 0, zM0) :: []
def tkX11_read_164 : List mE := (164, .iload 5, 2, 5, [], 0, 0, zM0) :: tkX11_read_166
def tkX11_read_154 : List mE := (154, .iload_n 2, 1, 2, [], 0, 0, zM0) ::
  (155, .iconst 1, 1, 155, [], 1, 0, zM0) ::
  (156, .if_icmp .ne 8, 3, 164, [], 0, 0, zM0) ::
  (159, .iload 4, 2, 4, [], 0, 0, zM0) ::
  (161, .goto 5, 3, 166, [], 0, 0, zM0) :: tkX11_read_164
def tkX11_read_146 : List mE := (146, .iload_n 2, 1, 2, [], 0, 0, zM0) ::
  (147, .ifCond .ne 7, 3, 154, [], 0, 0, zM0) ::
  (150, .iload_n 3, 1, 3, [], 0, 0, zM0) ::
  (151, .goto 15, 3, 166, [], 0, 0, zM0) :: tkX11_read_154
def tkX11_read_126 : List mE := (126, .istore 5, 2, 5, [], 0, 0, zM0) ::
  (128, .aload_n 0, 1, 0, [], 0, 0, zM0) ::
  (129, .getfield 153, 3, 11, [25, 3, 5061], 0, 0, zM0) ::
  (132, .ifCond .ne 14, 3, 146, [], 0, 0, zM0) ::
  (135, .aload_n 0, 1, 0, [], 0, 0, zM0) ::
  (136, .getfield 136, 3, 11, [21, 0, 5057], 0, 0, zM0) ::
  (139, .ifCond .eq 7, 3, 146, [], 0, 0, zM0) ::
  (142, .aload_n 0, 1, 0, [], 0, 0, zM0) ::
  (143, .invokevirtual 167, 3, 11, [6024, 0, 0], 0, 0, kX11_fail) :: tkX11_read_146
def tkX11_read_105 : List mE := (105, .aload_n 0, 1, 0, [], 0, 0, zM0) ::
  (106, .aload_n 0, 1, 0, [], 0, 0, zM0) ::
  (107, .bipush 100, 2, 107, [], 100, 0, zM0) ::
  (109, .bipush 114, 2, 109, [], 114, 0, zM0) ::
  (111, .bipush 111, 2, 111, [], 111, 0, zM0) ::
  (113, .bipush 112, 2, 113, [], 112, 0, zM0) ::
  (115, .bipush 115, 2, 115, [], 115, 0, zM0) ::
  (117, .iconst 0, 1, 117, [], 0, 0, zM0) ::
  (118, .iconst 0, 1, 118, [], 0, 0, zM0) ::
  (119, .iconst 0, 1, 119, [], 0, 0, zM0) ::
  (120, .invokevirtual 173, 3, 11, [6012, 8, 1], 0, 0, kX11_isWord) ::
  (123, .invokevirtual 228, 3, 11, [6020, 1, 1], 0, 0, kX11_part) :: tkX11_read_126
def tkX11_read_92 : List mE := (92, .istore 4, 2, 4, [], 0, 0, zM0) ::
  (94, .aload_n 0, 1, 0, [], 0, 0, zM0) ::
  (95, .getfield 153, 3, 11, [25, 3, 5061], 0, 0, zM0) ::
  (98, .ifCond .eq 7, 3, 105, [], 0, 0, zM0) ::
  (101, .iconst 0, 1, 101, [], 0, 0, zM0) ::
  (102, .goto 24, 3, 126, [], 0, 0, zM0) :: tkX11_read_105
def tkX11_read_70 : List mE := (70, .aload_n 0, 1, 0, [], 0, 0, zM0) ::
  (71, .aload_n 0, 1, 0, [], 0, 0, zM0) ::
  (72, .bipush 121, 2, 72, [], 121, 0, zM0) ::
  (74, .bipush 105, 2, 74, [], 105, 0, zM0) ::
  (76, .bipush 101, 2, 76, [], 101, 0, zM0) ::
  (78, .bipush 108, 2, 78, [], 108, 0, zM0) ::
  (80, .bipush 100, 2, 80, [], 100, 0, zM0) ::
  (82, .bipush 115, 2, 82, [], 115, 0, zM0) ::
  (84, .iconst 0, 1, 84, [], 0, 0, zM0) ::
  (85, .iconst 0, 1, 85, [], 0, 0, zM0) ::
  (86, .invokevirtual 173, 3, 11, [6012, 8, 1], 0, 0, kX11_isWord) ::
  (89, .invokevirtual 228, 3, 11, [6020, 1, 1], 0, 0, kX11_part) :: tkX11_read_92
def tkX11_read_0 : List mE := (0, .aload_n 0, 1, 0, [], 0, 0, zM0) ::
  (1, .sipush 160, 3, 1, [], 160, 0, zM0) ::
  (4, .iload_n 1, 1, 1, [], 0, 0, zM0) ::
  (5, .imul, 1, 5, [], 0, 0, zM0) ::
  (6, .putfield 124, 3, 11, [18, 0, 5054], 0, 0, zM0) ::
  (9, .aload_n 0, 1, 0, [], 0, 0, zM0) ::
  (10, .aload_n 0, 1, 0, [], 0, 0, zM0) ::
  (11, .getfield 17, 3, 11, [2, 2, 5038], 0, 0, zM0) ::
  (14, .iload_n 1, 1, 1, [], 0, 0, zM0) ::
  (15, .iaload, 1, 0, [], 0, 0, zM0) ::
  (16, .putfield 121, 3, 11, [19, 0, 5055], 0, 0, zM0) ::
  (19, .aload_n 0, 1, 0, [], 0, 0, zM0) ::
  (20, .iconst 0, 1, 20, [], 0, 0, zM0) ::
  (21, .putfield 127, 3, 11, [20, 0, 5056], 0, 0, zM0) ::
  (24, .aload_n 0, 1, 0, [], 0, 0, zM0) ::
  (25, .iconst 0, 1, 25, [], 0, 0, zM0) ::
  (26, .putfield 164, 3, 11, [24, 0, 5060], 0, 0, zM0) ::
  (29, .aload_n 0, 1, 0, [], 0, 0, zM0) ::
  (30, .iconst 0, 1, 30, [], 0, 0, zM0) ::
  (31, .putfield 153, 3, 11, [25, 3, 5061], 0, 0, zM0) ::
  (34, .aload_n 0, 1, 0, [], 0, 0, zM0) ::
  (35, .invokevirtual 170, 3, 11, [5239, 0, 0], 0, 0, kX11_next) ::
  (38, .aload_n 0, 1, 0, [], 0, 0, zM0) ::
  (39, .aload_n 0, 1, 0, [], 0, 0, zM0) ::
  (40, .bipush 108, 2, 40, [], 108, 0, zM0) ::
  (42, .bipush 97, 2, 42, [], 97, 0, zM0) ::
  (44, .bipush 121, 2, 44, [], 121, 0, zM0) ::
  (46, .bipush 115, 2, 46, [], 115, 0, zM0) ::
  (48, .iconst 0, 1, 48, [], 0, 0, zM0) ::
  (49, .iconst 0, 1, 49, [], 0, 0, zM0) ::
  (50, .iconst 0, 1, 50, [], 0, 0, zM0) ::
  (51, .iconst 0, 1, 51, [], 0, 0, zM0) ::
  (52, .invokevirtual 173, 3, 11, [6012, 8, 1], 0, 0, kX11_isWord) ::
  (55, .invokevirtual 228, 3, 11, [6020, 1, 1], 0, 0, kX11_part) ::
  (58, .istore_n 3, 1, 3, [], 0, 0, zM0) ::
  (59, .aload_n 0, 1, 0, [], 0, 0, zM0) ::
  (60, .getfield 153, 3, 11, [25, 3, 5061], 0, 0, zM0) ::
  (63, .ifCond .eq 7, 3, 70, [], 0, 0, zM0) ::
  (66, .iconst 0, 1, 66, [], 0, 0, zM0) ::
  (67, .goto 25, 3, 92, [], 0, 0, zM0) :: tkX11_read_70
def tkX11_read : List mE := tkX11_read_0
theorem zkX11_read : zat 0 tkX11_read = tkX11_read_0 ∧ zat 70 tkX11_read = tkX11_read_70 ∧ zat 92 tkX11_read = tkX11_read_92 ∧ zat 105 tkX11_read = tkX11_read_105 ∧ zat 126 tkX11_read = tkX11_read_126 ∧ zat 146 tkX11_read = tkX11_read_146 ∧ zat 154 tkX11_read = tkX11_read_154 ∧ zat 164 tkX11_read = tkX11_read_164 ∧ zat 166 tkX11_read = tkX11_read_166 := ⟨rfl, rfl, rfl, rfl, rfl, rfl, rfl, rfl, rfl⟩
theorem okX11_read : zok kX11_read.2.1 kX11_read.2.2.1 kX11_read.2.2.2.1 tkX11_read = true := by decide +kernel
def tkX11_next_321 : List mE := (321, .return_, 1, 321, [], 0, 0, zM0) :: []
def tkX11_next_300 : List mE := (300, .aload_n 0, 1, 0, [], 0, 0, zM0) ::
  (301, .iconst 3, 1, 301, [], 3, 0, zM0) ::
  (302, .putfield 136, 3, 11, [21, 0, 5057], 0, 0, zM0) ::
  (305, .aload_n 0, 1, 0, [], 0, 0, zM0) ::
  (306, .iload_n 1, 1, 1, [], 0, 0, zM0) ::
  (307, .i2l, 1, 307, [], 0, 0, zM0) ::
  (308, .putfield 147, 3, 11, [23, 1, 5059], 0, 0, zM0) ::
  (311, .aload_n 0, 1, 0, [], 0, 0, zM0) ::
  (312, .dup, 1, 312, [], 0, 0, zM0) ::
  (313, .getfield 127, 3, 11, [20, 0, 5056], 0, 0, zM0) ::
  (316, .iconst 1, 1, 316, [], 1, 0, zM0) ::
  (317, .iadd, 1, 317, [], 0, 0, zM0) ::
  (318, .putfield 127, 3, 11, [20, 0, 5056], 0, 0, zM0) :: tkX11_next_321
def tkX11_next_252 : List mE := (252, .iload_n 1, 1, 1, [], 0, 0, zM0) ::
  (253, .bipush 40, 2, 253, [], 40, 0, zM0) ::
  (255, .if_icmp .eq 45, 3, 300, [], 0, 0, zM0) ::
  (258, .iload_n 1, 1, 1, [], 0, 0, zM0) ::
  (259, .bipush 41, 2, 259, [], 41, 0, zM0) ::
  (261, .if_icmp .eq 39, 3, 300, [], 0, 0, zM0) ::
  (264, .iload_n 1, 1, 1, [], 0, 0, zM0) ::
  (265, .bipush 59, 2, 265, [], 59, 0, zM0) ::
  (267, .if_icmp .eq 33, 3, 300, [], 0, 0, zM0) ::
  (270, .iload_n 1, 1, 1, [], 0, 0, zM0) ::
  (271, .bipush 43, 2, 271, [], 43, 0, zM0) ::
  (273, .if_icmp .eq 27, 3, 300, [], 0, 0, zM0) ::
  (276, .iload_n 1, 1, 1, [], 0, 0, zM0) ::
  (277, .bipush 45, 2, 277, [], 45, 0, zM0) ::
  (279, .if_icmp .eq 21, 3, 300, [], 0, 0, zM0) ::
  (282, .iload_n 1, 1, 1, [], 0, 0, zM0) ::
  (283, .bipush 42, 2, 283, [], 42, 0, zM0) ::
  (285, .if_icmp .eq 15, 3, 300, [], 0, 0, zM0) ::
  (288, .iload_n 1, 1, 1, [], 0, 0, zM0) ::
  (289, .bipush 60, 2, 289, [], 60, 0, zM0) ::
  (291, .if_icmp .eq 9, 3, 300, [], 0, 0, zM0) ::
  (294, .iload_n 1, 1, 1, [], 0, 0, zM0) ::
  (295, .bipush 61, 2, 295, [], 61, 0, zM0) ::
  (297, .if_icmp .ne 24, 3, 321, [], 0, 0, zM0) :: tkX11_next_300
def tkX11_next_246 : List mE := (246, .putfield 136, 3, 11, [21, 0, 5057], 0, 0, zM0) ::
  (249, .goto 72, 3, 321, [], 0, 0, zM0) :: tkX11_next_252
def tkX11_next_245 : List mE := (245, .iconst 2, 1, 245, [], 2, 0, zM0) :: tkX11_next_246
def tkX11_next_235 : List mE := (235, .aload_n 0, 1, 0, [], 0, 0, zM0) ::
  (236, .iload_n 2, 1, 2, [], 0, 0, zM0) ::
  (237, .iconst 4, 1, 237, [], 4, 0, zM0) ::
  (238, .if_icmp .le 7, 3, 245, [], 0, 0, zM0) ::
  (241, .iconst 4, 1, 241, [], 4, 0, zM0) ::
  (242, .goto 4, 3, 246, [], 0, 0, zM0) :: tkX11_next_245
def tkX11_next_216 : List mE := (216, .putfield 147, 3, 11, [23, 1, 5059], 0, 0, zM0) ::
  (219, .iinc 2 1, 3, 2, [], 1, 0, zM0) ::
  (222, .aload_n 0, 1, 0, [], 0, 0, zM0) ::
  (223, .dup, 1, 223, [], 0, 0, zM0) ::
  (224, .getfield 127, 3, 11, [20, 0, 5056], 0, 0, zM0) ::
  (227, .iconst 1, 1, 227, [], 1, 0, zM0) ::
  (228, .iadd, 1, 228, [], 0, 0, zM0) ::
  (229, .putfield 127, 3, 11, [20, 0, 5056], 0, 0, zM0) ::
  (232, .goto (-72), 3, 160, [], 0, 0, zM0) :: tkX11_next_235
def tkX11_next_212 : List mE := (212, .aload_n 0, 1, 0, [], 0, 0, zM0) ::
  (213, .getfield 147, 3, 11, [23, 1, 5059], 0, 0, zM0) :: tkX11_next_216
def tkX11_next_160 : List mE := (160, .aload_n 0, 1, 0, [], 0, 0, zM0) ::
  (161, .aload_n 0, 1, 0, [], 0, 0, zM0) ::
  (162, .getfield 127, 3, 11, [20, 0, 5056], 0, 0, zM0) ::
  (165, .invokevirtual 130, 3, 11, [6003, 1, 1], 0, 0, kX11_byteAt) ::
  (168, .i2l, 1, 168, [], 0, 0, zM0) ::
  (169, .ldc2_w 143, 3, 169, [6009], 0, 48, zM0) ::
  (172, .ldc2_w 145, 3, 172, [6010], 0, 57, zM0) ::
  (175, .invokestatic 70, 3, 0, [5184, 3, 1], 0, 0, kX11_in) ::
  (178, .ifCond .eq 57, 3, 235, [], 0, 0, zM0) ::
  (181, .aload_n 0, 1, 0, [], 0, 0, zM0) ::
  (182, .iload_n 2, 1, 2, [], 0, 0, zM0) ::
  (183, .iconst 4, 1, 183, [], 4, 0, zM0) ::
  (184, .if_icmp .ge 28, 3, 212, [], 0, 0, zM0) ::
  (187, .ldc2_w 151, 3, 187, [6011], 0, 10, zM0) ::
  (190, .aload_n 0, 1, 0, [], 0, 0, zM0) ::
  (191, .getfield 147, 3, 11, [23, 1, 5059], 0, 0, zM0) ::
  (194, .lmul, 1, 194, [], 0, 0, zM0) ::
  (195, .aload_n 0, 1, 0, [], 0, 0, zM0) ::
  (196, .aload_n 0, 1, 0, [], 0, 0, zM0) ::
  (197, .getfield 127, 3, 11, [20, 0, 5056], 0, 0, zM0) ::
  (200, .invokevirtual 130, 3, 11, [6003, 1, 1], 0, 0, kX11_byteAt) ::
  (203, .i2l, 1, 203, [], 0, 0, zM0) ::
  (204, .ladd, 1, 204, [], 0, 0, zM0) ::
  (205, .ldc2_w 143, 3, 205, [6009], 0, 48, zM0) ::
  (208, .lsub, 1, 208, [], 0, 0, zM0) ::
  (209, .goto 7, 3, 216, [], 0, 0, zM0) :: tkX11_next_212
def tkX11_next_134 : List mE := (134, .iload_n 1, 1, 1, [], 0, 0, zM0) ::
  (135, .i2l, 1, 135, [], 0, 0, zM0) ::
  (136, .ldc2_w 143, 3, 136, [6009], 0, 48, zM0) ::
  (139, .ldc2_w 145, 3, 139, [6010], 0, 57, zM0) ::
  (142, .invokestatic 70, 3, 0, [5184, 3, 1], 0, 0, kX11_in) ::
  (145, .ifCond .eq 107, 3, 252, [], 0, 0, zM0) ::
  (148, .aload_n 0, 1, 0, [], 0, 0, zM0) ::
  (149, .iconst 2, 1, 149, [], 2, 0, zM0) ::
  (150, .putfield 136, 3, 11, [21, 0, 5057], 0, 0, zM0) ::
  (153, .aload_n 0, 1, 0, [], 0, 0, zM0) ::
  (154, .lconst 0, 1, 154, [], 0, 0, zM0) ::
  (155, .putfield 147, 3, 11, [23, 1, 5059], 0, 0, zM0) ::
  (158, .iconst 0, 1, 158, [], 0, 0, zM0) ::
  (159, .istore_n 2, 1, 2, [], 0, 0, zM0) :: tkX11_next_160
def tkX11_next_100 : List mE := (100, .aload_n 0, 1, 0, [], 0, 0, zM0) ::
  (101, .aload_n 0, 1, 0, [], 0, 0, zM0) ::
  (102, .getfield 127, 3, 11, [20, 0, 5056], 0, 0, zM0) ::
  (105, .invokevirtual 130, 3, 11, [6003, 1, 1], 0, 0, kX11_byteAt) ::
  (108, .i2l, 1, 108, [], 0, 0, zM0) ::
  (109, .ldc2_w 139, 3, 109, [6007], 0, 97, zM0) ::
  (112, .ldc2_w 141, 3, 112, [6008], 0, 122, zM0) ::
  (115, .invokestatic 70, 3, 0, [5184, 3, 1], 0, 0, kX11_in) ::
  (118, .ifCond .eq 203, 3, 321, [], 0, 0, zM0) ::
  (121, .aload_n 0, 1, 0, [], 0, 0, zM0) ::
  (122, .dup, 1, 122, [], 0, 0, zM0) ::
  (123, .getfield 127, 3, 11, [20, 0, 5056], 0, 0, zM0) ::
  (126, .iconst 1, 1, 126, [], 1, 0, zM0) ::
  (127, .iadd, 1, 127, [], 0, 0, zM0) ::
  (128, .putfield 127, 3, 11, [20, 0, 5056], 0, 0, zM0) ::
  (131, .goto (-31), 3, 100, [], 0, 0, zM0) :: tkX11_next_134
def tkX11_next_81 : List mE := (81, .iload_n 1, 1, 1, [], 0, 0, zM0) ::
  (82, .i2l, 1, 82, [], 0, 0, zM0) ::
  (83, .ldc2_w 139, 3, 83, [6007], 0, 97, zM0) ::
  (86, .ldc2_w 141, 3, 86, [6008], 0, 122, zM0) ::
  (89, .invokestatic 70, 3, 0, [5184, 3, 1], 0, 0, kX11_in) ::
  (92, .ifCond .eq 42, 3, 134, [], 0, 0, zM0) ::
  (95, .aload_n 0, 1, 0, [], 0, 0, zM0) ::
  (96, .iconst 1, 1, 96, [], 1, 0, zM0) ::
  (97, .putfield 136, 3, 11, [21, 0, 5057], 0, 0, zM0) :: tkX11_next_100
def tkX11_next_39 : List mE := (39, .aload_n 0, 1, 0, [], 0, 0, zM0) ::
  (40, .aload_n 0, 1, 0, [], 0, 0, zM0) ::
  (41, .getfield 127, 3, 11, [20, 0, 5056], 0, 0, zM0) ::
  (44, .putfield 133, 3, 11, [22, 0, 5058], 0, 0, zM0) ::
  (47, .aload_n 0, 1, 0, [], 0, 0, zM0) ::
  (48, .aload_n 0, 1, 0, [], 0, 0, zM0) ::
  (49, .getfield 127, 3, 11, [20, 0, 5056], 0, 0, zM0) ::
  (52, .invokevirtual 130, 3, 11, [6003, 1, 1], 0, 0, kX11_byteAt) ::
  (55, .istore_n 1, 1, 1, [], 0, 0, zM0) ::
  (56, .aload_n 0, 1, 0, [], 0, 0, zM0) ::
  (57, .iconst 4, 1, 57, [], 4, 0, zM0) ::
  (58, .putfield 136, 3, 11, [21, 0, 5057], 0, 0, zM0) ::
  (61, .iload_n 1, 1, 1, [], 0, 0, zM0) ::
  (62, .ifCond .ge 19, 3, 81, [], 0, 0, zM0) ::
  (65, .aload_n 0, 1, 0, [], 0, 0, zM0) ::
  (66, .iconst 0, 1, 66, [], 0, 0, zM0) ::
  (67, .putfield 136, 3, 11, [21, 0, 5057], 0, 0, zM0) ::
  (70, .aload_n 0, 1, 0, [], 0, 0, zM0) ::
  (71, .aload_n 0, 1, 0, [], 0, 0, zM0) ::
  (72, .getfield 121, 3, 11, [19, 0, 5055], 0, 0, zM0) ::
  (75, .putfield 133, 3, 11, [22, 0, 5058], 0, 0, zM0) ::
  (78, .goto 243, 3, 321, [], 0, 0, zM0) :: tkX11_next_81
def tkX11_next_26 : List mE := (26, .aload_n 0, 1, 0, [], 0, 0, zM0) ::
  (27, .dup, 1, 27, [], 0, 0, zM0) ::
  (28, .getfield 127, 3, 11, [20, 0, 5056], 0, 0, zM0) ::
  (31, .iconst 1, 1, 31, [], 1, 0, zM0) ::
  (32, .iadd, 1, 32, [], 0, 0, zM0) ::
  (33, .putfield 127, 3, 11, [20, 0, 5056], 0, 0, zM0) ::
  (36, .goto (-36), 3, 0, [], 0, 0, zM0) :: tkX11_next_39
def tkX11_next_0 : List mE := (0, .aload_n 0, 1, 0, [], 0, 0, zM0) ::
  (1, .aload_n 0, 1, 0, [], 0, 0, zM0) ::
  (2, .getfield 127, 3, 11, [20, 0, 5056], 0, 0, zM0) ::
  (5, .invokevirtual 130, 3, 11, [6003, 1, 1], 0, 0, kX11_byteAt) ::
  (8, .bipush 32, 2, 8, [], 32, 0, zM0) ::
  (10, .if_icmp .eq 16, 3, 26, [], 0, 0, zM0) ::
  (13, .aload_n 0, 1, 0, [], 0, 0, zM0) ::
  (14, .aload_n 0, 1, 0, [], 0, 0, zM0) ::
  (15, .getfield 127, 3, 11, [20, 0, 5056], 0, 0, zM0) ::
  (18, .invokevirtual 130, 3, 11, [6003, 1, 1], 0, 0, kX11_byteAt) ::
  (21, .bipush 10, 2, 21, [], 10, 0, zM0) ::
  (23, .if_icmp .ne 16, 3, 39, [], 0, 0, zM0) :: tkX11_next_26
def tkX11_next : List mE := tkX11_next_0
set_option maxRecDepth 100000 in
theorem zkX11_next : zat 0 tkX11_next = tkX11_next_0 ∧ zat 26 tkX11_next = tkX11_next_26 ∧ zat 39 tkX11_next = tkX11_next_39 ∧ zat 81 tkX11_next = tkX11_next_81 ∧ zat 100 tkX11_next = tkX11_next_100 ∧ zat 134 tkX11_next = tkX11_next_134 ∧ zat 160 tkX11_next = tkX11_next_160 ∧ zat 212 tkX11_next = tkX11_next_212 ∧ zat 216 tkX11_next = tkX11_next_216 ∧ zat 235 tkX11_next = tkX11_next_235 ∧ zat 245 tkX11_next = tkX11_next_245 ∧ zat 246 tkX11_next = tkX11_next_246 ∧ zat 252 tkX11_next = tkX11_next_252 ∧ zat 300 tkX11_next = tkX11_next_300 ∧ zat 321 tkX11_next = tkX11_next_321 := ⟨rfl, rfl, rfl, rfl, rfl, rfl, rfl, rfl, rfl, rfl, rfl, rfl, rfl, rfl, rfl⟩
theorem okX11_next : zok kX11_next.2.1 kX11_next.2.2.1 kX11_next.2.2.2.1 tkX11_next = true := by decide +kernel
def tkX11_byteAt_23 : List mE := (23, .ireturn, 1, 23, [], 0, 0, zM0) :: []
def tkX11_byteAt_22 : List mE := (22, .iconst (-1), 1, 22, [], (-1), 0, zM0) :: tkX11_byteAt_23
def tkX11_byteAt_0 : List mE := (0, .iload_n 1, 1, 1, [], 0, 0, zM0) ::
  (1, .aload_n 0, 1, 0, [], 0, 0, zM0) ::
  (2, .getfield 121, 3, 11, [19, 0, 5055], 0, 0, zM0) ::
  (5, .if_icmp .ge 17, 3, 22, [], 0, 0, zM0) ::
  (8, .aload_n 0, 1, 0, [], 0, 0, zM0) ::
  (9, .getfield 13, 3, 11, [1, 2, 5037], 0, 0, zM0) ::
  (12, .aload_n 0, 1, 0, [], 0, 0, zM0) ::
  (13, .getfield 124, 3, 11, [18, 0, 5054], 0, 0, zM0) ::
  (16, .iload_n 1, 1, 1, [], 0, 0, zM0) ::
  (17, .iadd, 1, 17, [], 0, 0, zM0) ::
  (18, .iaload, 1, 0, [], 0, 0, zM0) ::
  (19, .goto 4, 3, 23, [], 0, 0, zM0) :: tkX11_byteAt_22
def tkX11_byteAt : List mE := tkX11_byteAt_0
theorem zkX11_byteAt : zat 0 tkX11_byteAt = tkX11_byteAt_0 ∧ zat 22 tkX11_byteAt = tkX11_byteAt_22 ∧ zat 23 tkX11_byteAt = tkX11_byteAt_23 := ⟨rfl, rfl, rfl⟩
theorem okX11_byteAt : zok kX11_byteAt.2.1 kX11_byteAt.2.2.1 kX11_byteAt.2.2.2.1 tkX11_byteAt = true := by decide +kernel
def tkX11_isWord_113 : List mE := (113, .ireturn, 1, 113, [], 0, 0, zM0) :: []
def tkX11_isWord_112 : List mE := (112, .iconst 0, 1, 112, [], 0, 0, zM0) :: tkX11_isWord_113
def tkX11_isWord_0 : List mE := (0, .aload_n 0, 1, 0, [], 0, 0, zM0) ::
  (1, .getfield 153, 3, 11, [25, 3, 5061], 0, 0, zM0) ::
  (4, .ifCond .ne 108, 3, 112, [], 0, 0, zM0) ::
  (7, .aload_n 0, 1, 0, [], 0, 0, zM0) ::
  (8, .getfield 136, 3, 11, [21, 0, 5057], 0, 0, zM0) ::
  (11, .iconst 1, 1, 11, [], 1, 0, zM0) ::
  (12, .if_icmp .ne 100, 3, 112, [], 0, 0, zM0) ::
  (15, .aload_n 0, 1, 0, [], 0, 0, zM0) ::
  (16, .getfield 127, 3, 11, [20, 0, 5056], 0, 0, zM0) ::
  (19, .aload_n 0, 1, 0, [], 0, 0, zM0) ::
  (20, .getfield 133, 3, 11, [22, 0, 5058], 0, 0, zM0) ::
  (23, .bipush 8, 2, 23, [], 8, 0, zM0) ::
  (25, .iadd, 1, 25, [], 0, 0, zM0) ::
  (26, .if_icmp .gt 86, 3, 112, [], 0, 0, zM0) ::
  (29, .aload_n 0, 1, 0, [], 0, 0, zM0) ::
  (30, .iconst 0, 1, 30, [], 0, 0, zM0) ::
  (31, .iload_n 1, 1, 1, [], 0, 0, zM0) ::
  (32, .invokevirtual 160, 3, 11, [6016, 2, 1], 0, 0, kX11_isLetter) ::
  (35, .ifCond .eq 77, 3, 112, [], 0, 0, zM0) ::
  (38, .aload_n 0, 1, 0, [], 0, 0, zM0) ::
  (39, .iconst 1, 1, 39, [], 1, 0, zM0) ::
  (40, .iload_n 2, 1, 2, [], 0, 0, zM0) ::
  (41, .invokevirtual 160, 3, 11, [6016, 2, 1], 0, 0, kX11_isLetter) ::
  (44, .ifCond .eq 68, 3, 112, [], 0, 0, zM0) ::
  (47, .aload_n 0, 1, 0, [], 0, 0, zM0) ::
  (48, .iconst 2, 1, 48, [], 2, 0, zM0) ::
  (49, .iload_n 3, 1, 3, [], 0, 0, zM0) ::
  (50, .invokevirtual 160, 3, 11, [6016, 2, 1], 0, 0, kX11_isLetter) ::
  (53, .ifCond .eq 59, 3, 112, [], 0, 0, zM0) ::
  (56, .aload_n 0, 1, 0, [], 0, 0, zM0) ::
  (57, .iconst 3, 1, 57, [], 3, 0, zM0) ::
  (58, .iload 4, 2, 4, [], 0, 0, zM0) ::
  (60, .invokevirtual 160, 3, 11, [6016, 2, 1], 0, 0, kX11_isLetter) ::
  (63, .ifCond .eq 49, 3, 112, [], 0, 0, zM0) ::
  (66, .aload_n 0, 1, 0, [], 0, 0, zM0) ::
  (67, .iconst 4, 1, 67, [], 4, 0, zM0) ::
  (68, .iload 5, 2, 5, [], 0, 0, zM0) ::
  (70, .invokevirtual 160, 3, 11, [6016, 2, 1], 0, 0, kX11_isLetter) ::
  (73, .ifCond .eq 39, 3, 112, [], 0, 0, zM0) ::
  (76, .aload_n 0, 1, 0, [], 0, 0, zM0) ::
  (77, .iconst 5, 1, 77, [], 5, 0, zM0) ::
  (78, .iload 6, 2, 6, [], 0, 0, zM0) ::
  (80, .invokevirtual 160, 3, 11, [6016, 2, 1], 0, 0, kX11_isLetter) ::
  (83, .ifCond .eq 29, 3, 112, [], 0, 0, zM0) ::
  (86, .aload_n 0, 1, 0, [], 0, 0, zM0) ::
  (87, .bipush 6, 2, 87, [], 6, 0, zM0) ::
  (89, .iload 7, 2, 7, [], 0, 0, zM0) ::
  (91, .invokevirtual 160, 3, 11, [6016, 2, 1], 0, 0, kX11_isLetter) ::
  (94, .ifCond .eq 18, 3, 112, [], 0, 0, zM0) ::
  (97, .aload_n 0, 1, 0, [], 0, 0, zM0) ::
  (98, .bipush 7, 2, 98, [], 7, 0, zM0) ::
  (100, .iload 8, 2, 8, [], 0, 0, zM0) ::
  (102, .invokevirtual 160, 3, 11, [6016, 2, 1], 0, 0, kX11_isLetter) ::
  (105, .ifCond .eq 7, 3, 112, [], 0, 0, zM0) ::
  (108, .iconst 1, 1, 108, [], 1, 0, zM0) ::
  (109, .goto 4, 3, 113, [], 0, 0, zM0) :: tkX11_isWord_112
def tkX11_isWord : List mE := tkX11_isWord_0
theorem zkX11_isWord : zat 0 tkX11_isWord = tkX11_isWord_0 ∧ zat 112 tkX11_isWord = tkX11_isWord_112 ∧ zat 113 tkX11_isWord = tkX11_isWord_113 := ⟨rfl, rfl, rfl⟩
theorem okX11_isWord : zok kX11_isWord.2.1 kX11_isWord.2.2.1 kX11_isWord.2.2.2.1 tkX11_isWord = true := by decide +kernel
def tkX11_isLetter_44 : List mE := (44, .ireturn, 1, 44, [], 0, 0, zM0) :: []
def tkX11_isLetter_43 : List mE := (43, .iconst 0, 1, 43, [], 0, 0, zM0) :: tkX11_isLetter_44
def tkX11_isLetter_35 : List mE := (35, .iload_n 2, 1, 2, [], 0, 0, zM0) ::
  (36, .ifCond .ne 7, 3, 43, [], 0, 0, zM0) ::
  (39, .iconst 1, 1, 39, [], 1, 0, zM0) ::
  (40, .goto 4, 3, 44, [], 0, 0, zM0) :: tkX11_isLetter_43
def tkX11_isLetter_31 : List mE := (31, .iconst 0, 1, 31, [], 0, 0, zM0) ::
  (32, .goto 12, 3, 44, [], 0, 0, zM0) :: tkX11_isLetter_35
def tkX11_isLetter_0 : List mE := (0, .aload_n 0, 1, 0, [], 0, 0, zM0) ::
  (1, .getfield 133, 3, 11, [22, 0, 5058], 0, 0, zM0) ::
  (4, .iload_n 1, 1, 1, [], 0, 0, zM0) ::
  (5, .iadd, 1, 5, [], 0, 0, zM0) ::
  (6, .aload_n 0, 1, 0, [], 0, 0, zM0) ::
  (7, .getfield 127, 3, 11, [20, 0, 5056], 0, 0, zM0) ::
  (10, .if_icmp .ge 25, 3, 35, [], 0, 0, zM0) ::
  (13, .aload_n 0, 1, 0, [], 0, 0, zM0) ::
  (14, .aload_n 0, 1, 0, [], 0, 0, zM0) ::
  (15, .getfield 133, 3, 11, [22, 0, 5058], 0, 0, zM0) ::
  (18, .iload_n 1, 1, 1, [], 0, 0, zM0) ::
  (19, .iadd, 1, 19, [], 0, 0, zM0) ::
  (20, .invokevirtual 130, 3, 11, [6003, 1, 1], 0, 0, kX11_byteAt) ::
  (23, .iload_n 2, 1, 2, [], 0, 0, zM0) ::
  (24, .if_icmp .ne 7, 3, 31, [], 0, 0, zM0) ::
  (27, .iconst 1, 1, 27, [], 1, 0, zM0) ::
  (28, .goto 16, 3, 44, [], 0, 0, zM0) :: tkX11_isLetter_31
def tkX11_isLetter : List mE := tkX11_isLetter_0
theorem zkX11_isLetter : zat 0 tkX11_isLetter = tkX11_isLetter_0 ∧ zat 31 tkX11_isLetter = tkX11_isLetter_31 ∧ zat 35 tkX11_isLetter = tkX11_isLetter_35 ∧ zat 43 tkX11_isLetter = tkX11_isLetter_43 ∧ zat 44 tkX11_isLetter = tkX11_isLetter_44 := ⟨rfl, rfl, rfl, rfl, rfl⟩
theorem okX11_isLetter : zok kX11_isLetter.2.1 kX11_isLetter.2.2.1 kX11_isLetter.2.2.2.1 tkX11_isLetter = true := by decide +kernel
def tkX11_part_59 : List mE := (59, .iload_n 2, 1, 2, [], 0, 0, zM0) ::
  (60, .ireturn, 1, 60, [], 0, 0, zM0) :: []
def tkX11_part_48 : List mE := (48, .aload_n 0, 1, 0, [], 0, 0, zM0) ::
  (49, .getfield 153, 3, 11, [25, 3, 5061], 0, 0, zM0) ::
  (52, .ifCond .ne 7, 3, 59, [], 0, 0, zM0) ::
  (55, .aload_n 0, 1, 0, [], 0, 0, zM0) ::
  (56, .invokevirtual 170, 3, 11, [5239, 0, 0], 0, 0, kX11_next) :: tkX11_part_59
def tkX11_part_34 : List mE := (34, .istore_n 2, 1, 2, [], 0, 0, zM0) ::
  (35, .aload_n 0, 1, 0, [], 0, 0, zM0) ::
  (36, .bipush 59, 2, 36, [], 59, 0, zM0) ::
  (38, .invokevirtual 195, 3, 11, [6056, 1, 1], 0, 0, kX11_isSign) ::
  (41, .ifCond .ne 7, 3, 48, [], 0, 0, zM0) ::
  (44, .aload_n 0, 1, 0, [], 0, 0, zM0) ::
  (45, .invokevirtual 167, 3, 11, [6024, 0, 0], 0, 0, kX11_fail) :: tkX11_part_48
def tkX11_part_30 : List mE := (30, .aload_n 0, 1, 0, [], 0, 0, zM0) ::
  (31, .invokevirtual 206, 3, 11, [6028, 0, 1], 0, 0, kX11_either) :: tkX11_part_34
def tkX11_part_19 : List mE := (19, .aload_n 0, 1, 0, [], 0, 0, zM0) ::
  (20, .getfield 153, 3, 11, [25, 3, 5061], 0, 0, zM0) ::
  (23, .ifCond .eq 7, 3, 30, [], 0, 0, zM0) ::
  (26, .iconst 0, 1, 26, [], 0, 0, zM0) ::
  (27, .goto 7, 3, 34, [], 0, 0, zM0) :: tkX11_part_30
def tkX11_part_8 : List mE := (8, .aload_n 0, 1, 0, [], 0, 0, zM0) ::
  (9, .getfield 153, 3, 11, [25, 3, 5061], 0, 0, zM0) ::
  (12, .ifCond .ne 7, 3, 19, [], 0, 0, zM0) ::
  (15, .aload_n 0, 1, 0, [], 0, 0, zM0) ::
  (16, .invokevirtual 170, 3, 11, [5239, 0, 0], 0, 0, kX11_next) :: tkX11_part_19
def tkX11_part_0 : List mE := (0, .iload_n 1, 1, 1, [], 0, 0, zM0) ::
  (1, .ifCond .ne 7, 3, 8, [], 0, 0, zM0) ::
  (4, .aload_n 0, 1, 0, [], 0, 0, zM0) ::
  (5, .invokevirtual 167, 3, 11, [6024, 0, 0], 0, 0, kX11_fail) :: tkX11_part_8
def tkX11_part : List mE := tkX11_part_0
theorem zkX11_part : zat 0 tkX11_part = tkX11_part_0 ∧ zat 8 tkX11_part = tkX11_part_8 ∧ zat 19 tkX11_part = tkX11_part_19 ∧ zat 30 tkX11_part = tkX11_part_30 ∧ zat 34 tkX11_part = tkX11_part_34 ∧ zat 48 tkX11_part = tkX11_part_48 ∧ zat 59 tkX11_part = tkX11_part_59 := ⟨rfl, rfl, rfl, rfl, rfl, rfl, rfl⟩
theorem okX11_part : zok kX11_part.2.1 kX11_part.2.2.1 kX11_part.2.2.2.1 tkX11_part = true := by decide +kernel
def tkX11_fail_20 : List mE := (20, .return_, 1, 20, [], 0, 0, zM0) :: []
def tkX11_fail_0 : List mE := (0, .aload_n 0, 1, 0, [], 0, 0, zM0) ::
  (1, .getfield 153, 3, 11, [25, 3, 5061], 0, 0, zM0) ::
  (4, .ifCond .ne 16, 3, 20, [], 0, 0, zM0) ::
  (7, .aload_n 0, 1, 0, [], 0, 0, zM0) ::
  (8, .iconst 1, 1, 8, [], 1, 0, zM0) ::
  (9, .putfield 153, 3, 11, [25, 3, 5061], 0, 0, zM0) ::
  (12, .aload_n 0, 1, 0, [], 0, 0, zM0) ::
  (13, .aload_n 0, 1, 0, [], 0, 0, zM0) ::
  (14, .getfield 133, 3, 11, [22, 0, 5058], 0, 0, zM0) ::
  (17, .putfield 157, 3, 11, [26, 0, 5062], 0, 0, zM0) :: tkX11_fail_20
def tkX11_fail : List mE := tkX11_fail_0
theorem zkX11_fail : zat 0 tkX11_fail = tkX11_fail_0 ∧ zat 20 tkX11_fail = tkX11_fail_20 := ⟨rfl, rfl⟩
theorem okX11_fail : zok kX11_fail.2.1 kX11_fail.2.2.1 kX11_fail.2.2.2.1 tkX11_fail = true := by decide +kernel
def tkX11_either_48 : List mE := (48, .iload_n 1, 1, 1, [], 0, 0, zM0) ::
  (49, .ireturn, 1, 49, [], 0, 0, zM0) :: []
def tkX11_either_44 : List mE := (44, .istore_n 1, 1, 1, [], 0, 0, zM0) ::
  (45, .goto (-40), 3, 5, [], 0, 0, zM0) :: tkX11_either_48
def tkX11_either_43 : List mE := (43, .iconst 0, 1, 43, [], 0, 0, zM0) :: tkX11_either_44
def tkX11_either_39 : List mE := (39, .iconst 1, 1, 39, [], 1, 0, zM0) ::
  (40, .goto 4, 3, 44, [], 0, 0, zM0) :: tkX11_either_43
def tkX11_either_5 : List mE := (5, .aload_n 0, 1, 0, [], 0, 0, zM0) ::
  (6, .bipush 111, 2, 6, [], 111, 0, zM0) ::
  (8, .bipush 114, 2, 8, [], 114, 0, zM0) ::
  (10, .iconst 0, 1, 10, [], 0, 0, zM0) ::
  (11, .iconst 0, 1, 11, [], 0, 0, zM0) ::
  (12, .iconst 0, 1, 12, [], 0, 0, zM0) ::
  (13, .iconst 0, 1, 13, [], 0, 0, zM0) ::
  (14, .iconst 0, 1, 14, [], 0, 0, zM0) ::
  (15, .iconst 0, 1, 15, [], 0, 0, zM0) ::
  (16, .invokevirtual 173, 3, 11, [6012, 8, 1], 0, 0, kX11_isWord) ::
  (19, .ifCond .eq 29, 3, 48, [], 0, 0, zM0) ::
  (22, .aload_n 0, 1, 0, [], 0, 0, zM0) ::
  (23, .invokevirtual 170, 3, 11, [5239, 0, 0], 0, 0, kX11_next) ::
  (26, .aload_n 0, 1, 0, [], 0, 0, zM0) ::
  (27, .invokevirtual 225, 3, 11, [6032, 0, 1], 0, 0, kX11_both) ::
  (30, .istore_n 2, 1, 2, [], 0, 0, zM0) ::
  (31, .iload_n 1, 1, 1, [], 0, 0, zM0) ::
  (32, .ifCond .ne 7, 3, 39, [], 0, 0, zM0) ::
  (35, .iload_n 2, 1, 2, [], 0, 0, zM0) ::
  (36, .ifCond .eq 7, 3, 43, [], 0, 0, zM0) :: tkX11_either_39
def tkX11_either_0 : List mE := (0, .aload_n 0, 1, 0, [], 0, 0, zM0) ::
  (1, .invokevirtual 225, 3, 11, [6032, 0, 1], 0, 0, kX11_both) ::
  (4, .istore_n 1, 1, 1, [], 0, 0, zM0) :: tkX11_either_5
def tkX11_either : List mE := tkX11_either_0
theorem zkX11_either : zat 0 tkX11_either = tkX11_either_0 ∧ zat 5 tkX11_either = tkX11_either_5 ∧ zat 39 tkX11_either = tkX11_either_39 ∧ zat 43 tkX11_either = tkX11_either_43 ∧ zat 44 tkX11_either = tkX11_either_44 ∧ zat 48 tkX11_either = tkX11_either_48 := ⟨rfl, rfl, rfl, rfl, rfl, rfl⟩
theorem okX11_either : zok kX11_either.2.1 kX11_either.2.2.1 kX11_either.2.2.2.1 tkX11_either = true := by decide +kernel
def tkX11_both_49 : List mE := (49, .iload_n 1, 1, 1, [], 0, 0, zM0) ::
  (50, .ireturn, 1, 50, [], 0, 0, zM0) :: []
def tkX11_both_45 : List mE := (45, .istore_n 1, 1, 1, [], 0, 0, zM0) ::
  (46, .goto (-41), 3, 5, [], 0, 0, zM0) :: tkX11_both_49
def tkX11_both_44 : List mE := (44, .iconst 0, 1, 44, [], 0, 0, zM0) :: tkX11_both_45
def tkX11_both_5 : List mE := (5, .aload_n 0, 1, 0, [], 0, 0, zM0) ::
  (6, .bipush 97, 2, 6, [], 97, 0, zM0) ::
  (8, .bipush 110, 2, 8, [], 110, 0, zM0) ::
  (10, .bipush 100, 2, 10, [], 100, 0, zM0) ::
  (12, .iconst 0, 1, 12, [], 0, 0, zM0) ::
  (13, .iconst 0, 1, 13, [], 0, 0, zM0) ::
  (14, .iconst 0, 1, 14, [], 0, 0, zM0) ::
  (15, .iconst 0, 1, 15, [], 0, 0, zM0) ::
  (16, .iconst 0, 1, 16, [], 0, 0, zM0) ::
  (17, .invokevirtual 173, 3, 11, [6012, 8, 1], 0, 0, kX11_isWord) ::
  (20, .ifCond .eq 29, 3, 49, [], 0, 0, zM0) ::
  (23, .aload_n 0, 1, 0, [], 0, 0, zM0) ::
  (24, .invokevirtual 170, 3, 11, [5239, 0, 0], 0, 0, kX11_next) ::
  (27, .aload_n 0, 1, 0, [], 0, 0, zM0) ::
  (28, .invokevirtual 217, 3, 11, [6036, 0, 1], 0, 0, kX11_not) ::
  (31, .istore_n 2, 1, 2, [], 0, 0, zM0) ::
  (32, .iload_n 1, 1, 1, [], 0, 0, zM0) ::
  (33, .ifCond .eq 11, 3, 44, [], 0, 0, zM0) ::
  (36, .iload_n 2, 1, 2, [], 0, 0, zM0) ::
  (37, .ifCond .eq 7, 3, 44, [], 0, 0, zM0) ::
  (40, .iconst 1, 1, 40, [], 1, 0, zM0) ::
  (41, .goto 4, 3, 45, [], 0, 0, zM0) :: tkX11_both_44
def tkX11_both_0 : List mE := (0, .aload_n 0, 1, 0, [], 0, 0, zM0) ::
  (1, .invokevirtual 217, 3, 11, [6036, 0, 1], 0, 0, kX11_not) ::
  (4, .istore_n 1, 1, 1, [], 0, 0, zM0) :: tkX11_both_5
def tkX11_both : List mE := tkX11_both_0
theorem zkX11_both : zat 0 tkX11_both = tkX11_both_0 ∧ zat 5 tkX11_both = tkX11_both_5 ∧ zat 44 tkX11_both = tkX11_both_44 ∧ zat 45 tkX11_both = tkX11_both_45 ∧ zat 49 tkX11_both = tkX11_both_49 := ⟨rfl, rfl, rfl, rfl, rfl⟩
theorem okX11_both : zok kX11_both.2.1 kX11_both.2.2.1 kX11_both.2.2.2.1 tkX11_both = true := by decide +kernel
def tkX11_not_125 : List mE := (125, .ireturn, 1, 125, [], 0, 0, zM0) :: []
def tkX11_not_124 : List mE := (124, .iconst 0, 1, 124, [], 0, 0, zM0) :: tkX11_not_125
def tkX11_not_120 : List mE := (120, .iconst 1, 1, 120, [], 1, 0, zM0) ::
  (121, .goto 4, 3, 125, [], 0, 0, zM0) :: tkX11_not_124
def tkX11_not_115 : List mE := (115, .iload_n 1, 1, 1, [], 0, 0, zM0) ::
  (116, .iload_n 3, 1, 3, [], 0, 0, zM0) ::
  (117, .if_icmp .ne 7, 3, 124, [], 0, 0, zM0) :: tkX11_not_120
def tkX11_not_93 : List mE := (93, .istore_n 2, 1, 2, [], 0, 0, zM0) ::
  (94, .aload_n 0, 1, 0, [], 0, 0, zM0) ::
  (95, .invokevirtual 170, 3, 11, [5239, 0, 0], 0, 0, kX11_next) ::
  (98, .aload_n 0, 1, 0, [], 0, 0, zM0) ::
  (99, .invokevirtual 220, 3, 11, [6044, 0, 1], 0, 0, kX11_added) ::
  (102, .istore_n 3, 1, 3, [], 0, 0, zM0) ::
  (103, .iload_n 2, 1, 2, [], 0, 0, zM0) ::
  (104, .ifCond .eq 11, 3, 115, [], 0, 0, zM0) ::
  (107, .iload_n 1, 1, 1, [], 0, 0, zM0) ::
  (108, .iload_n 3, 1, 3, [], 0, 0, zM0) ::
  (109, .if_icmp .ge 15, 3, 124, [], 0, 0, zM0) ::
  (112, .goto 8, 3, 120, [], 0, 0, zM0) :: tkX11_not_115
def tkX11_not_92 : List mE := (92, .iconst 0, 1, 92, [], 0, 0, zM0) :: tkX11_not_93
def tkX11_not_77 : List mE := (77, .aload_n 0, 1, 0, [], 0, 0, zM0) ::
  (78, .getfield 147, 3, 11, [23, 1, 5059], 0, 0, zM0) ::
  (81, .ldc2_w 223, 3, 81, [6065], 0, 60, zM0) ::
  (84, .lcmp, 1, 84, [], 0, 0, zM0) ::
  (85, .ifCond .ne 7, 3, 92, [], 0, 0, zM0) ::
  (88, .iconst 1, 1, 88, [], 1, 0, zM0) ::
  (89, .goto 4, 3, 93, [], 0, 0, zM0) :: tkX11_not_92
def tkX11_not_52 : List mE := (52, .aload_n 0, 1, 0, [], 0, 0, zM0) ::
  (53, .invokevirtual 220, 3, 11, [6044, 0, 1], 0, 0, kX11_added) ::
  (56, .istore_n 1, 1, 1, [], 0, 0, zM0) ::
  (57, .aload_n 0, 1, 0, [], 0, 0, zM0) ::
  (58, .bipush 60, 2, 58, [], 60, 0, zM0) ::
  (60, .invokevirtual 195, 3, 11, [6056, 1, 1], 0, 0, kX11_isSign) ::
  (63, .ifCond .ne 14, 3, 77, [], 0, 0, zM0) ::
  (66, .aload_n 0, 1, 0, [], 0, 0, zM0) ::
  (67, .bipush 61, 2, 67, [], 61, 0, zM0) ::
  (69, .invokevirtual 195, 3, 11, [6056, 1, 1], 0, 0, kX11_isSign) ::
  (72, .ifCond .ne 5, 3, 77, [], 0, 0, zM0) ::
  (75, .iload_n 1, 1, 1, [], 0, 0, zM0) ::
  (76, .ireturn, 1, 76, [], 0, 0, zM0) :: tkX11_not_77
def tkX11_not_51 : List mE := (51, .ireturn, 1, 51, [], 0, 0, zM0) :: tkX11_not_52
def tkX11_not_50 : List mE := (50, .iconst 0, 1, 50, [], 0, 0, zM0) :: tkX11_not_51
def tkX11_not_27 : List mE := (27, .aload_n 0, 1, 0, [], 0, 0, zM0) ::
  (28, .invokevirtual 217, 3, 11, [6036, 0, 1], 0, 0, kX11_not) ::
  (31, .istore_n 1, 1, 1, [], 0, 0, zM0) ::
  (32, .aload_n 0, 1, 0, [], 0, 0, zM0) ::
  (33, .dup, 1, 33, [], 0, 0, zM0) ::
  (34, .getfield 164, 3, 11, [24, 0, 5060], 0, 0, zM0) ::
  (37, .iconst 1, 1, 37, [], 1, 0, zM0) ::
  (38, .isub, 1, 38, [], 0, 0, zM0) ::
  (39, .putfield 164, 3, 11, [24, 0, 5060], 0, 0, zM0) ::
  (42, .iload_n 1, 1, 1, [], 0, 0, zM0) ::
  (43, .ifCond .ne 7, 3, 50, [], 0, 0, zM0) ::
  (46, .iconst 1, 1, 46, [], 1, 0, zM0) ::
  (47, .goto 4, 3, 51, [], 0, 0, zM0) :: tkX11_not_50
def tkX11_not_0 : List mE := (0, .aload_n 0, 1, 0, [], 0, 0, zM0) ::
  (1, .bipush 110, 2, 1, [], 110, 0, zM0) ::
  (3, .bipush 111, 2, 3, [], 111, 0, zM0) ::
  (5, .bipush 116, 2, 5, [], 116, 0, zM0) ::
  (7, .iconst 0, 1, 7, [], 0, 0, zM0) ::
  (8, .iconst 0, 1, 8, [], 0, 0, zM0) ::
  (9, .iconst 0, 1, 9, [], 0, 0, zM0) ::
  (10, .iconst 0, 1, 10, [], 0, 0, zM0) ::
  (11, .iconst 0, 1, 11, [], 0, 0, zM0) ::
  (12, .invokevirtual 173, 3, 11, [6012, 8, 1], 0, 0, kX11_isWord) ::
  (15, .ifCond .eq 37, 3, 52, [], 0, 0, zM0) ::
  (18, .aload_n 0, 1, 0, [], 0, 0, zM0) ::
  (19, .invokevirtual 198, 3, 11, [6040, 0, 1], 0, 0, kX11_opens) ::
  (22, .ifCond .ne 5, 3, 27, [], 0, 0, zM0) ::
  (25, .iconst 0, 1, 25, [], 0, 0, zM0) ::
  (26, .ireturn, 1, 26, [], 0, 0, zM0) :: tkX11_not_27
def tkX11_not : List mE := tkX11_not_0
theorem zkX11_not : zat 0 tkX11_not = tkX11_not_0 ∧ zat 27 tkX11_not = tkX11_not_27 ∧ zat 50 tkX11_not = tkX11_not_50 ∧ zat 51 tkX11_not = tkX11_not_51 ∧ zat 52 tkX11_not = tkX11_not_52 ∧ zat 77 tkX11_not = tkX11_not_77 ∧ zat 92 tkX11_not = tkX11_not_92 ∧ zat 93 tkX11_not = tkX11_not_93 ∧ zat 115 tkX11_not = tkX11_not_115 ∧ zat 120 tkX11_not = tkX11_not_120 ∧ zat 124 tkX11_not = tkX11_not_124 ∧ zat 125 tkX11_not = tkX11_not_125 := ⟨rfl, rfl, rfl, rfl, rfl, rfl, rfl, rfl, rfl, rfl, rfl, rfl⟩
theorem okX11_not : zok kX11_not.2.1 kX11_not.2.2.1 kX11_not.2.2.2.1 tkX11_not = true := by decide +kernel
def tkX11_opens_14 : List mE := (14, .aload_n 0, 1, 0, [], 0, 0, zM0) ::
  (15, .dup, 1, 15, [], 0, 0, zM0) ::
  (16, .getfield 164, 3, 11, [24, 0, 5060], 0, 0, zM0) ::
  (19, .iconst 1, 1, 19, [], 1, 0, zM0) ::
  (20, .iadd, 1, 20, [], 0, 0, zM0) ::
  (21, .putfield 164, 3, 11, [24, 0, 5060], 0, 0, zM0) ::
  (24, .aload_n 0, 1, 0, [], 0, 0, zM0) ::
  (25, .invokevirtual 170, 3, 11, [5239, 0, 0], 0, 0, kX11_next) ::
  (28, .iconst 1, 1, 28, [], 1, 0, zM0) ::
  (29, .ireturn, 1, 29, [], 0, 0, zM0) :: []
def tkX11_opens_0 : List mE := (0, .aload_n 0, 1, 0, [], 0, 0, zM0) ::
  (1, .getfield 164, 3, 11, [24, 0, 5060], 0, 0, zM0) ::
  (4, .iconst 5, 1, 4, [], 5, 0, zM0) ::
  (5, .if_icmp .ne 9, 3, 14, [], 0, 0, zM0) ::
  (8, .aload_n 0, 1, 0, [], 0, 0, zM0) ::
  (9, .invokevirtual 167, 3, 11, [6024, 0, 0], 0, 0, kX11_fail) ::
  (12, .iconst 0, 1, 12, [], 0, 0, zM0) ::
  (13, .ireturn, 1, 13, [], 0, 0, zM0) :: tkX11_opens_14
def tkX11_opens : List mE := tkX11_opens_0
theorem zkX11_opens : zat 0 tkX11_opens = tkX11_opens_0 ∧ zat 14 tkX11_opens = tkX11_opens_14 := ⟨rfl, rfl⟩
theorem okX11_opens : zok kX11_opens.2.1 kX11_opens.2.2.1 kX11_opens.2.2.2.1 tkX11_opens = true := by decide +kernel
def tkX11_added_66 : List mE := (66, .iload_n 1, 1, 1, [], 0, 0, zM0) ::
  (67, .ireturn, 1, 67, [], 0, 0, zM0) :: []
def tkX11_added_62 : List mE := (62, .istore_n 1, 1, 1, [], 0, 0, zM0) ::
  (63, .goto (-58), 3, 5, [], 0, 0, zM0) :: tkX11_added_66
def tkX11_added_59 : List mE := (59, .iload_n 1, 1, 1, [], 0, 0, zM0) ::
  (60, .iload_n 3, 1, 3, [], 0, 0, zM0) ::
  (61, .isub, 1, 61, [], 0, 0, zM0) :: tkX11_added_62
def tkX11_added_39 : List mE := (39, .istore_n 2, 1, 2, [], 0, 0, zM0) ::
  (40, .aload_n 0, 1, 0, [], 0, 0, zM0) ::
  (41, .invokevirtual 170, 3, 11, [5239, 0, 0], 0, 0, kX11_next) ::
  (44, .aload_n 0, 1, 0, [], 0, 0, zM0) ::
  (45, .invokevirtual 212, 3, 11, [6048, 0, 1], 0, 0, kX11_term) ::
  (48, .istore_n 3, 1, 3, [], 0, 0, zM0) ::
  (49, .iload_n 2, 1, 2, [], 0, 0, zM0) ::
  (50, .ifCond .eq 9, 3, 59, [], 0, 0, zM0) ::
  (53, .iload_n 1, 1, 1, [], 0, 0, zM0) ::
  (54, .iload_n 3, 1, 3, [], 0, 0, zM0) ::
  (55, .iadd, 1, 55, [], 0, 0, zM0) ::
  (56, .goto 6, 3, 62, [], 0, 0, zM0) :: tkX11_added_59
def tkX11_added_38 : List mE := (38, .iconst 0, 1, 38, [], 0, 0, zM0) :: tkX11_added_39
def tkX11_added_23 : List mE := (23, .aload_n 0, 1, 0, [], 0, 0, zM0) ::
  (24, .getfield 147, 3, 11, [23, 1, 5059], 0, 0, zM0) ::
  (27, .ldc2_w 215, 3, 27, [6064], 0, 43, zM0) ::
  (30, .lcmp, 1, 30, [], 0, 0, zM0) ::
  (31, .ifCond .ne 7, 3, 38, [], 0, 0, zM0) ::
  (34, .iconst 1, 1, 34, [], 1, 0, zM0) ::
  (35, .goto 4, 3, 39, [], 0, 0, zM0) :: tkX11_added_38
def tkX11_added_5 : List mE := (5, .aload_n 0, 1, 0, [], 0, 0, zM0) ::
  (6, .bipush 43, 2, 6, [], 43, 0, zM0) ::
  (8, .invokevirtual 195, 3, 11, [6056, 1, 1], 0, 0, kX11_isSign) ::
  (11, .ifCond .ne 12, 3, 23, [], 0, 0, zM0) ::
  (14, .aload_n 0, 1, 0, [], 0, 0, zM0) ::
  (15, .bipush 45, 2, 15, [], 45, 0, zM0) ::
  (17, .invokevirtual 195, 3, 11, [6056, 1, 1], 0, 0, kX11_isSign) ::
  (20, .ifCond .eq 46, 3, 66, [], 0, 0, zM0) :: tkX11_added_23
def tkX11_added_0 : List mE := (0, .aload_n 0, 1, 0, [], 0, 0, zM0) ::
  (1, .invokevirtual 212, 3, 11, [6048, 0, 1], 0, 0, kX11_term) ::
  (4, .istore_n 1, 1, 1, [], 0, 0, zM0) :: tkX11_added_5
def tkX11_added : List mE := tkX11_added_0
theorem zkX11_added : zat 0 tkX11_added = tkX11_added_0 ∧ zat 5 tkX11_added = tkX11_added_5 ∧ zat 23 tkX11_added = tkX11_added_23 ∧ zat 38 tkX11_added = tkX11_added_38 ∧ zat 39 tkX11_added = tkX11_added_39 ∧ zat 59 tkX11_added = tkX11_added_59 ∧ zat 62 tkX11_added = tkX11_added_62 ∧ zat 66 tkX11_added = tkX11_added_66 := ⟨rfl, rfl, rfl, rfl, rfl, rfl, rfl, rfl⟩
theorem okX11_added : zok kX11_added.2.1 kX11_added.2.2.1 kX11_added.2.2.2.1 tkX11_added = true := by decide +kernel
def tkX11_term_28 : List mE := (28, .iload_n 1, 1, 1, [], 0, 0, zM0) ::
  (29, .ireturn, 1, 29, [], 0, 0, zM0) :: []
def tkX11_term_5 : List mE := (5, .aload_n 0, 1, 0, [], 0, 0, zM0) ::
  (6, .bipush 42, 2, 6, [], 42, 0, zM0) ::
  (8, .invokevirtual 195, 3, 11, [6056, 1, 1], 0, 0, kX11_isSign) ::
  (11, .ifCond .eq 17, 3, 28, [], 0, 0, zM0) ::
  (14, .aload_n 0, 1, 0, [], 0, 0, zM0) ::
  (15, .invokevirtual 170, 3, 11, [5239, 0, 0], 0, 0, kX11_next) ::
  (18, .iload_n 1, 1, 1, [], 0, 0, zM0) ::
  (19, .aload_n 0, 1, 0, [], 0, 0, zM0) ::
  (20, .invokevirtual 202, 3, 11, [6052, 0, 1], 0, 0, kX11_atom) ::
  (23, .imul, 1, 23, [], 0, 0, zM0) ::
  (24, .istore_n 1, 1, 1, [], 0, 0, zM0) ::
  (25, .goto (-20), 3, 5, [], 0, 0, zM0) :: tkX11_term_28
def tkX11_term_0 : List mE := (0, .aload_n 0, 1, 0, [], 0, 0, zM0) ::
  (1, .invokevirtual 202, 3, 11, [6052, 0, 1], 0, 0, kX11_atom) ::
  (4, .istore_n 1, 1, 1, [], 0, 0, zM0) :: tkX11_term_5
def tkX11_term : List mE := tkX11_term_0
theorem zkX11_term : zat 0 tkX11_term = tkX11_term_0 ∧ zat 5 tkX11_term = tkX11_term_5 ∧ zat 28 tkX11_term = tkX11_term_28 := ⟨rfl, rfl, rfl⟩
theorem okX11_term : zok kX11_term.2.1 kX11_term.2.2.1 kX11_term.2.2.2.1 tkX11_term = true := by decide +kernel
def tkX11_atom_161 : List mE := (161, .iload_n 1, 1, 1, [], 0, 0, zM0) ::
  (162, .ireturn, 1, 162, [], 0, 0, zM0) :: []
def tkX11_atom_157 : List mE := (157, .aload_n 0, 1, 0, [], 0, 0, zM0) ::
  (158, .invokevirtual 167, 3, 11, [6024, 0, 0], 0, 0, kX11_fail) :: tkX11_atom_161
def tkX11_atom_123 : List mE := (123, .aload_n 0, 1, 0, [], 0, 0, zM0) ::
  (124, .getfield 153, 3, 11, [25, 3, 5061], 0, 0, zM0) ::
  (127, .ifCond .ne 30, 3, 157, [], 0, 0, zM0) ::
  (130, .aload_n 0, 1, 0, [], 0, 0, zM0) ::
  (131, .getfield 136, 3, 11, [21, 0, 5057], 0, 0, zM0) ::
  (134, .iconst 1, 1, 134, [], 1, 0, zM0) ::
  (135, .if_icmp .ne 22, 3, 157, [], 0, 0, zM0) ::
  (138, .aload_n 0, 1, 0, [], 0, 0, zM0) ::
  (139, .invokevirtual 209, 3, 11, [6060, 0, 1], 0, 0, kX11_name) ::
  (142, .istore_n 1, 1, 1, [], 0, 0, zM0) ::
  (143, .aload_n 0, 1, 0, [], 0, 0, zM0) ::
  (144, .getfield 153, 3, 11, [25, 3, 5061], 0, 0, zM0) ::
  (147, .ifCond .ne 14, 3, 161, [], 0, 0, zM0) ::
  (150, .aload_n 0, 1, 0, [], 0, 0, zM0) ::
  (151, .invokevirtual 170, 3, 11, [5239, 0, 0], 0, 0, kX11_next) ::
  (154, .goto 7, 3, 161, [], 0, 0, zM0) :: tkX11_atom_157
def tkX11_atom_95 : List mE := (95, .aload_n 0, 1, 0, [], 0, 0, zM0) ::
  (96, .getfield 153, 3, 11, [25, 3, 5061], 0, 0, zM0) ::
  (99, .ifCond .ne 24, 3, 123, [], 0, 0, zM0) ::
  (102, .aload_n 0, 1, 0, [], 0, 0, zM0) ::
  (103, .getfield 136, 3, 11, [21, 0, 5057], 0, 0, zM0) ::
  (106, .iconst 2, 1, 106, [], 2, 0, zM0) ::
  (107, .if_icmp .ne 16, 3, 123, [], 0, 0, zM0) ::
  (110, .aload_n 0, 1, 0, [], 0, 0, zM0) ::
  (111, .getfield 147, 3, 11, [23, 1, 5059], 0, 0, zM0) ::
  (114, .l2i, 1, 114, [], 0, 0, zM0) ::
  (115, .istore_n 1, 1, 1, [], 0, 0, zM0) ::
  (116, .aload_n 0, 1, 0, [], 0, 0, zM0) ::
  (117, .invokevirtual 170, 3, 11, [5239, 0, 0], 0, 0, kX11_next) ::
  (120, .goto 41, 3, 161, [], 0, 0, zM0) :: tkX11_atom_123
def tkX11_atom_71 : List mE := (71, .aload_n 0, 1, 0, [], 0, 0, zM0) ::
  (72, .dup, 1, 72, [], 0, 0, zM0) ::
  (73, .getfield 164, 3, 11, [24, 0, 5060], 0, 0, zM0) ::
  (76, .iconst 1, 1, 76, [], 1, 0, zM0) ::
  (77, .isub, 1, 77, [], 0, 0, zM0) ::
  (78, .putfield 164, 3, 11, [24, 0, 5060], 0, 0, zM0) ::
  (81, .aload_n 0, 1, 0, [], 0, 0, zM0) ::
  (82, .getfield 153, 3, 11, [25, 3, 5061], 0, 0, zM0) ::
  (85, .ifCond .ne 76, 3, 161, [], 0, 0, zM0) ::
  (88, .aload_n 0, 1, 0, [], 0, 0, zM0) ::
  (89, .invokevirtual 170, 3, 11, [5239, 0, 0], 0, 0, kX11_next) ::
  (92, .goto 69, 3, 161, [], 0, 0, zM0) :: tkX11_atom_95
def tkX11_atom_37 : List mE := (37, .aload_n 0, 1, 0, [], 0, 0, zM0) ::
  (38, .bipush 40, 2, 38, [], 40, 0, zM0) ::
  (40, .invokevirtual 195, 3, 11, [6056, 1, 1], 0, 0, kX11_isSign) ::
  (43, .ifCond .eq 52, 3, 95, [], 0, 0, zM0) ::
  (46, .aload_n 0, 1, 0, [], 0, 0, zM0) ::
  (47, .invokevirtual 198, 3, 11, [6040, 0, 1], 0, 0, kX11_opens) ::
  (50, .ifCond .eq 111, 3, 161, [], 0, 0, zM0) ::
  (53, .aload_n 0, 1, 0, [], 0, 0, zM0) ::
  (54, .invokevirtual 206, 3, 11, [6028, 0, 1], 0, 0, kX11_either) ::
  (57, .istore_n 1, 1, 1, [], 0, 0, zM0) ::
  (58, .aload_n 0, 1, 0, [], 0, 0, zM0) ::
  (59, .bipush 41, 2, 59, [], 41, 0, zM0) ::
  (61, .invokevirtual 195, 3, 11, [6056, 1, 1], 0, 0, kX11_isSign) ::
  (64, .ifCond .ne 7, 3, 71, [], 0, 0, zM0) ::
  (67, .aload_n 0, 1, 0, [], 0, 0, zM0) ::
  (68, .invokevirtual 167, 3, 11, [6024, 0, 0], 0, 0, kX11_fail) :: tkX11_atom_71
def tkX11_atom_0 : List mE := (0, .iconst 0, 1, 0, [], 0, 0, zM0) ::
  (1, .istore_n 1, 1, 1, [], 0, 0, zM0) ::
  (2, .aload_n 0, 1, 0, [], 0, 0, zM0) ::
  (3, .bipush 45, 2, 3, [], 45, 0, zM0) ::
  (5, .invokevirtual 195, 3, 11, [6056, 1, 1], 0, 0, kX11_isSign) ::
  (8, .ifCond .eq 29, 3, 37, [], 0, 0, zM0) ::
  (11, .aload_n 0, 1, 0, [], 0, 0, zM0) ::
  (12, .invokevirtual 198, 3, 11, [6040, 0, 1], 0, 0, kX11_opens) ::
  (15, .ifCond .eq 146, 3, 161, [], 0, 0, zM0) ::
  (18, .aload_n 0, 1, 0, [], 0, 0, zM0) ::
  (19, .invokevirtual 202, 3, 11, [6052, 0, 1], 0, 0, kX11_atom) ::
  (22, .ineg, 1, 22, [], 0, 0, zM0) ::
  (23, .istore_n 1, 1, 1, [], 0, 0, zM0) ::
  (24, .aload_n 0, 1, 0, [], 0, 0, zM0) ::
  (25, .dup, 1, 25, [], 0, 0, zM0) ::
  (26, .getfield 164, 3, 11, [24, 0, 5060], 0, 0, zM0) ::
  (29, .iconst 1, 1, 29, [], 1, 0, zM0) ::
  (30, .isub, 1, 30, [], 0, 0, zM0) ::
  (31, .putfield 164, 3, 11, [24, 0, 5060], 0, 0, zM0) ::
  (34, .goto 127, 3, 161, [], 0, 0, zM0) :: tkX11_atom_37
def tkX11_atom : List mE := tkX11_atom_0
theorem zkX11_atom : zat 0 tkX11_atom = tkX11_atom_0 ∧ zat 37 tkX11_atom = tkX11_atom_37 ∧ zat 71 tkX11_atom = tkX11_atom_71 ∧ zat 95 tkX11_atom = tkX11_atom_95 ∧ zat 123 tkX11_atom = tkX11_atom_123 ∧ zat 157 tkX11_atom = tkX11_atom_157 ∧ zat 161 tkX11_atom = tkX11_atom_161 := ⟨rfl, rfl, rfl, rfl, rfl, rfl, rfl⟩
theorem okX11_atom : zok kX11_atom.2.1 kX11_atom.2.2.1 kX11_atom.2.2.2.1 tkX11_atom = true := by decide +kernel
def tkX11_isSign_30 : List mE := (30, .ireturn, 1, 30, [], 0, 0, zM0) :: []
def tkX11_isSign_29 : List mE := (29, .iconst 0, 1, 29, [], 0, 0, zM0) :: tkX11_isSign_30
def tkX11_isSign_0 : List mE := (0, .aload_n 0, 1, 0, [], 0, 0, zM0) ::
  (1, .getfield 153, 3, 11, [25, 3, 5061], 0, 0, zM0) ::
  (4, .ifCond .ne 25, 3, 29, [], 0, 0, zM0) ::
  (7, .aload_n 0, 1, 0, [], 0, 0, zM0) ::
  (8, .getfield 136, 3, 11, [21, 0, 5057], 0, 0, zM0) ::
  (11, .iconst 3, 1, 11, [], 3, 0, zM0) ::
  (12, .if_icmp .ne 17, 3, 29, [], 0, 0, zM0) ::
  (15, .aload_n 0, 1, 0, [], 0, 0, zM0) ::
  (16, .getfield 147, 3, 11, [23, 1, 5059], 0, 0, zM0) ::
  (19, .iload_n 1, 1, 1, [], 0, 0, zM0) ::
  (20, .i2l, 1, 20, [], 0, 0, zM0) ::
  (21, .lcmp, 1, 21, [], 0, 0, zM0) ::
  (22, .ifCond .ne 7, 3, 29, [], 0, 0, zM0) ::
  (25, .iconst 1, 1, 25, [], 1, 0, zM0) ::
  (26, .goto 4, 3, 30, [], 0, 0, zM0) :: tkX11_isSign_29
def tkX11_isSign : List mE := tkX11_isSign_0
theorem zkX11_isSign : zat 0 tkX11_isSign = tkX11_isSign_0 ∧ zat 29 tkX11_isSign = tkX11_isSign_29 ∧ zat 30 tkX11_isSign = tkX11_isSign_30 := ⟨rfl, rfl, rfl⟩
theorem okX11_isSign : zok kX11_isSign.2.1 kX11_isSign.2.2.1 kX11_isSign.2.2.2.1 tkX11_isSign = true := by decide +kernel
def tkX11_name_150 : List mE := (150, .aload_n 0, 1, 0, [], 0, 0, zM0) ::
  (151, .invokevirtual 167, 3, 11, [6024, 0, 0], 0, 0, kX11_fail) ::
  (154, .iconst 0, 1, 154, [], 0, 0, zM0) ::
  (155, .ireturn, 1, 155, [], 0, 0, zM0) :: []
def tkX11_name_126 : List mE := (126, .aload_n 0, 1, 0, [], 0, 0, zM0) ::
  (127, .bipush 101, 2, 127, [], 101, 0, zM0) ::
  (129, .bipush 103, 2, 129, [], 103, 0, zM0) ::
  (131, .bipush 103, 2, 131, [], 103, 0, zM0) ::
  (133, .bipush 115, 2, 133, [], 115, 0, zM0) ::
  (135, .iconst 0, 1, 135, [], 0, 0, zM0) ::
  (136, .iconst 0, 1, 136, [], 0, 0, zM0) ::
  (137, .iconst 0, 1, 137, [], 0, 0, zM0) ::
  (138, .iconst 0, 1, 138, [], 0, 0, zM0) ::
  (139, .invokevirtual 173, 3, 11, [6012, 8, 1], 0, 0, kX11_isWord) ::
  (142, .ifCond .eq 8, 3, 150, [], 0, 0, zM0) ::
  (145, .aload_n 0, 1, 0, [], 0, 0, zM0) ::
  (146, .getfield 192, 3, 11, [17, 0, 5053], 0, 0, zM0) ::
  (149, .ireturn, 1, 149, [], 0, 0, zM0) :: tkX11_name_150
def tkX11_name_103 : List mE := (103, .aload_n 0, 1, 0, [], 0, 0, zM0) ::
  (104, .bipush 100, 2, 104, [], 100, 0, zM0) ::
  (106, .bipush 97, 2, 106, [], 97, 0, zM0) ::
  (108, .bipush 121, 2, 108, [], 121, 0, zM0) ::
  (110, .iconst 0, 1, 110, [], 0, 0, zM0) ::
  (111, .iconst 0, 1, 111, [], 0, 0, zM0) ::
  (112, .iconst 0, 1, 112, [], 0, 0, zM0) ::
  (113, .iconst 0, 1, 113, [], 0, 0, zM0) ::
  (114, .iconst 0, 1, 114, [], 0, 0, zM0) ::
  (115, .invokevirtual 173, 3, 11, [6012, 8, 1], 0, 0, kX11_isWord) ::
  (118, .ifCond .eq 8, 3, 126, [], 0, 0, zM0) ::
  (121, .aload_n 0, 1, 0, [], 0, 0, zM0) ::
  (122, .getfield 189, 3, 11, [16, 0, 5052], 0, 0, zM0) ::
  (125, .ireturn, 1, 125, [], 0, 0, zM0) :: tkX11_name_126
def tkX11_name_77 : List mE := (77, .aload_n 0, 1, 0, [], 0, 0, zM0) ::
  (78, .bipush 110, 2, 78, [], 110, 0, zM0) ::
  (80, .bipush 117, 2, 80, [], 117, 0, zM0) ::
  (82, .bipush 109, 2, 82, [], 109, 0, zM0) ::
  (84, .bipush 98, 2, 84, [], 98, 0, zM0) ::
  (86, .bipush 101, 2, 86, [], 101, 0, zM0) ::
  (88, .bipush 114, 2, 88, [], 114, 0, zM0) ::
  (90, .iconst 0, 1, 90, [], 0, 0, zM0) ::
  (91, .iconst 0, 1, 91, [], 0, 0, zM0) ::
  (92, .invokevirtual 173, 3, 11, [6012, 8, 1], 0, 0, kX11_isWord) ::
  (95, .ifCond .eq 8, 3, 103, [], 0, 0, zM0) ::
  (98, .aload_n 0, 1, 0, [], 0, 0, zM0) ::
  (99, .getfield 186, 3, 11, [15, 0, 5051], 0, 0, zM0) ::
  (102, .ireturn, 1, 102, [], 0, 0, zM0) :: tkX11_name_103
def tkX11_name_52 : List mE := (52, .aload_n 0, 1, 0, [], 0, 0, zM0) ::
  (53, .bipush 104, 2, 53, [], 104, 0, zM0) ::
  (55, .bipush 111, 2, 55, [], 111, 0, zM0) ::
  (57, .bipush 108, 2, 57, [], 108, 0, zM0) ::
  (59, .bipush 100, 2, 59, [], 100, 0, zM0) ::
  (61, .bipush 115, 2, 61, [], 115, 0, zM0) ::
  (63, .iconst 0, 1, 63, [], 0, 0, zM0) ::
  (64, .iconst 0, 1, 64, [], 0, 0, zM0) ::
  (65, .iconst 0, 1, 65, [], 0, 0, zM0) ::
  (66, .invokevirtual 173, 3, 11, [6012, 8, 1], 0, 0, kX11_isWord) ::
  (69, .ifCond .eq 8, 3, 77, [], 0, 0, zM0) ::
  (72, .aload_n 0, 1, 0, [], 0, 0, zM0) ::
  (73, .getfield 183, 3, 11, [14, 0, 5050], 0, 0, zM0) ::
  (76, .ireturn, 1, 76, [], 0, 0, zM0) :: tkX11_name_77
def tkX11_name_25 : List mE := (25, .aload_n 0, 1, 0, [], 0, 0, zM0) ::
  (26, .bipush 97, 2, 26, [], 97, 0, zM0) ::
  (28, .bipush 103, 2, 28, [], 103, 0, zM0) ::
  (30, .bipush 97, 2, 30, [], 97, 0, zM0) ::
  (32, .bipush 105, 2, 32, [], 105, 0, zM0) ::
  (34, .bipush 110, 2, 34, [], 110, 0, zM0) ::
  (36, .bipush 115, 2, 36, [], 115, 0, zM0) ::
  (38, .bipush 116, 2, 38, [], 116, 0, zM0) ::
  (40, .iconst 0, 1, 40, [], 0, 0, zM0) ::
  (41, .invokevirtual 173, 3, 11, [6012, 8, 1], 0, 0, kX11_isWord) ::
  (44, .ifCond .eq 8, 3, 52, [], 0, 0, zM0) ::
  (47, .aload_n 0, 1, 0, [], 0, 0, zM0) ::
  (48, .getfield 180, 3, 11, [13, 0, 5049], 0, 0, zM0) ::
  (51, .ireturn, 1, 51, [], 0, 0, zM0) :: tkX11_name_52
def tkX11_name_0 : List mE := (0, .aload_n 0, 1, 0, [], 0, 0, zM0) ::
  (1, .bipush 112, 2, 1, [], 112, 0, zM0) ::
  (3, .bipush 111, 2, 3, [], 111, 0, zM0) ::
  (5, .bipush 105, 2, 5, [], 105, 0, zM0) ::
  (7, .bipush 110, 2, 7, [], 110, 0, zM0) ::
  (9, .bipush 116, 2, 9, [], 116, 0, zM0) ::
  (11, .iconst 0, 1, 11, [], 0, 0, zM0) ::
  (12, .iconst 0, 1, 12, [], 0, 0, zM0) ::
  (13, .iconst 0, 1, 13, [], 0, 0, zM0) ::
  (14, .invokevirtual 173, 3, 11, [6012, 8, 1], 0, 0, kX11_isWord) ::
  (17, .ifCond .eq 8, 3, 25, [], 0, 0, zM0) ::
  (20, .aload_n 0, 1, 0, [], 0, 0, zM0) ::
  (21, .getfield 177, 3, 11, [12, 0, 5048], 0, 0, zM0) ::
  (24, .ireturn, 1, 24, [], 0, 0, zM0) :: tkX11_name_25
def tkX11_name : List mE := tkX11_name_0
theorem zkX11_name : zat 0 tkX11_name = tkX11_name_0 ∧ zat 25 tkX11_name = tkX11_name_25 ∧ zat 52 tkX11_name = tkX11_name_52 ∧ zat 77 tkX11_name = tkX11_name_77 ∧ zat 103 tkX11_name = tkX11_name_103 ∧ zat 126 tkX11_name = tkX11_name_126 ∧ zat 150 tkX11_name = tkX11_name_150 := ⟨rfl, rfl, rfl, rfl, rfl, rfl, rfl⟩
theorem okX11_name : zok kX11_name.2.1 kX11_name.2.2.1 kX11_name.2.2.2.1 tkX11_name = true := by decide +kernel
def tkX11_within_19 : List mE := (19, .ireturn, 1, 19, [], 0, 0, zM0) :: []
def tkX11_within_18 : List mE := (18, .iload_n 0, 1, 0, [], 0, 0, zM0) :: tkX11_within_19
def tkX11_within_9 : List mE := (9, .iload_n 0, 1, 0, [], 0, 0, zM0) ::
  (10, .iload_n 2, 1, 2, [], 0, 0, zM0) ::
  (11, .if_icmp .le 7, 3, 18, [], 0, 0, zM0) ::
  (14, .iload_n 2, 1, 2, [], 0, 0, zM0) ::
  (15, .goto 4, 3, 19, [], 0, 0, zM0) :: tkX11_within_18
def tkX11_within_0 : List mE := (0, .iload_n 0, 1, 0, [], 0, 0, zM0) ::
  (1, .iload_n 1, 1, 1, [], 0, 0, zM0) ::
  (2, .if_icmp .ge 7, 3, 9, [], 0, 0, zM0) ::
  (5, .iload_n 1, 1, 1, [], 0, 0, zM0) ::
  (6, .goto 13, 3, 19, [], 0, 0, zM0) :: tkX11_within_9
def tkX11_within : List mE := tkX11_within_0
theorem zkX11_within : zat 0 tkX11_within = tkX11_within_0 ∧ zat 9 tkX11_within = tkX11_within_9 ∧ zat 18 tkX11_within = tkX11_within_18 ∧ zat 19 tkX11_within = tkX11_within_19 := ⟨rfl, rfl, rfl, rfl⟩
theorem okX11_within : zok kX11_within.2.1 kX11_within.2.2.1 kX11_within.2.2.2.1 tkX11_within = true := by decide +kernel
def tkX11_lays1_53 : List mE := (53, .return_, 1, 53, [], 0, 0, zM0) :: []
def tkX11_lays1_48 : List mE := (48, .aload_n 0, 1, 0, [], 0, 0, zM0) ::
  (49, .iload_n 3, 1, 3, [], 0, 0, zM0) ::
  (50, .putfield 100, 3, 11, [4, 0, 5040], 0, 0, zM0) :: tkX11_lays1_53
def tkX11_lays1_33 : List mE := (33, .iload_n 1, 1, 1, [], 0, 0, zM0) ::
  (34, .iconst 4, 1, 34, [], 4, 0, zM0) ::
  (35, .if_icmp .ne 13, 3, 48, [], 0, 0, zM0) ::
  (38, .aload_n 0, 1, 0, [], 0, 0, zM0) ::
  (39, .getfield 26, 3, 11, [9, 2, 5045], 0, 0, zM0) ::
  (42, .iload_n 2, 1, 2, [], 0, 0, zM0) ::
  (43, .iload_n 3, 1, 3, [], 0, 0, zM0) ::
  (44, .iastore, 1, 44, [], 0, 0, zM0) ::
  (45, .goto 8, 3, 53, [], 0, 0, zM0) :: tkX11_lays1_48
def tkX11_lays1_12 : List mE := (12, .iload_n 1, 1, 1, [], 0, 0, zM0) ::
  (13, .iconst 4, 1, 13, [], 4, 0, zM0) ::
  (14, .if_icmp .ge 19, 3, 33, [], 0, 0, zM0) ::
  (17, .aload_n 0, 1, 0, [], 0, 0, zM0) ::
  (18, .getfield 29, 3, 11, [10, 2, 5046], 0, 0, zM0) ::
  (21, .iconst 3, 1, 21, [], 3, 0, zM0) ::
  (22, .iload_n 2, 1, 2, [], 0, 0, zM0) ::
  (23, .imul, 1, 23, [], 0, 0, zM0) ::
  (24, .iload_n 1, 1, 1, [], 0, 0, zM0) ::
  (25, .iadd, 1, 25, [], 0, 0, zM0) ::
  (26, .iconst 1, 1, 26, [], 1, 0, zM0) ::
  (27, .isub, 1, 27, [], 0, 0, zM0) ::
  (28, .iload_n 3, 1, 3, [], 0, 0, zM0) ::
  (29, .iastore, 1, 29, [], 0, 0, zM0) ::
  (30, .goto 23, 3, 53, [], 0, 0, zM0) :: tkX11_lays1_33
def tkX11_lays1_0 : List mE := (0, .iload_n 1, 1, 1, [], 0, 0, zM0) ::
  (1, .ifCond .ne 11, 3, 12, [], 0, 0, zM0) ::
  (4, .aload_n 0, 1, 0, [], 0, 0, zM0) ::
  (5, .iload_n 3, 1, 3, [], 0, 0, zM0) ::
  (6, .putfield 97, 3, 11, [7, 0, 5043], 0, 0, zM0) ::
  (9, .goto 44, 3, 53, [], 0, 0, zM0) :: tkX11_lays1_12
def tkX11_lays1 : List mE := tkX11_lays1_0
theorem zkX11_lays1 : zat 0 tkX11_lays1 = tkX11_lays1_0 ∧ zat 12 tkX11_lays1 = tkX11_lays1_12 ∧ zat 33 tkX11_lays1 = tkX11_lays1_33 ∧ zat 48 tkX11_lays1 = tkX11_lays1_48 ∧ zat 53 tkX11_lays1 = tkX11_lays1_53 := ⟨rfl, rfl, rfl, rfl, rfl⟩
theorem okX11_lays1 : zok kX11_lays1.2.1 kX11_lays1.2.2.1 kX11_lays1.2.2.2.1 tkX11_lays1 = true := by decide +kernel
def tkX11_hen_38 : List mE := (38, .aload_n 0, 1, 0, [], 0, 0, zM0) ::
  (39, .getfield 26, 3, 11, [9, 2, 5045], 0, 0, zM0) ::
  (42, .aload_n 0, 1, 0, [], 0, 0, zM0) ::
  (43, .getfield 67, 3, 11, [11, 0, 5047], 0, 0, zM0) ::
  (46, .iload_n 1, 1, 1, [], 0, 0, zM0) ::
  (47, .iastore, 1, 47, [], 0, 0, zM0) ::
  (48, .aload_n 0, 1, 0, [], 0, 0, zM0) ::
  (49, .getfield 29, 3, 11, [10, 2, 5046], 0, 0, zM0) ::
  (52, .iconst 3, 1, 52, [], 3, 0, zM0) ::
  (53, .aload_n 0, 1, 0, [], 0, 0, zM0) ::
  (54, .getfield 67, 3, 11, [11, 0, 5047], 0, 0, zM0) ::
  (57, .imul, 1, 57, [], 0, 0, zM0) ::
  (58, .iload_n 2, 1, 2, [], 0, 0, zM0) ::
  (59, .iastore, 1, 59, [], 0, 0, zM0) ::
  (60, .aload_n 0, 1, 0, [], 0, 0, zM0) ::
  (61, .getfield 29, 3, 11, [10, 2, 5046], 0, 0, zM0) ::
  (64, .iconst 3, 1, 64, [], 3, 0, zM0) ::
  (65, .aload_n 0, 1, 0, [], 0, 0, zM0) ::
  (66, .getfield 67, 3, 11, [11, 0, 5047], 0, 0, zM0) ::
  (69, .imul, 1, 69, [], 0, 0, zM0) ::
  (70, .iconst 1, 1, 70, [], 1, 0, zM0) ::
  (71, .iadd, 1, 71, [], 0, 0, zM0) ::
  (72, .iconst 0, 1, 72, [], 0, 0, zM0) ::
  (73, .iastore, 1, 73, [], 0, 0, zM0) ::
  (74, .aload_n 0, 1, 0, [], 0, 0, zM0) ::
  (75, .getfield 29, 3, 11, [10, 2, 5046], 0, 0, zM0) ::
  (78, .iconst 3, 1, 78, [], 3, 0, zM0) ::
  (79, .aload_n 0, 1, 0, [], 0, 0, zM0) ::
  (80, .getfield 67, 3, 11, [11, 0, 5047], 0, 0, zM0) ::
  (83, .imul, 1, 83, [], 0, 0, zM0) ::
  (84, .iconst 2, 1, 84, [], 2, 0, zM0) ::
  (85, .iadd, 1, 85, [], 0, 0, zM0) ::
  (86, .iconst 0, 1, 86, [], 0, 0, zM0) ::
  (87, .iastore, 1, 87, [], 0, 0, zM0) ::
  (88, .aload_n 0, 1, 0, [], 0, 0, zM0) ::
  (89, .dup, 1, 89, [], 0, 0, zM0) ::
  (90, .getfield 67, 3, 11, [11, 0, 5047], 0, 0, zM0) ::
  (93, .iconst 1, 1, 93, [], 1, 0, zM0) ::
  (94, .iadd, 1, 94, [], 0, 0, zM0) ::
  (95, .putfield 67, 3, 11, [11, 0, 5047], 0, 0, zM0) ::
  (98, .aload_n 0, 1, 0, [], 0, 0, zM0) ::
  (99, .getfield 67, 3, 11, [11, 0, 5047], 0, 0, zM0) ::
  (102, .iconst 1, 1, 102, [], 1, 0, zM0) ::
  (103, .isub, 1, 103, [], 0, 0, zM0) ::
  (104, .ireturn, 1, 104, [], 0, 0, zM0) :: []
def tkX11_hen_27 : List mE := (27, .aload_n 0, 1, 0, [], 0, 0, zM0) ::
  (28, .getfield 67, 3, 11, [11, 0, 5047], 0, 0, zM0) ::
  (31, .iconst 5, 1, 31, [], 5, 0, zM0) ::
  (32, .if_icmp .ne 6, 3, 38, [], 0, 0, zM0) ::
  (35, .bipush (-4), 2, 35, [], (-4), 0, zM0) ::
  (37, .ireturn, 1, 37, [], 0, 0, zM0) :: tkX11_hen_38
def tkX11_hen_24 : List mE := (24, .bipush (-2), 2, 24, [], (-2), 0, zM0) ::
  (26, .ireturn, 1, 26, [], 0, 0, zM0) :: tkX11_hen_27
def tkX11_hen_0 : List mE := (0, .iload_n 1, 1, 1, [], 0, 0, zM0) ::
  (1, .i2l, 1, 1, [], 0, 0, zM0) ::
  (2, .lconst 0, 1, 2, [], 0, 0, zM0) ::
  (3, .ldc2_w 103, 3, 3, [6077], 0, 5, zM0) ::
  (6, .invokestatic 70, 3, 0, [5184, 3, 1], 0, 0, kX11_in) ::
  (9, .ifCond .eq 15, 3, 24, [], 0, 0, zM0) ::
  (12, .iload_n 2, 1, 2, [], 0, 0, zM0) ::
  (13, .i2l, 1, 13, [], 0, 0, zM0) ::
  (14, .lconst 0, 1, 14, [], 0, 0, zM0) ::
  (15, .ldc2_w 74, 3, 15, [5183], 0, 9, zM0) ::
  (18, .invokestatic 70, 3, 0, [5184, 3, 1], 0, 0, kX11_in) ::
  (21, .ifCond .ne 6, 3, 27, [], 0, 0, zM0) :: tkX11_hen_24
def tkX11_hen : List mE := tkX11_hen_0
theorem zkX11_hen : zat 0 tkX11_hen = tkX11_hen_0 ∧ zat 24 tkX11_hen = tkX11_hen_24 ∧ zat 27 tkX11_hen = tkX11_hen_27 ∧ zat 38 tkX11_hen = tkX11_hen_38 := ⟨rfl, rfl, rfl, rfl⟩
theorem okX11_hen : zok kX11_hen.2.1 kX11_hen.2.2.1 kX11_hen.2.2.2.1 tkX11_hen = true := by decide +kernel
def tkX11_feed_28 : List mE := (28, .aload_n 0, 1, 0, [], 0, 0, zM0) ::
  (29, .getfield 20, 3, 11, [5, 2, 5041], 0, 0, zM0) ::
  (32, .aload_n 0, 1, 0, [], 0, 0, zM0) ::
  (33, .getfield 118, 3, 11, [6, 0, 5042], 0, 0, zM0) ::
  (36, .iload_n 1, 1, 1, [], 0, 0, zM0) ::
  (37, .iastore, 1, 37, [], 0, 0, zM0) ::
  (38, .aload_n 0, 1, 0, [], 0, 0, zM0) ::
  (39, .dup, 1, 39, [], 0, 0, zM0) ::
  (40, .getfield 118, 3, 11, [6, 0, 5042], 0, 0, zM0) ::
  (43, .iconst 1, 1, 43, [], 1, 0, zM0) ::
  (44, .iadd, 1, 44, [], 0, 0, zM0) ::
  (45, .putfield 118, 3, 11, [6, 0, 5042], 0, 0, zM0) ::
  (48, .aload_n 0, 1, 0, [], 0, 0, zM0) ::
  (49, .getfield 118, 3, 11, [6, 0, 5042], 0, 0, zM0) ::
  (52, .ireturn, 1, 52, [], 0, 0, zM0) :: []
def tkX11_feed_15 : List mE := (15, .aload_n 0, 1, 0, [], 0, 0, zM0) ::
  (16, .getfield 118, 3, 11, [6, 0, 5042], 0, 0, zM0) ::
  (19, .sipush 160, 3, 19, [], 160, 0, zM0) ::
  (22, .if_icmp .ne 6, 3, 28, [], 0, 0, zM0) ::
  (25, .bipush (-4), 2, 25, [], (-4), 0, zM0) ::
  (27, .ireturn, 1, 27, [], 0, 0, zM0) :: tkX11_feed_28
def tkX11_feed_0 : List mE := (0, .iload_n 1, 1, 1, [], 0, 0, zM0) ::
  (1, .i2l, 1, 1, [], 0, 0, zM0) ::
  (2, .lconst 0, 1, 2, [], 0, 0, zM0) ::
  (3, .ldc2_w 116, 3, 3, [6083], 0, 255, zM0) ::
  (6, .invokestatic 70, 3, 0, [5184, 3, 1], 0, 0, kX11_in) ::
  (9, .ifCond .ne 6, 3, 15, [], 0, 0, zM0) ::
  (12, .bipush (-2), 2, 12, [], (-2), 0, zM0) ::
  (14, .ireturn, 1, 14, [], 0, 0, zM0) :: tkX11_feed_15
def tkX11_feed : List mE := tkX11_feed_0
theorem zkX11_feed : zat 0 tkX11_feed = tkX11_feed_0 ∧ zat 15 tkX11_feed = tkX11_feed_15 ∧ zat 28 tkX11_feed = tkX11_feed_28 := ⟨rfl, rfl, rfl⟩
theorem okX11_feed : zok kX11_feed.2.1 kX11_feed.2.2.1 kX11_feed.2.2.2.1 tkX11_feed = true := by decide +kernel
def tkX11_text_92 : List mE := (92, .aload_n 0, 1, 0, [], 0, 0, zM0) ::
  (93, .dup, 1, 93, [], 0, 0, zM0) ::
  (94, .getfield 64, 3, 11, [3, 0, 5039], 0, 0, zM0) ::
  (97, .iconst 1, 1, 97, [], 1, 0, zM0) ::
  (98, .iadd, 1, 98, [], 0, 0, zM0) ::
  (99, .putfield 64, 3, 11, [3, 0, 5039], 0, 0, zM0) ::
  (102, .aload_n 0, 1, 0, [], 0, 0, zM0) ::
  (103, .getfield 64, 3, 11, [3, 0, 5039], 0, 0, zM0) ::
  (106, .iconst 1, 1, 106, [], 1, 0, zM0) ::
  (107, .isub, 1, 107, [], 0, 0, zM0) ::
  (108, .ireturn, 1, 108, [], 0, 0, zM0) :: []
def tkX11_text_49 : List mE := (49, .aload_n 0, 1, 0, [], 0, 0, zM0) ::
  (50, .getfield 17, 3, 11, [2, 2, 5038], 0, 0, zM0) ::
  (53, .aload_n 0, 1, 0, [], 0, 0, zM0) ::
  (54, .getfield 64, 3, 11, [3, 0, 5039], 0, 0, zM0) ::
  (57, .aload_n 0, 1, 0, [], 0, 0, zM0) ::
  (58, .getfield 118, 3, 11, [6, 0, 5042], 0, 0, zM0) ::
  (61, .iastore, 1, 61, [], 0, 0, zM0) ::
  (62, .aload_n 0, 1, 0, [], 0, 0, zM0) ::
  (63, .iconst 0, 1, 63, [], 0, 0, zM0) ::
  (64, .putfield 118, 3, 11, [6, 0, 5042], 0, 0, zM0) ::
  (67, .aload_n 0, 1, 0, [], 0, 0, zM0) ::
  (68, .aload_n 0, 1, 0, [], 0, 0, zM0) ::
  (69, .getfield 64, 3, 11, [3, 0, 5039], 0, 0, zM0) ::
  (72, .iconst 0, 1, 72, [], 0, 0, zM0) ::
  (73, .invokevirtual 232, 3, 11, [5235, 2, 1], 0, 0, kX11_read) ::
  (76, .istore_n 1, 1, 1, [], 0, 0, zM0) ::
  (77, .aload_n 0, 1, 0, [], 0, 0, zM0) ::
  (78, .getfield 153, 3, 11, [25, 3, 5061], 0, 0, zM0) ::
  (81, .ifCond .eq 11, 3, 92, [], 0, 0, zM0) ::
  (84, .bipush (-100), 2, 84, [], (-100), 0, zM0) ::
  (86, .aload_n 0, 1, 0, [], 0, 0, zM0) ::
  (87, .getfield 157, 3, 11, [26, 0, 5062], 0, 0, zM0) ::
  (90, .isub, 1, 90, [], 0, 0, zM0) ::
  (91, .ireturn, 1, 91, [], 0, 0, zM0) :: tkX11_text_92
def tkX11_text_14 : List mE := (14, .iload_n 1, 1, 1, [], 0, 0, zM0) ::
  (15, .aload_n 0, 1, 0, [], 0, 0, zM0) ::
  (16, .getfield 118, 3, 11, [6, 0, 5042], 0, 0, zM0) ::
  (19, .if_icmp .ge 30, 3, 49, [], 0, 0, zM0) ::
  (22, .aload_n 0, 1, 0, [], 0, 0, zM0) ::
  (23, .getfield 13, 3, 11, [1, 2, 5037], 0, 0, zM0) ::
  (26, .sipush 160, 3, 26, [], 160, 0, zM0) ::
  (29, .aload_n 0, 1, 0, [], 0, 0, zM0) ::
  (30, .getfield 64, 3, 11, [3, 0, 5039], 0, 0, zM0) ::
  (33, .imul, 1, 33, [], 0, 0, zM0) ::
  (34, .iload_n 1, 1, 1, [], 0, 0, zM0) ::
  (35, .iadd, 1, 35, [], 0, 0, zM0) ::
  (36, .aload_n 0, 1, 0, [], 0, 0, zM0) ::
  (37, .getfield 20, 3, 11, [5, 2, 5041], 0, 0, zM0) ::
  (40, .iload_n 1, 1, 1, [], 0, 0, zM0) ::
  (41, .iaload, 1, 0, [], 0, 0, zM0) ::
  (42, .iastore, 1, 42, [], 0, 0, zM0) ::
  (43, .iinc 1 1, 3, 1, [], 1, 0, zM0) ::
  (46, .goto (-32), 3, 14, [], 0, 0, zM0) :: tkX11_text_49
def tkX11_text_12 : List mE := (12, .iconst 0, 1, 12, [], 0, 0, zM0) ::
  (13, .istore_n 1, 1, 1, [], 0, 0, zM0) :: tkX11_text_14
def tkX11_text_0 : List mE := (0, .aload_n 0, 1, 0, [], 0, 0, zM0) ::
  (1, .getfield 64, 3, 11, [3, 0, 5039], 0, 0, zM0) ::
  (4, .bipush 6, 2, 4, [], 6, 0, zM0) ::
  (6, .if_icmp .ne 6, 3, 12, [], 0, 0, zM0) ::
  (9, .bipush (-4), 2, 9, [], (-4), 0, zM0) ::
  (11, .ireturn, 1, 11, [], 0, 0, zM0) :: tkX11_text_12
def tkX11_text : List mE := tkX11_text_0
theorem zkX11_text : zat 0 tkX11_text = tkX11_text_0 ∧ zat 12 tkX11_text = tkX11_text_12 ∧ zat 14 tkX11_text = tkX11_text_14 ∧ zat 49 tkX11_text = tkX11_text_49 ∧ zat 92 tkX11_text = tkX11_text_92 := ⟨rfl, rfl, rfl, rfl, rfl⟩
theorem okX11_text : zok kX11_text.2.1 kX11_text.2.2.1 kX11_text.2.2.2.1 tkX11_text = true := by decide +kernel
def tkX11_force_19 : List mE := (19, .aload_n 0, 1, 0, [], 0, 0, zM0) ::
  (20, .getfield 100, 3, 11, [4, 0, 5040], 0, 0, zM0) ::
  (23, .istore_n 2, 1, 2, [], 0, 0, zM0) ::
  (24, .aload_n 0, 1, 0, [], 0, 0, zM0) ::
  (25, .iload_n 1, 1, 1, [], 0, 0, zM0) ::
  (26, .putfield 100, 3, 11, [4, 0, 5040], 0, 0, zM0) ::
  (29, .iload_n 2, 1, 2, [], 0, 0, zM0) ::
  (30, .ireturn, 1, 30, [], 0, 0, zM0) :: []
def tkX11_force_0 : List mE := (0, .iload_n 1, 1, 1, [], 0, 0, zM0) ::
  (1, .i2l, 1, 1, [], 0, 0, zM0) ::
  (2, .lconst 0, 1, 2, [], 0, 0, zM0) ::
  (3, .aload_n 0, 1, 0, [], 0, 0, zM0) ::
  (4, .getfield 64, 3, 11, [3, 0, 5039], 0, 0, zM0) ::
  (7, .iconst 1, 1, 7, [], 1, 0, zM0) ::
  (8, .isub, 1, 8, [], 0, 0, zM0) ::
  (9, .i2l, 1, 9, [], 0, 0, zM0) ::
  (10, .invokestatic 70, 3, 0, [5184, 3, 1], 0, 0, kX11_in) ::
  (13, .ifCond .ne 6, 3, 19, [], 0, 0, zM0) ::
  (16, .bipush (-2), 2, 16, [], (-2), 0, zM0) ::
  (18, .ireturn, 1, 18, [], 0, 0, zM0) :: tkX11_force_19
def tkX11_force : List mE := tkX11_force_0
theorem zkX11_force : zat 0 tkX11_force = tkX11_force_0 ∧ zat 19 tkX11_force = tkX11_force_19 := ⟨rfl, rfl⟩
theorem okX11_force : zok kX11_force.2.1 kX11_force.2.2.1 kX11_force.2.2.2.1 tkX11_force = true := by decide +kernel
def tkX11_asks_86 : List mE := (86, .ireturn, 1, 86, [], 0, 0, zM0) :: []
def tkX11_asks_85 : List mE := (85, .iconst 0, 1, 85, [], 0, 0, zM0) :: tkX11_asks_86
def tkX11_asks_81 : List mE := (81, .iconst 1, 1, 81, [], 1, 0, zM0) ::
  (82, .goto 4, 3, 86, [], 0, 0, zM0) :: tkX11_asks_85
def tkX11_asks_72 : List mE := (72, .aload_n 0, 1, 0, [], 0, 0, zM0) ::
  (73, .iload_n 1, 1, 1, [], 0, 0, zM0) ::
  (74, .iload_n 2, 1, 2, [], 0, 0, zM0) ::
  (75, .invokevirtual 251, 3, 11, [5216, 2, 1], 0, 0, kX11_dropsIt) ::
  (78, .ifCond .eq 7, 3, 85, [], 0, 0, zM0) :: tkX11_asks_81
def tkX11_asks_55 : List mE := (55, .iload_n 3, 1, 3, [], 0, 0, zM0) ::
  (56, .iconst 2, 1, 56, [], 2, 0, zM0) ::
  (57, .if_icmp .ne 15, 3, 72, [], 0, 0, zM0) ::
  (60, .aload_n 0, 1, 0, [], 0, 0, zM0) ::
  (61, .iload_n 1, 1, 1, [], 0, 0, zM0) ::
  (62, .iload_n 2, 1, 2, [], 0, 0, zM0) ::
  (63, .invokevirtual 257, 3, 11, [6100, 2, 1], 0, 0, kX11_yieldsTo) ::
  (66, .ifCond .eq 19, 3, 85, [], 0, 0, zM0) ::
  (69, .goto 12, 3, 81, [], 0, 0, zM0) :: tkX11_asks_72
def tkX11_asks_54 : List mE := (54, .ireturn, 1, 54, [], 0, 0, zM0) :: tkX11_asks_55
def tkX11_asks_48 : List mE := (48, .aload_n 0, 1, 0, [], 0, 0, zM0) ::
  (49, .iload_n 1, 1, 1, [], 0, 0, zM0) ::
  (50, .iload_n 2, 1, 2, [], 0, 0, zM0) ::
  (51, .invokevirtual 254, 3, 11, [6096, 2, 1], 0, 0, kX11_laysOf) :: tkX11_asks_54
def tkX11_asks_30 : List mE := (30, .iload_n 3, 1, 3, [], 0, 0, zM0) ::
  (31, .iconst 2, 1, 31, [], 2, 0, zM0) ::
  (32, .if_icmp .ge 23, 3, 55, [], 0, 0, zM0) ::
  (35, .iload_n 3, 1, 3, [], 0, 0, zM0) ::
  (36, .ifCond .ne 12, 3, 48, [], 0, 0, zM0) ::
  (39, .aload_n 0, 1, 0, [], 0, 0, zM0) ::
  (40, .iload_n 1, 1, 1, [], 0, 0, zM0) ::
  (41, .iload_n 2, 1, 2, [], 0, 0, zM0) ::
  (42, .invokevirtual 238, 3, 11, [5224, 2, 1], 0, 0, kX11_objects) ::
  (45, .goto 9, 3, 54, [], 0, 0, zM0) :: tkX11_asks_48
def tkX11_asks_27 : List mE := (27, .bipush (-2), 2, 27, [], (-2), 0, zM0) ::
  (29, .ireturn, 1, 29, [], 0, 0, zM0) :: tkX11_asks_30
def tkX11_asks_0 : List mE := (0, .aload_n 0, 1, 0, [], 0, 0, zM0) ::
  (1, .iload_n 1, 1, 1, [], 0, 0, zM0) ::
  (2, .invokevirtual 82, 3, 11, [5192, 1, 1], 0, 0, kX11_isHen) ::
  (5, .ifCond .eq 22, 3, 27, [], 0, 0, zM0) ::
  (8, .iload_n 2, 1, 2, [], 0, 0, zM0) ::
  (9, .invokestatic 76, 3, 0, [5180, 1, 1], 0, 0, kX11_isPoint) ::
  (12, .ifCond .eq 15, 3, 27, [], 0, 0, zM0) ::
  (15, .iload_n 3, 1, 3, [], 0, 0, zM0) ::
  (16, .i2l, 1, 16, [], 0, 0, zM0) ::
  (17, .lconst 0, 1, 17, [], 0, 0, zM0) ::
  (18, .ldc2_w 80, 3, 18, [5191], 0, 3, zM0) ::
  (21, .invokestatic 70, 3, 0, [5184, 3, 1], 0, 0, kX11_in) ::
  (24, .ifCond .ne 6, 3, 30, [], 0, 0, zM0) :: tkX11_asks_27
def tkX11_asks : List mE := tkX11_asks_0
theorem zkX11_asks : zat 0 tkX11_asks = tkX11_asks_0 ∧ zat 27 tkX11_asks = tkX11_asks_27 ∧ zat 30 tkX11_asks = tkX11_asks_30 ∧ zat 48 tkX11_asks = tkX11_asks_48 ∧ zat 54 tkX11_asks = tkX11_asks_54 ∧ zat 55 tkX11_asks = tkX11_asks_55 ∧ zat 72 tkX11_asks = tkX11_asks_72 ∧ zat 81 tkX11_asks = tkX11_asks_81 ∧ zat 85 tkX11_asks = tkX11_asks_85 ∧ zat 86 tkX11_asks = tkX11_asks_86 := ⟨rfl, rfl, rfl, rfl, rfl, rfl, rfl, rfl, rfl, rfl⟩
theorem okX11_asks : zok kX11_asks.2.1 kX11_asks.2.2.1 kX11_asks.2.2.2.1 tkX11_asks = true := by decide +kernel
def tkX11_laysOf_143 : List mE := (143, .istore 7, 2, 7, [], 0, 0, zM0) ::
  (145, .iload 7, 2, 7, [], 0, 0, zM0) ::
  (147, .iconst 0, 1, 147, [], 0, 0, zM0) ::
  (148, .bipush 99, 2, 148, [], 99, 0, zM0) ::
  (150, .invokestatic 241, 3, 0, [6066, 3, 1], 0, 0, kX11_within) ::
  (153, .ireturn, 1, 153, [], 0, 0, zM0) :: []
def tkX11_laysOf_141 : List mE := (141, .iload 5, 2, 5, [], 0, 0, zM0) :: tkX11_laysOf_143
def tkX11_laysOf_126 : List mE := (126, .iload_n 3, 1, 3, [], 0, 0, zM0) ::
  (127, .iconst 4, 1, 127, [], 4, 0, zM0) ::
  (128, .if_icmp .ne 13, 3, 141, [], 0, 0, zM0) ::
  (131, .iload 5, 2, 5, [], 0, 0, zM0) ::
  (133, .iconst 0, 1, 133, [], 0, 0, zM0) ::
  (134, .iconst 4, 1, 134, [], 4, 0, zM0) ::
  (135, .invokestatic 241, 3, 0, [6066, 3, 1], 0, 0, kX11_within) ::
  (138, .goto 5, 3, 143, [], 0, 0, zM0) :: tkX11_laysOf_141
def tkX11_laysOf_122 : List mE := (122, .iadd, 1, 122, [], 0, 0, zM0) ::
  (123, .goto 20, 3, 143, [], 0, 0, zM0) :: tkX11_laysOf_126
def tkX11_laysOf_121 : List mE := (121, .iconst 0, 1, 121, [], 0, 0, zM0) :: tkX11_laysOf_122
def tkX11_laysOf_94 : List mE := (94, .iload_n 3, 1, 3, [], 0, 0, zM0) ::
  (95, .iconst 3, 1, 95, [], 3, 0, zM0) ::
  (96, .if_icmp .ne 30, 3, 126, [], 0, 0, zM0) ::
  (99, .iload 6, 2, 6, [], 0, 0, zM0) ::
  (101, .aload_n 0, 1, 0, [], 0, 0, zM0) ::
  (102, .iload_n 1, 1, 1, [], 0, 0, zM0) ::
  (103, .iload_n 2, 1, 2, [], 0, 0, zM0) ::
  (104, .invokevirtual 248, 3, 11, [5208, 2, 1], 0, 0, kX11_holdsIt) ::
  (107, .ifCond .eq 14, 3, 121, [], 0, 0, zM0) ::
  (110, .aload_n 0, 1, 0, [], 0, 0, zM0) ::
  (111, .getfield 29, 3, 11, [10, 2, 5046], 0, 0, zM0) ::
  (114, .iconst 3, 1, 114, [], 3, 0, zM0) ::
  (115, .iload_n 1, 1, 1, [], 0, 0, zM0) ::
  (116, .imul, 1, 116, [], 0, 0, zM0) ::
  (117, .iaload, 1, 0, [], 0, 0, zM0) ::
  (118, .goto 4, 3, 122, [], 0, 0, zM0) :: tkX11_laysOf_121
def tkX11_laysOf_76 : List mE := (76, .istore 5, 2, 5, [], 0, 0, zM0) ::
  (78, .iconst 2, 1, 78, [], 2, 0, zM0) ::
  (79, .iload 5, 2, 5, [], 0, 0, zM0) ::
  (81, .imul, 1, 81, [], 0, 0, zM0) ::
  (82, .istore 6, 2, 6, [], 0, 0, zM0) ::
  (84, .iload_n 3, 1, 3, [], 0, 0, zM0) ::
  (85, .iconst 1, 1, 85, [], 1, 0, zM0) ::
  (86, .if_icmp .ne 8, 3, 94, [], 0, 0, zM0) ::
  (89, .iload 6, 2, 6, [], 0, 0, zM0) ::
  (91, .goto 52, 3, 143, [], 0, 0, zM0) :: tkX11_laysOf_94
def tkX11_laysOf_75 : List mE := (75, .iconst 0, 1, 75, [], 0, 0, zM0) :: tkX11_laysOf_76
def tkX11_laysOf_60 : List mE := (60, .iload 4, 2, 4, [], 0, 0, zM0) ::
  (62, .ifCond .eq 13, 3, 75, [], 0, 0, zM0) ::
  (65, .aload_n 0, 1, 0, [], 0, 0, zM0) ::
  (66, .iconst 0, 1, 66, [], 0, 0, zM0) ::
  (67, .iload_n 1, 1, 1, [], 0, 0, zM0) ::
  (68, .iload_n 2, 1, 2, [], 0, 0, zM0) ::
  (69, .invokevirtual 245, 3, 11, [5220, 3, 1], 0, 0, kX11_says) ::
  (72, .goto 4, 3, 76, [], 0, 0, zM0) :: tkX11_laysOf_75
def tkX11_laysOf_49 : List mE := (49, .aload_n 0, 1, 0, [], 0, 0, zM0) ::
  (50, .getfield 97, 3, 11, [7, 0, 5043], 0, 0, zM0) ::
  (53, .iconst 3, 1, 53, [], 3, 0, zM0) ::
  (54, .irem, 1, 54, [], 0, 0, zM0) ::
  (55, .ifCond .ne 5, 3, 60, [], 0, 0, zM0) ::
  (58, .iconst 0, 1, 58, [], 0, 0, zM0) ::
  (59, .ireturn, 1, 59, [], 0, 0, zM0) :: tkX11_laysOf_60
def tkX11_laysOf_39 : List mE := (39, .iload_n 3, 1, 3, [], 0, 0, zM0) ::
  (40, .iconst 2, 1, 40, [], 2, 0, zM0) ::
  (41, .if_icmp .eq 8, 3, 49, [], 0, 0, zM0) ::
  (44, .iload_n 3, 1, 3, [], 0, 0, zM0) ::
  (45, .iconst 4, 1, 45, [], 4, 0, zM0) ::
  (46, .if_icmp .ne 14, 3, 60, [], 0, 0, zM0) :: tkX11_laysOf_49
def tkX11_laysOf_38 : List mE := (38, .ireturn, 1, 38, [], 0, 0, zM0) :: tkX11_laysOf_39
def tkX11_laysOf_37 : List mE := (37, .iconst 1, 1, 37, [], 1, 0, zM0) :: tkX11_laysOf_38
def tkX11_laysOf_21 : List mE := (21, .istore 4, 2, 4, [], 0, 0, zM0) ::
  (23, .iload_n 3, 1, 3, [], 0, 0, zM0) ::
  (24, .iconst 5, 1, 24, [], 5, 0, zM0) ::
  (25, .if_icmp .ne 14, 3, 39, [], 0, 0, zM0) ::
  (28, .iload 4, 2, 4, [], 0, 0, zM0) ::
  (30, .ifCond .eq 7, 3, 37, [], 0, 0, zM0) ::
  (33, .iconst 0, 1, 33, [], 0, 0, zM0) ::
  (34, .goto 4, 3, 38, [], 0, 0, zM0) :: tkX11_laysOf_37
def tkX11_laysOf_20 : List mE := (20, .iconst 0, 1, 20, [], 0, 0, zM0) :: tkX11_laysOf_21
def tkX11_laysOf_0 : List mE := (0, .aload_n 0, 1, 0, [], 0, 0, zM0) ::
  (1, .getfield 26, 3, 11, [9, 2, 5045], 0, 0, zM0) ::
  (4, .iload_n 1, 1, 1, [], 0, 0, zM0) ::
  (5, .iaload, 1, 0, [], 0, 0, zM0) ::
  (6, .istore_n 3, 1, 3, [], 0, 0, zM0) ::
  (7, .aload_n 0, 1, 0, [], 0, 0, zM0) ::
  (8, .iload_n 1, 1, 1, [], 0, 0, zM0) ::
  (9, .iload_n 2, 1, 2, [], 0, 0, zM0) ::
  (10, .invokevirtual 238, 3, 11, [5224, 2, 1], 0, 0, kX11_objects) ::
  (13, .ifCond .le 7, 3, 20, [], 0, 0, zM0) ::
  (16, .iconst 1, 1, 16, [], 1, 0, zM0) ::
  (17, .goto 4, 3, 21, [], 0, 0, zM0) :: tkX11_laysOf_20
def tkX11_laysOf : List mE := tkX11_laysOf_0
set_option maxRecDepth 100000 in
theorem zkX11_laysOf : zat 0 tkX11_laysOf = tkX11_laysOf_0 ∧ zat 20 tkX11_laysOf = tkX11_laysOf_20 ∧ zat 21 tkX11_laysOf = tkX11_laysOf_21 ∧ zat 37 tkX11_laysOf = tkX11_laysOf_37 ∧ zat 38 tkX11_laysOf = tkX11_laysOf_38 ∧ zat 39 tkX11_laysOf = tkX11_laysOf_39 ∧ zat 49 tkX11_laysOf = tkX11_laysOf_49 ∧ zat 60 tkX11_laysOf = tkX11_laysOf_60 ∧ zat 75 tkX11_laysOf = tkX11_laysOf_75 ∧ zat 76 tkX11_laysOf = tkX11_laysOf_76 ∧ zat 94 tkX11_laysOf = tkX11_laysOf_94 ∧ zat 121 tkX11_laysOf = tkX11_laysOf_121 ∧ zat 122 tkX11_laysOf = tkX11_laysOf_122 ∧ zat 126 tkX11_laysOf = tkX11_laysOf_126 ∧ zat 141 tkX11_laysOf = tkX11_laysOf_141 ∧ zat 143 tkX11_laysOf = tkX11_laysOf_143 := ⟨rfl, rfl, rfl, rfl, rfl, rfl, rfl, rfl, rfl, rfl, rfl, rfl, rfl, rfl, rfl, rfl⟩
theorem okX11_laysOf : zok kX11_laysOf.2.1 kX11_laysOf.2.2.1 kX11_laysOf.2.2.2.1 tkX11_laysOf = true := by decide +kernel
def tkX11_yieldsTo_117 : List mE := (117, .ireturn, 1, 117, [], 0, 0, zM0) :: []
def tkX11_yieldsTo_116 : List mE := (116, .iconst 0, 1, 116, [], 0, 0, zM0) :: tkX11_yieldsTo_117
def tkX11_yieldsTo_97 : List mE := (97, .iload 4, 2, 4, [], 0, 0, zM0) ::
  (99, .ifCond .eq 17, 3, 116, [], 0, 0, zM0) ::
  (102, .aload_n 0, 1, 0, [], 0, 0, zM0) ::
  (103, .iload_n 1, 1, 1, [], 0, 0, zM0) ::
  (104, .iload_n 2, 1, 2, [], 0, 0, zM0) ::
  (105, .invokevirtual 238, 3, 11, [5224, 2, 1], 0, 0, kX11_objects) ::
  (108, .iconst 2, 1, 108, [], 2, 0, zM0) ::
  (109, .if_icmp .ge 7, 3, 116, [], 0, 0, zM0) ::
  (112, .iconst 1, 1, 112, [], 1, 0, zM0) ::
  (113, .goto 4, 3, 117, [], 0, 0, zM0) :: tkX11_yieldsTo_116
def tkX11_yieldsTo_86 : List mE := (86, .istore 4, 2, 4, [], 0, 0, zM0) ::
  (88, .iload_n 3, 1, 3, [], 0, 0, zM0) ::
  (89, .ifCond .ne 8, 3, 97, [], 0, 0, zM0) ::
  (92, .iload 4, 2, 4, [], 0, 0, zM0) ::
  (94, .goto 23, 3, 117, [], 0, 0, zM0) :: tkX11_yieldsTo_97
def tkX11_yieldsTo_85 : List mE := (85, .iconst 0, 1, 85, [], 0, 0, zM0) :: tkX11_yieldsTo_86
def tkX11_yieldsTo_71 : List mE := (71, .aload_n 0, 1, 0, [], 0, 0, zM0) ::
  (72, .iconst 1, 1, 72, [], 1, 0, zM0) ::
  (73, .iload_n 1, 1, 1, [], 0, 0, zM0) ::
  (74, .iload_n 2, 1, 2, [], 0, 0, zM0) ::
  (75, .invokevirtual 245, 3, 11, [5220, 3, 1], 0, 0, kX11_says) ::
  (78, .ifCond .eq 7, 3, 85, [], 0, 0, zM0) ::
  (81, .iconst 1, 1, 81, [], 1, 0, zM0) ::
  (82, .goto 4, 3, 86, [], 0, 0, zM0) :: tkX11_yieldsTo_85
def tkX11_yieldsTo_70 : List mE := (70, .ireturn, 1, 70, [], 0, 0, zM0) :: tkX11_yieldsTo_71
def tkX11_yieldsTo_69 : List mE := (69, .iconst 0, 1, 69, [], 0, 0, zM0) :: tkX11_yieldsTo_70
def tkX11_yieldsTo_60 : List mE := (60, .iload_n 3, 1, 3, [], 0, 0, zM0) ::
  (61, .iconst 4, 1, 61, [], 4, 0, zM0) ::
  (62, .if_icmp .ne 7, 3, 69, [], 0, 0, zM0) ::
  (65, .iconst 1, 1, 65, [], 1, 0, zM0) ::
  (66, .goto 4, 3, 70, [], 0, 0, zM0) :: tkX11_yieldsTo_69
def tkX11_yieldsTo_42 : List mE := (42, .iload_n 3, 1, 3, [], 0, 0, zM0) ::
  (43, .iconst 5, 1, 43, [], 5, 0, zM0) ::
  (44, .if_icmp .eq 16, 3, 60, [], 0, 0, zM0) ::
  (47, .iload_n 3, 1, 3, [], 0, 0, zM0) ::
  (48, .iconst 4, 1, 48, [], 4, 0, zM0) ::
  (49, .if_icmp .ne 22, 3, 71, [], 0, 0, zM0) ::
  (52, .aload_n 0, 1, 0, [], 0, 0, zM0) ::
  (53, .iload_n 1, 1, 1, [], 0, 0, zM0) ::
  (54, .invokevirtual 105, 3, 11, [5212, 1, 1], 0, 0, kX11_holdsOf) ::
  (57, .ifCond .ne 14, 3, 71, [], 0, 0, zM0) :: tkX11_yieldsTo_60
def tkX11_yieldsTo_41 : List mE := (41, .ireturn, 1, 41, [], 0, 0, zM0) :: tkX11_yieldsTo_42
def tkX11_yieldsTo_40 : List mE := (40, .iconst 0, 1, 40, [], 0, 0, zM0) :: tkX11_yieldsTo_41
def tkX11_yieldsTo_36 : List mE := (36, .iconst 1, 1, 36, [], 1, 0, zM0) ::
  (37, .goto 4, 3, 41, [], 0, 0, zM0) :: tkX11_yieldsTo_40
def tkX11_yieldsTo_17 : List mE := (17, .iload_n 3, 1, 3, [], 0, 0, zM0) ::
  (18, .iconst 1, 1, 18, [], 1, 0, zM0) ::
  (19, .if_icmp .eq 17, 3, 36, [], 0, 0, zM0) ::
  (22, .aload_n 0, 1, 0, [], 0, 0, zM0) ::
  (23, .getfield 29, 3, 11, [10, 2, 5046], 0, 0, zM0) ::
  (26, .iconst 3, 1, 26, [], 3, 0, zM0) ::
  (27, .iload_n 1, 1, 1, [], 0, 0, zM0) ::
  (28, .imul, 1, 28, [], 0, 0, zM0) ::
  (29, .iaload, 1, 0, [], 0, 0, zM0) ::
  (30, .iconst 2, 1, 30, [], 2, 0, zM0) ::
  (31, .irem, 1, 31, [], 0, 0, zM0) ::
  (32, .iconst 1, 1, 32, [], 1, 0, zM0) ::
  (33, .if_icmp .ne 7, 3, 40, [], 0, 0, zM0) :: tkX11_yieldsTo_36
def tkX11_yieldsTo_0 : List mE := (0, .aload_n 0, 1, 0, [], 0, 0, zM0) ::
  (1, .getfield 26, 3, 11, [9, 2, 5045], 0, 0, zM0) ::
  (4, .iload_n 1, 1, 1, [], 0, 0, zM0) ::
  (5, .iaload, 1, 0, [], 0, 0, zM0) ::
  (6, .istore_n 3, 1, 3, [], 0, 0, zM0) ::
  (7, .iload_n 3, 1, 3, [], 0, 0, zM0) ::
  (8, .iconst 1, 1, 8, [], 1, 0, zM0) ::
  (9, .if_icmp .eq 8, 3, 17, [], 0, 0, zM0) ::
  (12, .iload_n 3, 1, 3, [], 0, 0, zM0) ::
  (13, .iconst 3, 1, 13, [], 3, 0, zM0) ::
  (14, .if_icmp .ne 28, 3, 42, [], 0, 0, zM0) :: tkX11_yieldsTo_17
def tkX11_yieldsTo : List mE := tkX11_yieldsTo_0
set_option maxRecDepth 100000 in
theorem zkX11_yieldsTo : zat 0 tkX11_yieldsTo = tkX11_yieldsTo_0 ∧ zat 17 tkX11_yieldsTo = tkX11_yieldsTo_17 ∧ zat 36 tkX11_yieldsTo = tkX11_yieldsTo_36 ∧ zat 40 tkX11_yieldsTo = tkX11_yieldsTo_40 ∧ zat 41 tkX11_yieldsTo = tkX11_yieldsTo_41 ∧ zat 42 tkX11_yieldsTo = tkX11_yieldsTo_42 ∧ zat 60 tkX11_yieldsTo = tkX11_yieldsTo_60 ∧ zat 69 tkX11_yieldsTo = tkX11_yieldsTo_69 ∧ zat 70 tkX11_yieldsTo = tkX11_yieldsTo_70 ∧ zat 71 tkX11_yieldsTo = tkX11_yieldsTo_71 ∧ zat 85 tkX11_yieldsTo = tkX11_yieldsTo_85 ∧ zat 86 tkX11_yieldsTo = tkX11_yieldsTo_86 ∧ zat 97 tkX11_yieldsTo = tkX11_yieldsTo_97 ∧ zat 116 tkX11_yieldsTo = tkX11_yieldsTo_116 ∧ zat 117 tkX11_yieldsTo = tkX11_yieldsTo_117 := ⟨rfl, rfl, rfl, rfl, rfl, rfl, rfl, rfl, rfl, rfl, rfl, rfl, rfl, rfl, rfl⟩
theorem okX11_yieldsTo : zok kX11_yieldsTo.2.1 kX11_yieldsTo.2.2.1 kX11_yieldsTo.2.2.2.1 tkX11_yieldsTo = true := by decide +kernel
def tkX11_argue_26 : List mE := (26, .ireturn, 1, 26, [], 0, 0, zM0) :: []
def tkX11_argue_24 : List mE := (24, .bipush (-2), 2, 24, [], (-2), 0, zM0) :: tkX11_argue_26
def tkX11_argue_0 : List mE := (0, .aload_n 0, 1, 0, [], 0, 0, zM0) ::
  (1, .iload_n 1, 1, 1, [], 0, 0, zM0) ::
  (2, .invokevirtual 82, 3, 11, [5192, 1, 1], 0, 0, kX11_isHen) ::
  (5, .ifCond .eq 19, 3, 24, [], 0, 0, zM0) ::
  (8, .iload_n 2, 1, 2, [], 0, 0, zM0) ::
  (9, .invokestatic 76, 3, 0, [5180, 1, 1], 0, 0, kX11_isPoint) ::
  (12, .ifCond .eq 12, 3, 24, [], 0, 0, zM0) ::
  (15, .aload_n 0, 1, 0, [], 0, 0, zM0) ::
  (16, .iload_n 1, 1, 1, [], 0, 0, zM0) ::
  (17, .iload_n 2, 1, 2, [], 0, 0, zM0) ::
  (18, .invokevirtual 263, 3, 11, [6108, 2, 1], 0, 0, kX11_puts) ::
  (21, .goto 5, 3, 26, [], 0, 0, zM0) :: tkX11_argue_24
def tkX11_argue : List mE := tkX11_argue_0
theorem zkX11_argue : zat 0 tkX11_argue = tkX11_argue_0 ∧ zat 24 tkX11_argue = tkX11_argue_24 ∧ zat 26 tkX11_argue = tkX11_argue_26 := ⟨rfl, rfl, rfl⟩
theorem okX11_argue : zok kX11_argue.2.1 kX11_argue.2.2.1 kX11_argue.2.2.2.1 tkX11_argue = true := by decide +kernel
def tkX11_puts_81 : List mE := (81, .iload_n 3, 1, 3, [], 0, 0, zM0) ::
  (82, .ireturn, 1, 82, [], 0, 0, zM0) :: []
def tkX11_puts_0 : List mE := (0, .aload_n 0, 1, 0, [], 0, 0, zM0) ::
  (1, .iload_n 1, 1, 1, [], 0, 0, zM0) ::
  (2, .iload_n 2, 1, 2, [], 0, 0, zM0) ::
  (3, .invokevirtual 254, 3, 11, [6096, 2, 1], 0, 0, kX11_laysOf) ::
  (6, .istore_n 3, 1, 3, [], 0, 0, zM0) ::
  (7, .aload_n 0, 1, 0, [], 0, 0, zM0) ::
  (8, .aload_n 0, 1, 0, [], 0, 0, zM0) ::
  (9, .iload_n 1, 1, 1, [], 0, 0, zM0) ::
  (10, .iload_n 2, 1, 2, [], 0, 0, zM0) ::
  (11, .invokevirtual 257, 3, 11, [6100, 2, 1], 0, 0, kX11_yieldsTo) ::
  (14, .putfield 260, 3, 11, [27, 3, 5063], 0, 0, zM0) ::
  (17, .aload_n 0, 1, 0, [], 0, 0, zM0) ::
  (18, .getfield 29, 3, 11, [10, 2, 5046], 0, 0, zM0) ::
  (21, .iconst 3, 1, 21, [], 3, 0, zM0) ::
  (22, .iload_n 1, 1, 1, [], 0, 0, zM0) ::
  (23, .imul, 1, 23, [], 0, 0, zM0) ::
  (24, .iconst 2, 1, 24, [], 2, 0, zM0) ::
  (25, .iadd, 1, 25, [], 0, 0, zM0) ::
  (26, .aload_n 0, 1, 0, [], 0, 0, zM0) ::
  (27, .getfield 29, 3, 11, [10, 2, 5046], 0, 0, zM0) ::
  (30, .iconst 3, 1, 30, [], 3, 0, zM0) ::
  (31, .iload_n 1, 1, 1, [], 0, 0, zM0) ::
  (32, .imul, 1, 32, [], 0, 0, zM0) ::
  (33, .iconst 2, 1, 33, [], 2, 0, zM0) ::
  (34, .iadd, 1, 34, [], 0, 0, zM0) ::
  (35, .iaload, 1, 0, [], 0, 0, zM0) ::
  (36, .iload_n 3, 1, 3, [], 0, 0, zM0) ::
  (37, .iadd, 1, 37, [], 0, 0, zM0) ::
  (38, .iconst 0, 1, 38, [], 0, 0, zM0) ::
  (39, .sipush 999, 3, 39, [], 999, 0, zM0) ::
  (42, .invokestatic 241, 3, 0, [6066, 3, 1], 0, 0, kX11_within) ::
  (45, .iastore, 1, 45, [], 0, 0, zM0) ::
  (46, .aload_n 0, 1, 0, [], 0, 0, zM0) ::
  (47, .getfield 260, 3, 11, [27, 3, 5063], 0, 0, zM0) ::
  (50, .ifCond .eq 31, 3, 81, [], 0, 0, zM0) ::
  (53, .aload_n 0, 1, 0, [], 0, 0, zM0) ::
  (54, .getfield 29, 3, 11, [10, 2, 5046], 0, 0, zM0) ::
  (57, .iconst 3, 1, 57, [], 3, 0, zM0) ::
  (58, .iload_n 1, 1, 1, [], 0, 0, zM0) ::
  (59, .imul, 1, 59, [], 0, 0, zM0) ::
  (60, .iconst 1, 1, 60, [], 1, 0, zM0) ::
  (61, .iadd, 1, 61, [], 0, 0, zM0) ::
  (62, .aload_n 0, 1, 0, [], 0, 0, zM0) ::
  (63, .iload_n 1, 1, 1, [], 0, 0, zM0) ::
  (64, .invokevirtual 105, 3, 11, [5212, 1, 1], 0, 0, kX11_holdsOf) ::
  (67, .iconst 1, 1, 67, [], 1, 0, zM0) ::
  (68, .iload_n 2, 1, 2, [], 0, 0, zM0) ::
  (69, .ishl, 1, 69, [], 0, 0, zM0) ::
  (70, .ior, 1, 70, [], 0, 0, zM0) ::
  (71, .aload_n 0, 1, 0, [], 0, 0, zM0) ::
  (72, .getfield 23, 3, 11, [8, 2, 5044], 0, 0, zM0) ::
  (75, .iload_n 2, 1, 2, [], 0, 0, zM0) ::
  (76, .iaload, 1, 0, [], 0, 0, zM0) ::
  (77, .iconst (-1), 1, 77, [], (-1), 0, zM0) ::
  (78, .ixor, 1, 78, [], 0, 0, zM0) ::
  (79, .iand, 1, 79, [], 0, 0, zM0) ::
  (80, .iastore, 1, 80, [], 0, 0, zM0) :: tkX11_puts_81
def tkX11_puts : List mE := tkX11_puts_0
theorem zkX11_puts : zat 0 tkX11_puts = tkX11_puts_0 ∧ zat 81 tkX11_puts = tkX11_puts_81 := ⟨rfl, rfl⟩
theorem okX11_puts : zok kX11_puts.2.1 kX11_puts.2.2.1 kX11_puts.2.2.2.1 tkX11_puts = true := by decide +kernel
def tkX11_night_19 : List mE := (19, .ireturn, 1, 19, [], 0, 0, zM0) :: []
def tkX11_night_15 : List mE := (15, .aload_n 0, 1, 0, [], 0, 0, zM0) ::
  (16, .invokevirtual 266, 3, 11, [6116, 0, 1], 0, 0, kX11_passes) :: tkX11_night_19
def tkX11_night_0 : List mE := (0, .aload_n 0, 1, 0, [], 0, 0, zM0) ::
  (1, .getfield 97, 3, 11, [7, 0, 5043], 0, 0, zM0) ::
  (4, .sipush 999, 3, 4, [], 999, 0, zM0) ::
  (7, .if_icmp .ne 8, 3, 15, [], 0, 0, zM0) ::
  (10, .bipush (-3), 2, 10, [], (-3), 0, zM0) ::
  (12, .goto 7, 3, 19, [], 0, 0, zM0) :: tkX11_night_15
def tkX11_night : List mE := tkX11_night_0
theorem zkX11_night : zat 0 tkX11_night = tkX11_night_0 ∧ zat 15 tkX11_night = tkX11_night_15 ∧ zat 19 tkX11_night = tkX11_night_19 := ⟨rfl, rfl, rfl⟩
theorem okX11_night : zok kX11_night.2.1 kX11_night.2.2.1 kX11_night.2.2.2.1 tkX11_night = true := by decide +kernel
def tkX11_passes_77 : List mE := (77, .aload_n 0, 1, 0, [], 0, 0, zM0) ::
  (78, .dup, 1, 78, [], 0, 0, zM0) ::
  (79, .getfield 97, 3, 11, [7, 0, 5043], 0, 0, zM0) ::
  (82, .iconst 1, 1, 82, [], 1, 0, zM0) ::
  (83, .iadd, 1, 83, [], 0, 0, zM0) ::
  (84, .putfield 97, 3, 11, [7, 0, 5043], 0, 0, zM0) ::
  (87, .iload_n 1, 1, 1, [], 0, 0, zM0) ::
  (88, .ireturn, 1, 88, [], 0, 0, zM0) :: []
def tkX11_passes_31 : List mE := (31, .iload_n 2, 1, 2, [], 0, 0, zM0) ::
  (32, .aload_n 0, 1, 0, [], 0, 0, zM0) ::
  (33, .getfield 67, 3, 11, [11, 0, 5047], 0, 0, zM0) ::
  (36, .if_icmp .ge 41, 3, 77, [], 0, 0, zM0) ::
  (39, .aload_n 0, 1, 0, [], 0, 0, zM0) ::
  (40, .getfield 29, 3, 11, [10, 2, 5046], 0, 0, zM0) ::
  (43, .iconst 3, 1, 43, [], 3, 0, zM0) ::
  (44, .iload_n 2, 1, 2, [], 0, 0, zM0) ::
  (45, .imul, 1, 45, [], 0, 0, zM0) ::
  (46, .iconst 1, 1, 46, [], 1, 0, zM0) ::
  (47, .iadd, 1, 47, [], 0, 0, zM0) ::
  (48, .dup2, 1, 48, [], 0, 0, zM0) ::
  (49, .iaload, 1, 0, [], 0, 0, zM0) ::
  (50, .aload_n 0, 1, 0, [], 0, 0, zM0) ::
  (51, .getfield 32, 3, 11, [28, 2, 5064], 0, 0, zM0) ::
  (54, .iload_n 2, 1, 2, [], 0, 0, zM0) ::
  (55, .iaload, 1, 0, [], 0, 0, zM0) ::
  (56, .iconst (-1), 1, 56, [], (-1), 0, zM0) ::
  (57, .ixor, 1, 57, [], 0, 0, zM0) ::
  (58, .iand, 1, 58, [], 0, 0, zM0) ::
  (59, .iastore, 1, 59, [], 0, 0, zM0) ::
  (60, .iload_n 1, 1, 1, [], 0, 0, zM0) ::
  (61, .aload_n 0, 1, 0, [], 0, 0, zM0) ::
  (62, .iload_n 2, 1, 2, [], 0, 0, zM0) ::
  (63, .invokevirtual 105, 3, 11, [5212, 1, 1], 0, 0, kX11_holdsOf) ::
  (66, .invokestatic 235, 3, 0, [5232, 1, 1], 0, 0, kX11_bitsOf) ::
  (69, .iadd, 1, 69, [], 0, 0, zM0) ::
  (70, .istore_n 1, 1, 1, [], 0, 0, zM0) ::
  (71, .iinc 2 1, 3, 2, [], 1, 0, zM0) ::
  (74, .goto (-43), 3, 31, [], 0, 0, zM0) :: tkX11_passes_77
def tkX11_passes_27 : List mE := (27, .iconst 0, 1, 27, [], 0, 0, zM0) ::
  (28, .istore_n 1, 1, 1, [], 0, 0, zM0) ::
  (29, .iconst 0, 1, 29, [], 0, 0, zM0) ::
  (30, .istore_n 2, 1, 2, [], 0, 0, zM0) :: tkX11_passes_31
def tkX11_passes_2 : List mE := (2, .iload_n 1, 1, 1, [], 0, 0, zM0) ::
  (3, .aload_n 0, 1, 0, [], 0, 0, zM0) ::
  (4, .getfield 67, 3, 11, [11, 0, 5047], 0, 0, zM0) ::
  (7, .if_icmp .ge 20, 3, 27, [], 0, 0, zM0) ::
  (10, .aload_n 0, 1, 0, [], 0, 0, zM0) ::
  (11, .getfield 32, 3, 11, [28, 2, 5064], 0, 0, zM0) ::
  (14, .iload_n 1, 1, 1, [], 0, 0, zM0) ::
  (15, .aload_n 0, 1, 0, [], 0, 0, zM0) ::
  (16, .iload_n 1, 1, 1, [], 0, 0, zM0) ::
  (17, .invokevirtual 110, 3, 11, [5204, 1, 1], 0, 0, kX11_dropSet) ::
  (20, .iastore, 1, 20, [], 0, 0, zM0) ::
  (21, .iinc 1 1, 3, 1, [], 1, 0, zM0) ::
  (24, .goto (-22), 3, 2, [], 0, 0, zM0) :: tkX11_passes_27
def tkX11_passes_0 : List mE := (0, .iconst 0, 1, 0, [], 0, 0, zM0) ::
  (1, .istore_n 1, 1, 1, [], 0, 0, zM0) :: tkX11_passes_2
def tkX11_passes : List mE := tkX11_passes_0
theorem zkX11_passes : zat 0 tkX11_passes = tkX11_passes_0 ∧ zat 2 tkX11_passes = tkX11_passes_2 ∧ zat 27 tkX11_passes = tkX11_passes_27 ∧ zat 31 tkX11_passes = tkX11_passes_31 ∧ zat 77 tkX11_passes = tkX11_passes_77 := ⟨rfl, rfl, rfl, rfl, rfl⟩
theorem okX11_passes : zok kX11_passes.2.1 kX11_passes.2.2.1 kX11_passes.2.2.2.1 tkX11_passes = true := by decide +kernel
def tkX11_morning_95 : List mE := (95, .istore 6, 2, 6, [], 0, 0, zM0) ::
  (97, .aload_n 0, 1, 0, [], 0, 0, zM0) ::
  (98, .invokevirtual 290, 3, 11, [6139, 0, 0], 0, 0, kX11_laysBack) ::
  (101, .iload 6, 2, 6, [], 0, 0, zM0) ::
  (103, .ireturn, 1, 103, [], 0, 0, zM0) :: []
def tkX11_morning_91 : List mE := (91, .aload_n 0, 1, 0, [], 0, 0, zM0) ::
  (92, .getfield 275, 3, 11, [32, 0, 5068], 0, 0, zM0) :: tkX11_morning_95
def tkX11_morning_79 : List mE := (79, .iload_n 3, 1, 3, [], 0, 0, zM0) ::
  (80, .iconst 2, 1, 80, [], 2, 0, zM0) ::
  (81, .if_icmp .ne 10, 3, 91, [], 0, 0, zM0) ::
  (84, .aload_n 0, 1, 0, [], 0, 0, zM0) ::
  (85, .getfield 272, 3, 11, [31, 0, 5067], 0, 0, zM0) ::
  (88, .goto 7, 3, 95, [], 0, 0, zM0) :: tkX11_morning_91
def tkX11_morning_66 : List mE := (66, .iload_n 3, 1, 3, [], 0, 0, zM0) ::
  (67, .iconst 1, 1, 67, [], 1, 0, zM0) ::
  (68, .if_icmp .ne 11, 3, 79, [], 0, 0, zM0) ::
  (71, .aload_n 0, 1, 0, [], 0, 0, zM0) ::
  (72, .iload_n 2, 1, 2, [], 0, 0, zM0) ::
  (73, .invokevirtual 105, 3, 11, [5212, 1, 1], 0, 0, kX11_holdsOf) ::
  (76, .goto 19, 3, 95, [], 0, 0, zM0) :: tkX11_morning_79
def tkX11_morning_45 : List mE := (45, .aload_n 0, 1, 0, [], 0, 0, zM0) ::
  (46, .invokevirtual 284, 3, 11, [6131, 0, 0], 0, 0, kX11_laysAside) ::
  (49, .aload_n 0, 1, 0, [], 0, 0, zM0) ::
  (50, .iload_n 1, 1, 1, [], 0, 0, zM0) ::
  (51, .iload_n 2, 1, 2, [], 0, 0, zM0) ::
  (52, .invokevirtual 287, 3, 11, [6135, 2, 1], 0, 0, kX11_mornings) ::
  (55, .istore 5, 2, 5, [], 0, 0, zM0) ::
  (57, .iload_n 3, 1, 3, [], 0, 0, zM0) ::
  (58, .ifCond .ne 8, 3, 66, [], 0, 0, zM0) ::
  (61, .iload 5, 2, 5, [], 0, 0, zM0) ::
  (63, .goto 32, 3, 95, [], 0, 0, zM0) :: tkX11_morning_66
def tkX11_morning_30 : List mE := (30, .aload_n 0, 1, 0, [], 0, 0, zM0) ::
  (31, .iload_n 1, 1, 1, [], 0, 0, zM0) ::
  (32, .invokevirtual 281, 3, 11, [6127, 1, 1], 0, 0, kX11_morningBad) ::
  (35, .istore 4, 2, 4, [], 0, 0, zM0) ::
  (37, .iload 4, 2, 4, [], 0, 0, zM0) ::
  (39, .ifCond .eq 6, 3, 45, [], 0, 0, zM0) ::
  (42, .iload 4, 2, 4, [], 0, 0, zM0) ::
  (44, .ireturn, 1, 44, [], 0, 0, zM0) :: tkX11_morning_45
def tkX11_morning_27 : List mE := (27, .bipush (-2), 2, 27, [], (-2), 0, zM0) ::
  (29, .ireturn, 1, 29, [], 0, 0, zM0) :: tkX11_morning_30
def tkX11_morning_0 : List mE := (0, .iload_n 1, 1, 1, [], 0, 0, zM0) ::
  (1, .invokestatic 278, 3, 0, [6124, 1, 1], 0, 0, kX11_isSheet) ::
  (4, .ifCond .eq 23, 3, 27, [], 0, 0, zM0) ::
  (7, .aload_n 0, 1, 0, [], 0, 0, zM0) ::
  (8, .iload_n 2, 1, 2, [], 0, 0, zM0) ::
  (9, .invokevirtual 82, 3, 11, [5192, 1, 1], 0, 0, kX11_isHen) ::
  (12, .ifCond .eq 15, 3, 27, [], 0, 0, zM0) ::
  (15, .iload_n 3, 1, 3, [], 0, 0, zM0) ::
  (16, .i2l, 1, 16, [], 0, 0, zM0) ::
  (17, .lconst 0, 1, 17, [], 0, 0, zM0) ::
  (18, .ldc2_w 80, 3, 18, [5191], 0, 3, zM0) ::
  (21, .invokestatic 70, 3, 0, [5184, 3, 1], 0, 0, kX11_in) ::
  (24, .ifCond .ne 6, 3, 30, [], 0, 0, zM0) :: tkX11_morning_27
def tkX11_morning : List mE := tkX11_morning_0
theorem zkX11_morning : zat 0 tkX11_morning = tkX11_morning_0 ∧ zat 27 tkX11_morning = tkX11_morning_27 ∧ zat 30 tkX11_morning = tkX11_morning_30 ∧ zat 45 tkX11_morning = tkX11_morning_45 ∧ zat 66 tkX11_morning = tkX11_morning_66 ∧ zat 79 tkX11_morning = tkX11_morning_79 ∧ zat 91 tkX11_morning = tkX11_morning_91 ∧ zat 95 tkX11_morning = tkX11_morning_95 := ⟨rfl, rfl, rfl, rfl, rfl, rfl, rfl, rfl⟩
theorem okX11_morning : zok kX11_morning.2.1 kX11_morning.2.2.1 kX11_morning.2.2.2.1 tkX11_morning = true := by decide +kernel
def tkX11_isSheet_0 : List mE := (0, .iload_n 0, 1, 0, [], 0, 0, zM0) ::
  (1, .i2l, 1, 1, [], 0, 0, zM0) ::
  (2, .lconst 0, 1, 2, [], 0, 0, zM0) ::
  (3, .ldc2_w 80, 3, 3, [5191], 0, 3, zM0) ::
  (6, .invokestatic 70, 3, 0, [5184, 3, 1], 0, 0, kX11_in) ::
  (9, .ireturn, 1, 9, [], 0, 0, zM0) :: []
def tkX11_isSheet : List mE := tkX11_isSheet_0
theorem zkX11_isSheet : zat 0 tkX11_isSheet = tkX11_isSheet_0 := rfl
theorem okX11_isSheet : zok kX11_isSheet.2.1 kX11_isSheet.2.2.1 kX11_isSheet.2.2.2.1 tkX11_isSheet = true := by decide +kernel
def tkX11_morningBad_50 : List mE := (50, .iconst 0, 1, 50, [], 0, 0, zM0) ::
  (51, .ireturn, 1, 51, [], 0, 0, zM0) :: []
def tkX11_morningBad_44 : List mE := (44, .iinc 2 1, 3, 2, [], 1, 0, zM0) ::
  (47, .goto (-33), 3, 14, [], 0, 0, zM0) :: tkX11_morningBad_50
def tkX11_morningBad_14 : List mE := (14, .iload_n 2, 1, 2, [], 0, 0, zM0) ::
  (15, .aload_n 0, 1, 0, [], 0, 0, zM0) ::
  (16, .getfield 54, 3, 11, [44, 2, 5080], 0, 0, zM0) ::
  (19, .iload_n 1, 1, 1, [], 0, 0, zM0) ::
  (20, .iaload, 1, 0, [], 0, 0, zM0) ::
  (21, .if_icmp .ge 29, 3, 50, [], 0, 0, zM0) ::
  (24, .aload_n 0, 1, 0, [], 0, 0, zM0) ::
  (25, .getfield 57, 3, 11, [45, 2, 5081], 0, 0, zM0) ::
  (28, .bipush 40, 2, 28, [], 40, 0, zM0) ::
  (30, .iload_n 1, 1, 1, [], 0, 0, zM0) ::
  (31, .imul, 1, 31, [], 0, 0, zM0) ::
  (32, .iload_n 2, 1, 2, [], 0, 0, zM0) ::
  (33, .iadd, 1, 33, [], 0, 0, zM0) ::
  (34, .iaload, 1, 0, [], 0, 0, zM0) ::
  (35, .invokestatic 76, 3, 0, [5180, 1, 1], 0, 0, kX11_isPoint) ::
  (38, .ifCond .ne 6, 3, 44, [], 0, 0, zM0) ::
  (41, .bipush (-2), 2, 41, [], (-2), 0, zM0) ::
  (43, .ireturn, 1, 43, [], 0, 0, zM0) :: tkX11_morningBad_44
def tkX11_morningBad_12 : List mE := (12, .iconst 0, 1, 12, [], 0, 0, zM0) ::
  (13, .istore_n 2, 1, 2, [], 0, 0, zM0) :: tkX11_morningBad_14
def tkX11_morningBad_0 : List mE := (0, .aload_n 0, 1, 0, [], 0, 0, zM0) ::
  (1, .getfield 47, 3, 11, [42, 2, 5078], 0, 0, zM0) ::
  (4, .iload_n 1, 1, 1, [], 0, 0, zM0) ::
  (5, .baload, 1, 5, [], 0, 0, zM0) ::
  (6, .ifCond .ne 6, 3, 12, [], 0, 0, zM0) ::
  (9, .bipush (-11), 2, 9, [], (-11), 0, zM0) ::
  (11, .ireturn, 1, 11, [], 0, 0, zM0) :: tkX11_morningBad_12
def tkX11_morningBad : List mE := tkX11_morningBad_0
theorem zkX11_morningBad : zat 0 tkX11_morningBad = tkX11_morningBad_0 ∧ zat 12 tkX11_morningBad = tkX11_morningBad_12 ∧ zat 14 tkX11_morningBad = tkX11_morningBad_14 ∧ zat 44 tkX11_morningBad = tkX11_morningBad_44 ∧ zat 50 tkX11_morningBad = tkX11_morningBad_50 := ⟨rfl, rfl, rfl, rfl, rfl⟩
theorem okX11_morningBad : zok kX11_morningBad.2.1 kX11_morningBad.2.2.1 kX11_morningBad.2.2.2.1 tkX11_morningBad = true := by decide +kernel
def tkX11_laysAside_26 : List mE := (26, .aload_n 0, 1, 0, [], 0, 0, zM0) ::
  (27, .aload_n 0, 1, 0, [], 0, 0, zM0) ::
  (28, .getfield 97, 3, 11, [7, 0, 5043], 0, 0, zM0) ::
  (31, .putfield 269, 3, 11, [30, 0, 5066], 0, 0, zM0) ::
  (34, .return_, 1, 34, [], 0, 0, zM0) :: []
def tkX11_laysAside_2 : List mE := (2, .iload_n 1, 1, 1, [], 0, 0, zM0) ::
  (3, .bipush 15, 2, 3, [], 15, 0, zM0) ::
  (5, .if_icmp .ge 21, 3, 26, [], 0, 0, zM0) ::
  (8, .aload_n 0, 1, 0, [], 0, 0, zM0) ::
  (9, .getfield 35, 3, 11, [29, 2, 5065], 0, 0, zM0) ::
  (12, .iload_n 1, 1, 1, [], 0, 0, zM0) ::
  (13, .aload_n 0, 1, 0, [], 0, 0, zM0) ::
  (14, .getfield 29, 3, 11, [10, 2, 5046], 0, 0, zM0) ::
  (17, .iload_n 1, 1, 1, [], 0, 0, zM0) ::
  (18, .iaload, 1, 0, [], 0, 0, zM0) ::
  (19, .iastore, 1, 19, [], 0, 0, zM0) ::
  (20, .iinc 1 1, 3, 1, [], 1, 0, zM0) ::
  (23, .goto (-21), 3, 2, [], 0, 0, zM0) :: tkX11_laysAside_26
def tkX11_laysAside_0 : List mE := (0, .iconst 0, 1, 0, [], 0, 0, zM0) ::
  (1, .istore_n 1, 1, 1, [], 0, 0, zM0) :: tkX11_laysAside_2
def tkX11_laysAside : List mE := tkX11_laysAside_0
theorem zkX11_laysAside : zat 0 tkX11_laysAside = tkX11_laysAside_0 ∧ zat 2 tkX11_laysAside = tkX11_laysAside_2 ∧ zat 26 tkX11_laysAside = tkX11_laysAside_26 := ⟨rfl, rfl, rfl⟩
theorem okX11_laysAside : zok kX11_laysAside.2.1 kX11_laysAside.2.2.1 kX11_laysAside.2.2.2.1 tkX11_laysAside = true := by decide +kernel
def tkX11_mornings_96 : List mE := (96, .iload_n 3, 1, 3, [], 0, 0, zM0) ::
  (97, .ireturn, 1, 97, [], 0, 0, zM0) :: []
def tkX11_mornings_86 : List mE := (86, .iadd, 1, 86, [], 0, 0, zM0) ::
  (87, .putfield 275, 3, 11, [32, 0, 5068], 0, 0, zM0) ::
  (90, .iinc 4 1, 3, 4, [], 1, 0, zM0) ::
  (93, .goto (-78), 3, 15, [], 0, 0, zM0) :: tkX11_mornings_96
def tkX11_mornings_85 : List mE := (85, .iconst 0, 1, 85, [], 0, 0, zM0) :: tkX11_mornings_86
def tkX11_mornings_65 : List mE := (65, .iadd, 1, 65, [], 0, 0, zM0) ::
  (66, .putfield 272, 3, 11, [31, 0, 5067], 0, 0, zM0) ::
  (69, .aload_n 0, 1, 0, [], 0, 0, zM0) ::
  (70, .dup, 1, 70, [], 0, 0, zM0) ::
  (71, .getfield 275, 3, 11, [32, 0, 5068], 0, 0, zM0) ::
  (74, .aload_n 0, 1, 0, [], 0, 0, zM0) ::
  (75, .getfield 260, 3, 11, [27, 3, 5063], 0, 0, zM0) ::
  (78, .ifCond .eq 7, 3, 85, [], 0, 0, zM0) ::
  (81, .iconst 1, 1, 81, [], 1, 0, zM0) ::
  (82, .goto 4, 3, 86, [], 0, 0, zM0) :: tkX11_mornings_85
def tkX11_mornings_64 : List mE := (64, .iconst 0, 1, 64, [], 0, 0, zM0) :: tkX11_mornings_65
def tkX11_mornings_15 : List mE := (15, .iload 4, 2, 4, [], 0, 0, zM0) ::
  (17, .aload_n 0, 1, 0, [], 0, 0, zM0) ::
  (18, .getfield 54, 3, 11, [44, 2, 5080], 0, 0, zM0) ::
  (21, .iload_n 1, 1, 1, [], 0, 0, zM0) ::
  (22, .iaload, 1, 0, [], 0, 0, zM0) ::
  (23, .if_icmp .ge 73, 3, 96, [], 0, 0, zM0) ::
  (26, .aload_n 0, 1, 0, [], 0, 0, zM0) ::
  (27, .iload_n 2, 1, 2, [], 0, 0, zM0) ::
  (28, .aload_n 0, 1, 0, [], 0, 0, zM0) ::
  (29, .getfield 57, 3, 11, [45, 2, 5081], 0, 0, zM0) ::
  (32, .bipush 40, 2, 32, [], 40, 0, zM0) ::
  (34, .iload_n 1, 1, 1, [], 0, 0, zM0) ::
  (35, .imul, 1, 35, [], 0, 0, zM0) ::
  (36, .iload 4, 2, 4, [], 0, 0, zM0) ::
  (38, .iadd, 1, 38, [], 0, 0, zM0) ::
  (39, .iaload, 1, 0, [], 0, 0, zM0) ::
  (40, .invokevirtual 263, 3, 11, [6108, 2, 1], 0, 0, kX11_puts) ::
  (43, .istore 5, 2, 5, [], 0, 0, zM0) ::
  (45, .iload_n 3, 1, 3, [], 0, 0, zM0) ::
  (46, .iload 5, 2, 5, [], 0, 0, zM0) ::
  (48, .iadd, 1, 48, [], 0, 0, zM0) ::
  (49, .istore_n 3, 1, 3, [], 0, 0, zM0) ::
  (50, .aload_n 0, 1, 0, [], 0, 0, zM0) ::
  (51, .dup, 1, 51, [], 0, 0, zM0) ::
  (52, .getfield 272, 3, 11, [31, 0, 5067], 0, 0, zM0) ::
  (55, .iload 5, 2, 5, [], 0, 0, zM0) ::
  (57, .ifCond .ne 7, 3, 64, [], 0, 0, zM0) ::
  (60, .iconst 1, 1, 60, [], 1, 0, zM0) ::
  (61, .goto 4, 3, 65, [], 0, 0, zM0) :: tkX11_mornings_64
def tkX11_mornings_0 : List mE := (0, .iconst 0, 1, 0, [], 0, 0, zM0) ::
  (1, .istore_n 3, 1, 3, [], 0, 0, zM0) ::
  (2, .aload_n 0, 1, 0, [], 0, 0, zM0) ::
  (3, .iconst 0, 1, 3, [], 0, 0, zM0) ::
  (4, .putfield 272, 3, 11, [31, 0, 5067], 0, 0, zM0) ::
  (7, .aload_n 0, 1, 0, [], 0, 0, zM0) ::
  (8, .iconst 0, 1, 8, [], 0, 0, zM0) ::
  (9, .putfield 275, 3, 11, [32, 0, 5068], 0, 0, zM0) ::
  (12, .iconst 0, 1, 12, [], 0, 0, zM0) ::
  (13, .istore 4, 2, 4, [], 0, 0, zM0) :: tkX11_mornings_15
def tkX11_mornings : List mE := tkX11_mornings_0
theorem zkX11_mornings : zat 0 tkX11_mornings = tkX11_mornings_0 ∧ zat 15 tkX11_mornings = tkX11_mornings_15 ∧ zat 64 tkX11_mornings = tkX11_mornings_64 ∧ zat 65 tkX11_mornings = tkX11_mornings_65 ∧ zat 85 tkX11_mornings = tkX11_mornings_85 ∧ zat 86 tkX11_mornings = tkX11_mornings_86 ∧ zat 96 tkX11_mornings = tkX11_mornings_96 := ⟨rfl, rfl, rfl, rfl, rfl, rfl, rfl⟩
theorem okX11_mornings : zok kX11_mornings.2.1 kX11_mornings.2.2.1 kX11_mornings.2.2.2.1 tkX11_mornings = true := by decide +kernel
def tkX11_laysBack_26 : List mE := (26, .aload_n 0, 1, 0, [], 0, 0, zM0) ::
  (27, .aload_n 0, 1, 0, [], 0, 0, zM0) ::
  (28, .getfield 269, 3, 11, [30, 0, 5066], 0, 0, zM0) ::
  (31, .putfield 97, 3, 11, [7, 0, 5043], 0, 0, zM0) ::
  (34, .return_, 1, 34, [], 0, 0, zM0) :: []
def tkX11_laysBack_2 : List mE := (2, .iload_n 1, 1, 1, [], 0, 0, zM0) ::
  (3, .bipush 15, 2, 3, [], 15, 0, zM0) ::
  (5, .if_icmp .ge 21, 3, 26, [], 0, 0, zM0) ::
  (8, .aload_n 0, 1, 0, [], 0, 0, zM0) ::
  (9, .getfield 29, 3, 11, [10, 2, 5046], 0, 0, zM0) ::
  (12, .iload_n 1, 1, 1, [], 0, 0, zM0) ::
  (13, .aload_n 0, 1, 0, [], 0, 0, zM0) ::
  (14, .getfield 35, 3, 11, [29, 2, 5065], 0, 0, zM0) ::
  (17, .iload_n 1, 1, 1, [], 0, 0, zM0) ::
  (18, .iaload, 1, 0, [], 0, 0, zM0) ::
  (19, .iastore, 1, 19, [], 0, 0, zM0) ::
  (20, .iinc 1 1, 3, 1, [], 1, 0, zM0) ::
  (23, .goto (-21), 3, 2, [], 0, 0, zM0) :: tkX11_laysBack_26
def tkX11_laysBack_0 : List mE := (0, .iconst 0, 1, 0, [], 0, 0, zM0) ::
  (1, .istore_n 1, 1, 1, [], 0, 0, zM0) :: tkX11_laysBack_2
def tkX11_laysBack : List mE := tkX11_laysBack_0
theorem zkX11_laysBack : zat 0 tkX11_laysBack = tkX11_laysBack_0 ∧ zat 2 tkX11_laysBack = tkX11_laysBack_2 ∧ zat 26 tkX11_laysBack = tkX11_laysBack_26 := ⟨rfl, rfl, rfl⟩
theorem okX11_laysBack : zok kX11_laysBack.2.1 kX11_laysBack.2.2.1 kX11_laysBack.2.2.2.1 tkX11_laysBack = true := by decide +kernel
def tkX11_teach_38 : List mE := (38, .ireturn, 1, 38, [], 0, 0, zM0) :: []
def tkX11_teach_37 : List mE := (37, .iload_n 3, 1, 3, [], 0, 0, zM0) :: tkX11_teach_38
def tkX11_teach_18 : List mE := (18, .aload_n 0, 1, 0, [], 0, 0, zM0) ::
  (19, .iload_n 1, 1, 1, [], 0, 0, zM0) ::
  (20, .invokevirtual 281, 3, 11, [6127, 1, 1], 0, 0, kX11_morningBad) ::
  (23, .istore_n 3, 1, 3, [], 0, 0, zM0) ::
  (24, .iload_n 3, 1, 3, [], 0, 0, zM0) ::
  (25, .ifCond .ne 12, 3, 37, [], 0, 0, zM0) ::
  (28, .aload_n 0, 1, 0, [], 0, 0, zM0) ::
  (29, .iload_n 1, 1, 1, [], 0, 0, zM0) ::
  (30, .iload_n 2, 1, 2, [], 0, 0, zM0) ::
  (31, .invokevirtual 287, 3, 11, [6135, 2, 1], 0, 0, kX11_mornings) ::
  (34, .goto 4, 3, 38, [], 0, 0, zM0) :: tkX11_teach_37
def tkX11_teach_15 : List mE := (15, .bipush (-2), 2, 15, [], (-2), 0, zM0) ::
  (17, .ireturn, 1, 17, [], 0, 0, zM0) :: tkX11_teach_18
def tkX11_teach_0 : List mE := (0, .iload_n 1, 1, 1, [], 0, 0, zM0) ::
  (1, .invokestatic 278, 3, 0, [6124, 1, 1], 0, 0, kX11_isSheet) ::
  (4, .ifCond .eq 11, 3, 15, [], 0, 0, zM0) ::
  (7, .aload_n 0, 1, 0, [], 0, 0, zM0) ::
  (8, .iload_n 2, 1, 2, [], 0, 0, zM0) ::
  (9, .invokevirtual 82, 3, 11, [5192, 1, 1], 0, 0, kX11_isHen) ::
  (12, .ifCond .ne 6, 3, 18, [], 0, 0, zM0) :: tkX11_teach_15
def tkX11_teach : List mE := tkX11_teach_0
theorem zkX11_teach : zat 0 tkX11_teach = tkX11_teach_0 ∧ zat 15 tkX11_teach = tkX11_teach_15 ∧ zat 18 tkX11_teach = tkX11_teach_18 ∧ zat 37 tkX11_teach = tkX11_teach_37 ∧ zat 38 tkX11_teach = tkX11_teach_38 := ⟨rfl, rfl, rfl, rfl, rfl⟩
theorem okX11_teach : zok kX11_teach.2.1 kX11_teach.2.2.1 kX11_teach.2.2.2.1 tkX11_teach = true := by decide +kernel
def tkX11_nights_94 : List mE := (94, .istore 6, 2, 6, [], 0, 0, zM0) ::
  (96, .aload_n 0, 1, 0, [], 0, 0, zM0) ::
  (97, .invokevirtual 290, 3, 11, [6139, 0, 0], 0, 0, kX11_laysBack) ::
  (100, .iload 6, 2, 6, [], 0, 0, zM0) ::
  (102, .ireturn, 1, 102, [], 0, 0, zM0) :: []
def tkX11_nights_92 : List mE := (92, .iload 5, 2, 5, [], 0, 0, zM0) :: tkX11_nights_94
def tkX11_nights_79 : List mE := (79, .iload 4, 2, 4, [], 0, 0, zM0) ::
  (81, .ifCond .ne 11, 3, 92, [], 0, 0, zM0) ::
  (84, .aload_n 0, 1, 0, [], 0, 0, zM0) ::
  (85, .iload_n 1, 1, 1, [], 0, 0, zM0) ::
  (86, .invokevirtual 105, 3, 11, [5212, 1, 1], 0, 0, kX11_holdsOf) ::
  (89, .goto 5, 3, 94, [], 0, 0, zM0) :: tkX11_nights_92
def tkX11_nights_51 : List mE := (51, .iload 6, 2, 6, [], 0, 0, zM0) ::
  (53, .iload_n 3, 1, 3, [], 0, 0, zM0) ::
  (54, .if_icmp .ge 25, 3, 79, [], 0, 0, zM0) ::
  (57, .iload 5, 2, 5, [], 0, 0, zM0) ::
  (59, .aload_n 0, 1, 0, [], 0, 0, zM0) ::
  (60, .iload_n 1, 1, 1, [], 0, 0, zM0) ::
  (61, .iload_n 2, 1, 2, [], 0, 0, zM0) ::
  (62, .invokevirtual 263, 3, 11, [6108, 2, 1], 0, 0, kX11_puts) ::
  (65, .iadd, 1, 65, [], 0, 0, zM0) ::
  (66, .istore 5, 2, 5, [], 0, 0, zM0) ::
  (68, .aload_n 0, 1, 0, [], 0, 0, zM0) ::
  (69, .invokevirtual 266, 3, 11, [6116, 0, 1], 0, 0, kX11_passes) ::
  (72, .pop, 1, 72, [], 0, 0, zM0) ::
  (73, .iinc 6 1, 3, 6, [], 1, 0, zM0) ::
  (76, .goto (-25), 3, 51, [], 0, 0, zM0) :: tkX11_nights_79
def tkX11_nights_41 : List mE := (41, .aload_n 0, 1, 0, [], 0, 0, zM0) ::
  (42, .invokevirtual 284, 3, 11, [6131, 0, 0], 0, 0, kX11_laysAside) ::
  (45, .iconst 0, 1, 45, [], 0, 0, zM0) ::
  (46, .istore 5, 2, 5, [], 0, 0, zM0) ::
  (48, .iconst 0, 1, 48, [], 0, 0, zM0) ::
  (49, .istore 6, 2, 6, [], 0, 0, zM0) :: tkX11_nights_51
def tkX11_nights_38 : List mE := (38, .bipush (-2), 2, 38, [], (-2), 0, zM0) ::
  (40, .ireturn, 1, 40, [], 0, 0, zM0) :: tkX11_nights_41
def tkX11_nights_0 : List mE := (0, .aload_n 0, 1, 0, [], 0, 0, zM0) ::
  (1, .iload_n 1, 1, 1, [], 0, 0, zM0) ::
  (2, .invokevirtual 82, 3, 11, [5192, 1, 1], 0, 0, kX11_isHen) ::
  (5, .ifCond .eq 33, 3, 38, [], 0, 0, zM0) ::
  (8, .iload_n 2, 1, 2, [], 0, 0, zM0) ::
  (9, .invokestatic 76, 3, 0, [5180, 1, 1], 0, 0, kX11_isPoint) ::
  (12, .ifCond .eq 26, 3, 38, [], 0, 0, zM0) ::
  (15, .iload_n 3, 1, 3, [], 0, 0, zM0) ::
  (16, .i2l, 1, 16, [], 0, 0, zM0) ::
  (17, .lconst 0, 1, 17, [], 0, 0, zM0) ::
  (18, .ldc2_w 293, 3, 18, [6151], 0, 30, zM0) ::
  (21, .invokestatic 70, 3, 0, [5184, 3, 1], 0, 0, kX11_in) ::
  (24, .ifCond .eq 14, 3, 38, [], 0, 0, zM0) ::
  (27, .iload 4, 2, 4, [], 0, 0, zM0) ::
  (29, .i2l, 1, 29, [], 0, 0, zM0) ::
  (30, .lconst 0, 1, 30, [], 0, 0, zM0) ::
  (31, .lconst 1, 1, 31, [], 0, 1, zM0) ::
  (32, .invokestatic 70, 3, 0, [5184, 3, 1], 0, 0, kX11_in) ::
  (35, .ifCond .ne 6, 3, 41, [], 0, 0, zM0) :: tkX11_nights_38
def tkX11_nights : List mE := tkX11_nights_0
theorem zkX11_nights : zat 0 tkX11_nights = tkX11_nights_0 ∧ zat 38 tkX11_nights = tkX11_nights_38 ∧ zat 41 tkX11_nights = tkX11_nights_41 ∧ zat 51 tkX11_nights = tkX11_nights_51 ∧ zat 79 tkX11_nights = tkX11_nights_79 ∧ zat 92 tkX11_nights = tkX11_nights_92 ∧ zat 94 tkX11_nights = tkX11_nights_94 := ⟨rfl, rfl, rfl, rfl, rfl, rfl, rfl⟩
theorem okX11_nights : zok kX11_nights.2.1 kX11_nights.2.2.1 kX11_nights.2.2.2.1 tkX11_nights = true := by decide +kernel
def tkX11_field_59 : List mE := (59, .ireturn, 1, 59, [], 0, 0, zM0) :: []
def tkX11_field_54 : List mE := (54, .aload_n 0, 1, 0, [], 0, 0, zM0) ::
  (55, .iload_n 1, 1, 1, [], 0, 0, zM0) ::
  (56, .invokevirtual 313, 3, 11, [6164, 1, 1], 0, 0, kX11_counted) :: tkX11_field_59
def tkX11_field_42 : List mE := (42, .iload_n 1, 1, 1, [], 0, 0, zM0) ::
  (43, .iconst 5, 1, 43, [], 5, 0, zM0) ::
  (44, .if_icmp .ne 10, 3, 54, [], 0, 0, zM0) ::
  (47, .aload_n 0, 1, 0, [], 0, 0, zM0) ::
  (48, .invokevirtual 310, 3, 11, [6160, 0, 1], 0, 0, kX11_vainTwos) ::
  (51, .goto 8, 3, 59, [], 0, 0, zM0) :: tkX11_field_54
def tkX11_field_30 : List mE := (30, .iload_n 1, 1, 1, [], 0, 0, zM0) ::
  (31, .iconst 1, 1, 31, [], 1, 0, zM0) ::
  (32, .if_icmp .ne 10, 3, 42, [], 0, 0, zM0) ::
  (35, .aload_n 0, 1, 0, [], 0, 0, zM0) ::
  (36, .getfield 298, 3, 11, [34, 0, 5070], 0, 0, zM0) ::
  (39, .goto 20, 3, 59, [], 0, 0, zM0) :: tkX11_field_42
def tkX11_field_15 : List mE := (15, .aload_n 0, 1, 0, [], 0, 0, zM0) ::
  (16, .invokevirtual 307, 3, 11, [6156, 0, 0], 0, 0, kX11_labels) ::
  (19, .iload_n 1, 1, 1, [], 0, 0, zM0) ::
  (20, .ifCond .ne 10, 3, 30, [], 0, 0, zM0) ::
  (23, .aload_n 0, 1, 0, [], 0, 0, zM0) ::
  (24, .getfield 295, 3, 11, [33, 0, 5069], 0, 0, zM0) ::
  (27, .goto 32, 3, 59, [], 0, 0, zM0) :: tkX11_field_30
def tkX11_field_0 : List mE := (0, .iload_n 1, 1, 1, [], 0, 0, zM0) ::
  (1, .i2l, 1, 1, [], 0, 0, zM0) ::
  (2, .lconst 0, 1, 2, [], 0, 0, zM0) ::
  (3, .ldc2_w 103, 3, 3, [6077], 0, 5, zM0) ::
  (6, .invokestatic 70, 3, 0, [5184, 3, 1], 0, 0, kX11_in) ::
  (9, .ifCond .ne 6, 3, 15, [], 0, 0, zM0) ::
  (12, .bipush (-2), 2, 12, [], (-2), 0, zM0) ::
  (14, .ireturn, 1, 14, [], 0, 0, zM0) :: tkX11_field_15
def tkX11_field : List mE := tkX11_field_0
theorem zkX11_field : zat 0 tkX11_field = tkX11_field_0 ∧ zat 15 tkX11_field = tkX11_field_15 ∧ zat 30 tkX11_field = tkX11_field_30 ∧ zat 42 tkX11_field = tkX11_field_42 ∧ zat 54 tkX11_field = tkX11_field_54 ∧ zat 59 tkX11_field = tkX11_field_59 := ⟨rfl, rfl, rfl, rfl, rfl, rfl⟩
theorem okX11_field : zok kX11_field.2.1 kX11_field.2.2.1 kX11_field.2.2.2.1 tkX11_field = true := by decide +kernel
def tkX11_labels_90 : List mE := (90, .return_, 1, 90, [], 0, 0, zM0) :: []
def tkX11_labels_87 : List mE := (87, .goto (-75), 3, 12, [], 0, 0, zM0) :: tkX11_labels_90
def tkX11_labels_81 : List mE := (81, .iinc 2 1, 3, 2, [], 1, 0, zM0) ::
  (84, .goto (-64), 3, 20, [], 0, 0, zM0) :: tkX11_labels_87
def tkX11_labels_20 : List mE := (20, .iload_n 2, 1, 2, [], 0, 0, zM0) ::
  (21, .bipush 10, 2, 21, [], 10, 0, zM0) ::
  (23, .if_icmp .ge 64, 3, 87, [], 0, 0, zM0) ::
  (26, .aload_n 0, 1, 0, [], 0, 0, zM0) ::
  (27, .iload_n 2, 1, 2, [], 0, 0, zM0) ::
  (28, .invokevirtual 113, 3, 11, [5228, 1, 1], 0, 0, kX11_foes) ::
  (31, .aload_n 0, 1, 0, [], 0, 0, zM0) ::
  (32, .getfield 298, 3, 11, [34, 0, 5070], 0, 0, zM0) ::
  (35, .iconst (-1), 1, 35, [], (-1), 0, zM0) ::
  (36, .ixor, 1, 36, [], 0, 0, zM0) ::
  (37, .iand, 1, 37, [], 0, 0, zM0) ::
  (38, .ifCond .ne 43, 3, 81, [], 0, 0, zM0) ::
  (41, .aload_n 0, 1, 0, [], 0, 0, zM0) ::
  (42, .getfield 295, 3, 11, [33, 0, 5069], 0, 0, zM0) ::
  (45, .iload_n 2, 1, 2, [], 0, 0, zM0) ::
  (46, .ishr, 1, 46, [], 0, 0, zM0) ::
  (47, .iconst 1, 1, 47, [], 1, 0, zM0) ::
  (48, .iand, 1, 48, [], 0, 0, zM0) ::
  (49, .ifCond .ne 32, 3, 81, [], 0, 0, zM0) ::
  (52, .aload_n 0, 1, 0, [], 0, 0, zM0) ::
  (53, .dup, 1, 53, [], 0, 0, zM0) ::
  (54, .getfield 295, 3, 11, [33, 0, 5069], 0, 0, zM0) ::
  (57, .iconst 1, 1, 57, [], 1, 0, zM0) ::
  (58, .iload_n 2, 1, 2, [], 0, 0, zM0) ::
  (59, .ishl, 1, 59, [], 0, 0, zM0) ::
  (60, .ior, 1, 60, [], 0, 0, zM0) ::
  (61, .putfield 295, 3, 11, [33, 0, 5069], 0, 0, zM0) ::
  (64, .aload_n 0, 1, 0, [], 0, 0, zM0) ::
  (65, .dup, 1, 65, [], 0, 0, zM0) ::
  (66, .getfield 298, 3, 11, [34, 0, 5070], 0, 0, zM0) ::
  (69, .aload_n 0, 1, 0, [], 0, 0, zM0) ::
  (70, .getfield 23, 3, 11, [8, 2, 5044], 0, 0, zM0) ::
  (73, .iload_n 2, 1, 2, [], 0, 0, zM0) ::
  (74, .iaload, 1, 0, [], 0, 0, zM0) ::
  (75, .ior, 1, 75, [], 0, 0, zM0) ::
  (76, .putfield 298, 3, 11, [34, 0, 5070], 0, 0, zM0) ::
  (79, .iconst 1, 1, 79, [], 1, 0, zM0) ::
  (80, .istore_n 1, 1, 1, [], 0, 0, zM0) :: tkX11_labels_81
def tkX11_labels_12 : List mE := (12, .iload_n 1, 1, 1, [], 0, 0, zM0) ::
  (13, .ifCond .eq 77, 3, 90, [], 0, 0, zM0) ::
  (16, .iconst 0, 1, 16, [], 0, 0, zM0) ::
  (17, .istore_n 1, 1, 1, [], 0, 0, zM0) ::
  (18, .iconst 0, 1, 18, [], 0, 0, zM0) ::
  (19, .istore_n 2, 1, 2, [], 0, 0, zM0) :: tkX11_labels_20
def tkX11_labels_0 : List mE := (0, .aload_n 0, 1, 0, [], 0, 0, zM0) ::
  (1, .iconst 0, 1, 1, [], 0, 0, zM0) ::
  (2, .putfield 295, 3, 11, [33, 0, 5069], 0, 0, zM0) ::
  (5, .aload_n 0, 1, 0, [], 0, 0, zM0) ::
  (6, .iconst 0, 1, 6, [], 0, 0, zM0) ::
  (7, .putfield 298, 3, 11, [34, 0, 5070], 0, 0, zM0) ::
  (10, .iconst 1, 1, 10, [], 1, 0, zM0) ::
  (11, .istore_n 1, 1, 1, [], 0, 0, zM0) :: tkX11_labels_12
def tkX11_labels : List mE := tkX11_labels_0
theorem zkX11_labels : zat 0 tkX11_labels = tkX11_labels_0 ∧ zat 12 tkX11_labels = tkX11_labels_12 ∧ zat 20 tkX11_labels = tkX11_labels_20 ∧ zat 81 tkX11_labels = tkX11_labels_81 ∧ zat 87 tkX11_labels = tkX11_labels_87 ∧ zat 90 tkX11_labels = tkX11_labels_90 := ⟨rfl, rfl, rfl, rfl, rfl, rfl⟩
theorem okX11_labels : zok kX11_labels.2.1 kX11_labels.2.2.1 kX11_labels.2.2.2.1 tkX11_labels = true := by decide +kernel
def tkX11_vainTwos_57 : List mE := (57, .iload_n 1, 1, 1, [], 0, 0, zM0) ::
  (58, .ireturn, 1, 58, [], 0, 0, zM0) :: []
def tkX11_vainTwos_49 : List mE := (49, .iadd, 1, 49, [], 0, 0, zM0) ::
  (50, .istore_n 1, 1, 1, [], 0, 0, zM0) ::
  (51, .iinc 2 1, 3, 2, [], 1, 0, zM0) ::
  (54, .goto (-50), 3, 4, [], 0, 0, zM0) :: tkX11_vainTwos_57
def tkX11_vainTwos_35 : List mE := (35, .aload_n 0, 1, 0, [], 0, 0, zM0) ::
  (36, .getfield 23, 3, 11, [8, 2, 5044], 0, 0, zM0) ::
  (39, .iload_n 2, 1, 2, [], 0, 0, zM0) ::
  (40, .iaload, 1, 0, [], 0, 0, zM0) ::
  (41, .aload_n 0, 1, 0, [], 0, 0, zM0) ::
  (42, .getfield 298, 3, 11, [34, 0, 5070], 0, 0, zM0) ::
  (45, .iand, 1, 45, [], 0, 0, zM0) ::
  (46, .invokestatic 235, 3, 0, [5232, 1, 1], 0, 0, kX11_bitsOf) :: tkX11_vainTwos_49
def tkX11_vainTwos_4 : List mE := (4, .iload_n 2, 1, 2, [], 0, 0, zM0) ::
  (5, .bipush 10, 2, 5, [], 10, 0, zM0) ::
  (7, .if_icmp .ge 50, 3, 57, [], 0, 0, zM0) ::
  (10, .iload_n 1, 1, 1, [], 0, 0, zM0) ::
  (11, .aload_n 0, 1, 0, [], 0, 0, zM0) ::
  (12, .getfield 298, 3, 11, [34, 0, 5070], 0, 0, zM0) ::
  (15, .iload_n 2, 1, 2, [], 0, 0, zM0) ::
  (16, .ishr, 1, 16, [], 0, 0, zM0) ::
  (17, .iconst 1, 1, 17, [], 1, 0, zM0) ::
  (18, .iand, 1, 18, [], 0, 0, zM0) ::
  (19, .iconst 1, 1, 19, [], 1, 0, zM0) ::
  (20, .if_icmp .ne 15, 3, 35, [], 0, 0, zM0) ::
  (23, .aload_n 0, 1, 0, [], 0, 0, zM0) ::
  (24, .getfield 23, 3, 11, [8, 2, 5044], 0, 0, zM0) ::
  (27, .iload_n 2, 1, 2, [], 0, 0, zM0) ::
  (28, .iaload, 1, 0, [], 0, 0, zM0) ::
  (29, .invokestatic 235, 3, 0, [5232, 1, 1], 0, 0, kX11_bitsOf) ::
  (32, .goto 17, 3, 49, [], 0, 0, zM0) :: tkX11_vainTwos_35
def tkX11_vainTwos_0 : List mE := (0, .iconst 0, 1, 0, [], 0, 0, zM0) ::
  (1, .istore_n 1, 1, 1, [], 0, 0, zM0) ::
  (2, .iconst 0, 1, 2, [], 0, 0, zM0) ::
  (3, .istore_n 2, 1, 2, [], 0, 0, zM0) :: tkX11_vainTwos_4
def tkX11_vainTwos : List mE := tkX11_vainTwos_0
theorem zkX11_vainTwos : zat 0 tkX11_vainTwos = tkX11_vainTwos_0 ∧ zat 4 tkX11_vainTwos = tkX11_vainTwos_4 ∧ zat 35 tkX11_vainTwos = tkX11_vainTwos_35 ∧ zat 49 tkX11_vainTwos = tkX11_vainTwos_49 ∧ zat 57 tkX11_vainTwos = tkX11_vainTwos_57 := ⟨rfl, rfl, rfl, rfl, rfl⟩
theorem okX11_vainTwos : zok kX11_vainTwos.2.1 kX11_vainTwos.2.2.1 kX11_vainTwos.2.2.2.1 tkX11_vainTwos = true := by decide +kernel
def tkX11_counted_62 : List mE := (62, .ireturn, 1, 62, [], 0, 0, zM0) :: []
def tkX11_counted_61 : List mE := (61, .iload_n 2, 1, 2, [], 0, 0, zM0) :: tkX11_counted_62
def tkX11_counted_52 : List mE := (52, .iload_n 1, 1, 1, [], 0, 0, zM0) ::
  (53, .iconst 4, 1, 53, [], 4, 0, zM0) ::
  (54, .if_icmp .ne 7, 3, 61, [], 0, 0, zM0) ::
  (57, .iload_n 3, 1, 3, [], 0, 0, zM0) ::
  (58, .goto 4, 3, 62, [], 0, 0, zM0) :: tkX11_counted_61
def tkX11_counted_46 : List mE := (46, .iinc 4 (-1), 3, 4, [], (-1), 0, zM0) ::
  (49, .goto (-40), 3, 9, [], 0, 0, zM0) :: tkX11_counted_52
def tkX11_counted_40 : List mE := (40, .iinc 2 1, 3, 2, [], 1, 0, zM0) ::
  (43, .iload 4, 2, 4, [], 0, 0, zM0) ::
  (45, .istore_n 3, 1, 3, [], 0, 0, zM0) :: tkX11_counted_46
def tkX11_counted_31 : List mE := (31, .aload_n 0, 1, 0, [], 0, 0, zM0) ::
  (32, .iload 4, 2, 4, [], 0, 0, zM0) ::
  (34, .invokevirtual 304, 3, 11, [6172, 1, 1], 0, 0, kX11_isStable) ::
  (37, .ifCond .eq 9, 3, 46, [], 0, 0, zM0) :: tkX11_counted_40
def tkX11_counted_9 : List mE := (9, .iload 4, 2, 4, [], 0, 0, zM0) ::
  (11, .ifCond .lt 41, 3, 52, [], 0, 0, zM0) ::
  (14, .iload_n 1, 1, 1, [], 0, 0, zM0) ::
  (15, .iconst 2, 1, 15, [], 2, 0, zM0) ::
  (16, .if_icmp .ne 15, 3, 31, [], 0, 0, zM0) ::
  (19, .aload_n 0, 1, 0, [], 0, 0, zM0) ::
  (20, .iload 4, 2, 4, [], 0, 0, zM0) ::
  (22, .invokevirtual 301, 3, 11, [6168, 1, 1], 0, 0, kX11_isFree) ::
  (25, .ifCond .eq 21, 3, 46, [], 0, 0, zM0) ::
  (28, .goto 12, 3, 40, [], 0, 0, zM0) :: tkX11_counted_31
def tkX11_counted_0 : List mE := (0, .iconst 0, 1, 0, [], 0, 0, zM0) ::
  (1, .istore_n 2, 1, 2, [], 0, 0, zM0) ::
  (2, .iconst (-1), 1, 2, [], (-1), 0, zM0) ::
  (3, .istore_n 3, 1, 3, [], 0, 0, zM0) ::
  (4, .sipush 1023, 3, 4, [], 1023, 0, zM0) ::
  (7, .istore 4, 2, 4, [], 0, 0, zM0) :: tkX11_counted_9
def tkX11_counted : List mE := tkX11_counted_0
theorem zkX11_counted : zat 0 tkX11_counted = tkX11_counted_0 ∧ zat 9 tkX11_counted = tkX11_counted_9 ∧ zat 31 tkX11_counted = tkX11_counted_31 ∧ zat 40 tkX11_counted = tkX11_counted_40 ∧ zat 46 tkX11_counted = tkX11_counted_46 ∧ zat 52 tkX11_counted = tkX11_counted_52 ∧ zat 61 tkX11_counted = tkX11_counted_61 ∧ zat 62 tkX11_counted = tkX11_counted_62 := ⟨rfl, rfl, rfl, rfl, rfl, rfl, rfl, rfl⟩
theorem okX11_counted : zok kX11_counted.2.1 kX11_counted.2.2.1 kX11_counted.2.2.2.1 tkX11_counted = true := by decide +kernel
def tkX11_isFree_36 : List mE := (36, .iconst 1, 1, 36, [], 1, 0, zM0) ::
  (37, .ireturn, 1, 37, [], 0, 0, zM0) :: []
def tkX11_isFree_30 : List mE := (30, .iinc 2 1, 3, 2, [], 1, 0, zM0) ::
  (33, .goto (-31), 3, 2, [], 0, 0, zM0) :: tkX11_isFree_36
def tkX11_isFree_2 : List mE := (2, .iload_n 2, 1, 2, [], 0, 0, zM0) ::
  (3, .bipush 10, 2, 3, [], 10, 0, zM0) ::
  (5, .if_icmp .ge 31, 3, 36, [], 0, 0, zM0) ::
  (8, .iload_n 1, 1, 1, [], 0, 0, zM0) ::
  (9, .iload_n 2, 1, 2, [], 0, 0, zM0) ::
  (10, .ishr, 1, 10, [], 0, 0, zM0) ::
  (11, .iconst 1, 1, 11, [], 1, 0, zM0) ::
  (12, .iand, 1, 12, [], 0, 0, zM0) ::
  (13, .iconst 1, 1, 13, [], 1, 0, zM0) ::
  (14, .if_icmp .ne 16, 3, 30, [], 0, 0, zM0) ::
  (17, .aload_n 0, 1, 0, [], 0, 0, zM0) ::
  (18, .getfield 23, 3, 11, [8, 2, 5044], 0, 0, zM0) ::
  (21, .iload_n 2, 1, 2, [], 0, 0, zM0) ::
  (22, .iaload, 1, 0, [], 0, 0, zM0) ::
  (23, .iload_n 1, 1, 1, [], 0, 0, zM0) ::
  (24, .iand, 1, 24, [], 0, 0, zM0) ::
  (25, .ifCond .eq 5, 3, 30, [], 0, 0, zM0) ::
  (28, .iconst 0, 1, 28, [], 0, 0, zM0) ::
  (29, .ireturn, 1, 29, [], 0, 0, zM0) :: tkX11_isFree_30
def tkX11_isFree_0 : List mE := (0, .iconst 0, 1, 0, [], 0, 0, zM0) ::
  (1, .istore_n 2, 1, 2, [], 0, 0, zM0) :: tkX11_isFree_2
def tkX11_isFree : List mE := tkX11_isFree_0
theorem zkX11_isFree : zat 0 tkX11_isFree = tkX11_isFree_0 ∧ zat 2 tkX11_isFree = tkX11_isFree_2 ∧ zat 30 tkX11_isFree = tkX11_isFree_30 ∧ zat 36 tkX11_isFree = tkX11_isFree_36 := ⟨rfl, rfl, rfl, rfl⟩
theorem okX11_isFree : zok kX11_isFree.2.1 kX11_isFree.2.2.1 kX11_isFree.2.2.2.1 tkX11_isFree = true := by decide +kernel
def tkX11_isStable_58 : List mE := (58, .ireturn, 1, 58, [], 0, 0, zM0) :: []
def tkX11_isStable_57 : List mE := (57, .iconst 0, 1, 57, [], 0, 0, zM0) :: tkX11_isStable_58
def tkX11_isStable_38 : List mE := (38, .iload_n 2, 1, 2, [], 0, 0, zM0) ::
  (39, .sipush 1023, 3, 39, [], 1023, 0, zM0) ::
  (42, .if_icmp .ne 15, 3, 57, [], 0, 0, zM0) ::
  (45, .aload_n 0, 1, 0, [], 0, 0, zM0) ::
  (46, .iload_n 1, 1, 1, [], 0, 0, zM0) ::
  (47, .invokevirtual 301, 3, 11, [6168, 1, 1], 0, 0, kX11_isFree) ::
  (50, .ifCond .eq 7, 3, 57, [], 0, 0, zM0) ::
  (53, .iconst 1, 1, 53, [], 1, 0, zM0) ::
  (54, .goto 4, 3, 58, [], 0, 0, zM0) :: tkX11_isStable_57
def tkX11_isStable_30 : List mE := (30, .ior, 1, 30, [], 0, 0, zM0) ::
  (31, .istore_n 2, 1, 2, [], 0, 0, zM0) ::
  (32, .iinc 3 1, 3, 3, [], 1, 0, zM0) ::
  (35, .goto (-31), 3, 4, [], 0, 0, zM0) :: tkX11_isStable_38
def tkX11_isStable_29 : List mE := (29, .iconst 0, 1, 29, [], 0, 0, zM0) :: tkX11_isStable_30
def tkX11_isStable_4 : List mE := (4, .iload_n 3, 1, 3, [], 0, 0, zM0) ::
  (5, .bipush 10, 2, 5, [], 10, 0, zM0) ::
  (7, .if_icmp .ge 31, 3, 38, [], 0, 0, zM0) ::
  (10, .iload_n 2, 1, 2, [], 0, 0, zM0) ::
  (11, .iload_n 1, 1, 1, [], 0, 0, zM0) ::
  (12, .iload_n 3, 1, 3, [], 0, 0, zM0) ::
  (13, .ishr, 1, 13, [], 0, 0, zM0) ::
  (14, .iconst 1, 1, 14, [], 1, 0, zM0) ::
  (15, .iand, 1, 15, [], 0, 0, zM0) ::
  (16, .iconst 1, 1, 16, [], 1, 0, zM0) ::
  (17, .if_icmp .ne 12, 3, 29, [], 0, 0, zM0) ::
  (20, .aload_n 0, 1, 0, [], 0, 0, zM0) ::
  (21, .getfield 23, 3, 11, [8, 2, 5044], 0, 0, zM0) ::
  (24, .iload_n 3, 1, 3, [], 0, 0, zM0) ::
  (25, .iaload, 1, 0, [], 0, 0, zM0) ::
  (26, .goto 4, 3, 30, [], 0, 0, zM0) :: tkX11_isStable_29
def tkX11_isStable_0 : List mE := (0, .iload_n 1, 1, 1, [], 0, 0, zM0) ::
  (1, .istore_n 2, 1, 2, [], 0, 0, zM0) ::
  (2, .iconst 0, 1, 2, [], 0, 0, zM0) ::
  (3, .istore_n 3, 1, 3, [], 0, 0, zM0) :: tkX11_isStable_4
def tkX11_isStable : List mE := tkX11_isStable_0
theorem zkX11_isStable : zat 0 tkX11_isStable = tkX11_isStable_0 ∧ zat 4 tkX11_isStable = tkX11_isStable_4 ∧ zat 29 tkX11_isStable = tkX11_isStable_29 ∧ zat 30 tkX11_isStable = tkX11_isStable_30 ∧ zat 38 tkX11_isStable = tkX11_isStable_38 ∧ zat 57 tkX11_isStable = tkX11_isStable_57 ∧ zat 58 tkX11_isStable = tkX11_isStable_58 := ⟨rfl, rfl, rfl, rfl, rfl, rfl, rfl⟩
theorem okX11_isStable : zok kX11_isStable.2.1 kX11_isStable.2.2.1 kX11_isStable.2.2.2.1 tkX11_isStable = true := by decide +kernel
def tkX11_sets_68 : List mE := (68, .ireturn, 1, 68, [], 0, 0, zM0) :: []
def tkX11_sets_67 : List mE := (67, .iconst 0, 1, 67, [], 0, 0, zM0) :: tkX11_sets_68
def tkX11_sets_63 : List mE := (63, .iconst 1, 1, 63, [], 1, 0, zM0) ::
  (64, .goto 4, 3, 68, [], 0, 0, zM0) :: tkX11_sets_67
def tkX11_sets_55 : List mE := (55, .aload_n 0, 1, 0, [], 0, 0, zM0) ::
  (56, .iload_n 1, 1, 1, [], 0, 0, zM0) ::
  (57, .invokevirtual 304, 3, 11, [6172, 1, 1], 0, 0, kX11_isStable) ::
  (60, .ifCond .eq 7, 3, 67, [], 0, 0, zM0) :: tkX11_sets_63
def tkX11_sets_40 : List mE := (40, .iload_n 2, 1, 2, [], 0, 0, zM0) ::
  (41, .ifCond .ne 14, 3, 55, [], 0, 0, zM0) ::
  (44, .aload_n 0, 1, 0, [], 0, 0, zM0) ::
  (45, .iload_n 1, 1, 1, [], 0, 0, zM0) ::
  (46, .invokevirtual 301, 3, 11, [6168, 1, 1], 0, 0, kX11_isFree) ::
  (49, .ifCond .eq 18, 3, 67, [], 0, 0, zM0) ::
  (52, .goto 11, 3, 63, [], 0, 0, zM0) :: tkX11_sets_55
def tkX11_sets_27 : List mE := (27, .iload_n 2, 1, 2, [], 0, 0, zM0) ::
  (28, .iconst 2, 1, 28, [], 2, 0, zM0) ::
  (29, .if_icmp .ne 11, 3, 40, [], 0, 0, zM0) ::
  (32, .aload_n 0, 1, 0, [], 0, 0, zM0) ::
  (33, .iload_n 1, 1, 1, [], 0, 0, zM0) ::
  (34, .invokevirtual 320, 3, 11, [6182, 1, 1], 0, 0, kX11_defended) ::
  (37, .goto 31, 3, 68, [], 0, 0, zM0) :: tkX11_sets_40
def tkX11_sets_24 : List mE := (24, .bipush (-2), 2, 24, [], (-2), 0, zM0) ::
  (26, .ireturn, 1, 26, [], 0, 0, zM0) :: tkX11_sets_27
def tkX11_sets_0 : List mE := (0, .iload_n 1, 1, 1, [], 0, 0, zM0) ::
  (1, .i2l, 1, 1, [], 0, 0, zM0) ::
  (2, .lconst 0, 1, 2, [], 0, 0, zM0) ::
  (3, .ldc2_w 316, 3, 3, [6180], 0, 1023, zM0) ::
  (6, .invokestatic 70, 3, 0, [5184, 3, 1], 0, 0, kX11_in) ::
  (9, .ifCond .eq 15, 3, 24, [], 0, 0, zM0) ::
  (12, .iload_n 2, 1, 2, [], 0, 0, zM0) ::
  (13, .i2l, 1, 13, [], 0, 0, zM0) ::
  (14, .lconst 0, 1, 14, [], 0, 0, zM0) ::
  (15, .ldc2_w 318, 3, 15, [6181], 0, 2, zM0) ::
  (18, .invokestatic 70, 3, 0, [5184, 3, 1], 0, 0, kX11_in) ::
  (21, .ifCond .ne 6, 3, 27, [], 0, 0, zM0) :: tkX11_sets_24
def tkX11_sets : List mE := tkX11_sets_0
theorem zkX11_sets : zat 0 tkX11_sets = tkX11_sets_0 ∧ zat 24 tkX11_sets = tkX11_sets_24 ∧ zat 27 tkX11_sets = tkX11_sets_27 ∧ zat 40 tkX11_sets = tkX11_sets_40 ∧ zat 55 tkX11_sets = tkX11_sets_55 ∧ zat 63 tkX11_sets = tkX11_sets_63 ∧ zat 67 tkX11_sets = tkX11_sets_67 ∧ zat 68 tkX11_sets = tkX11_sets_68 := ⟨rfl, rfl, rfl, rfl, rfl, rfl, rfl, rfl⟩
theorem okX11_sets : zok kX11_sets.2.1 kX11_sets.2.2.1 kX11_sets.2.2.2.1 tkX11_sets = true := by decide +kernel
def tkX11_defended_82 : List mE := (82, .iload_n 2, 1, 2, [], 0, 0, zM0) ::
  (83, .ireturn, 1, 83, [], 0, 0, zM0) :: []
def tkX11_defended_72 : List mE := (72, .iload_n 3, 1, 3, [], 0, 0, zM0) ::
  (73, .ishl, 1, 73, [], 0, 0, zM0) ::
  (74, .ior, 1, 74, [], 0, 0, zM0) ::
  (75, .istore_n 2, 1, 2, [], 0, 0, zM0) ::
  (76, .iinc 3 1, 3, 3, [], 1, 0, zM0) ::
  (79, .goto (-75), 3, 4, [], 0, 0, zM0) :: tkX11_defended_82
def tkX11_defended_71 : List mE := (71, .iconst 0, 1, 71, [], 0, 0, zM0) :: tkX11_defended_72
def tkX11_defended_61 : List mE := (61, .iload_n 2, 1, 2, [], 0, 0, zM0) ::
  (62, .iload 4, 2, 4, [], 0, 0, zM0) ::
  (64, .ifCond .ne 7, 3, 71, [], 0, 0, zM0) ::
  (67, .iconst 1, 1, 67, [], 1, 0, zM0) ::
  (68, .goto 4, 3, 72, [], 0, 0, zM0) :: tkX11_defended_71
def tkX11_defended_52 : List mE := (52, .iand, 1, 52, [], 0, 0, zM0) ::
  (53, .istore 4, 2, 4, [], 0, 0, zM0) ::
  (55, .iinc 5 1, 3, 5, [], 1, 0, zM0) ::
  (58, .goto (-38), 3, 20, [], 0, 0, zM0) :: tkX11_defended_61
def tkX11_defended_51 : List mE := (51, .iconst (-1), 1, 51, [], (-1), 0, zM0) :: tkX11_defended_52
def tkX11_defended_20 : List mE := (20, .iload 5, 2, 5, [], 0, 0, zM0) ::
  (22, .bipush 10, 2, 22, [], 10, 0, zM0) ::
  (24, .if_icmp .ge 37, 3, 61, [], 0, 0, zM0) ::
  (27, .iload 4, 2, 4, [], 0, 0, zM0) ::
  (29, .iload_n 1, 1, 1, [], 0, 0, zM0) ::
  (30, .iload 5, 2, 5, [], 0, 0, zM0) ::
  (32, .ishr, 1, 32, [], 0, 0, zM0) ::
  (33, .iconst 1, 1, 33, [], 1, 0, zM0) ::
  (34, .iand, 1, 34, [], 0, 0, zM0) ::
  (35, .iconst 1, 1, 35, [], 1, 0, zM0) ::
  (36, .if_icmp .ne 15, 3, 51, [], 0, 0, zM0) ::
  (39, .aload_n 0, 1, 0, [], 0, 0, zM0) ::
  (40, .getfield 23, 3, 11, [8, 2, 5044], 0, 0, zM0) ::
  (43, .iload 5, 2, 5, [], 0, 0, zM0) ::
  (45, .iaload, 1, 0, [], 0, 0, zM0) ::
  (46, .iconst (-1), 1, 46, [], (-1), 0, zM0) ::
  (47, .ixor, 1, 47, [], 0, 0, zM0) ::
  (48, .goto 4, 3, 52, [], 0, 0, zM0) :: tkX11_defended_51
def tkX11_defended_4 : List mE := (4, .iload_n 3, 1, 3, [], 0, 0, zM0) ::
  (5, .bipush 10, 2, 5, [], 10, 0, zM0) ::
  (7, .if_icmp .ge 75, 3, 82, [], 0, 0, zM0) ::
  (10, .aload_n 0, 1, 0, [], 0, 0, zM0) ::
  (11, .iload_n 3, 1, 3, [], 0, 0, zM0) ::
  (12, .invokevirtual 113, 3, 11, [5228, 1, 1], 0, 0, kX11_foes) ::
  (15, .istore 4, 2, 4, [], 0, 0, zM0) ::
  (17, .iconst 0, 1, 17, [], 0, 0, zM0) ::
  (18, .istore 5, 2, 5, [], 0, 0, zM0) :: tkX11_defended_20
def tkX11_defended_0 : List mE := (0, .iconst 0, 1, 0, [], 0, 0, zM0) ::
  (1, .istore_n 2, 1, 2, [], 0, 0, zM0) ::
  (2, .iconst 0, 1, 2, [], 0, 0, zM0) ::
  (3, .istore_n 3, 1, 3, [], 0, 0, zM0) :: tkX11_defended_4
def tkX11_defended : List mE := tkX11_defended_0
theorem zkX11_defended : zat 0 tkX11_defended = tkX11_defended_0 ∧ zat 4 tkX11_defended = tkX11_defended_4 ∧ zat 20 tkX11_defended = tkX11_defended_20 ∧ zat 51 tkX11_defended = tkX11_defended_51 ∧ zat 52 tkX11_defended = tkX11_defended_52 ∧ zat 61 tkX11_defended = tkX11_defended_61 ∧ zat 71 tkX11_defended = tkX11_defended_71 ∧ zat 72 tkX11_defended = tkX11_defended_72 ∧ zat 82 tkX11_defended = tkX11_defended_82 := ⟨rfl, rfl, rfl, rfl, rfl, rfl, rfl, rfl, rfl⟩
theorem okX11_defended : zok kX11_defended.2.1 kX11_defended.2.2.1 kX11_defended.2.2.2.1 tkX11_defended = true := by decide +kernel
def tkX11_share_14 : List mE := (14, .aload_n 0, 1, 0, [], 0, 0, zM0) ::
  (15, .invokevirtual 307, 3, 11, [6156, 0, 0], 0, 0, kX11_labels) ::
  (18, .aload_n 0, 1, 0, [], 0, 0, zM0) ::
  (19, .getfield 295, 3, 11, [33, 0, 5069], 0, 0, zM0) ::
  (22, .invokestatic 235, 3, 0, [5232, 1, 1], 0, 0, kX11_bitsOf) ::
  (25, .i2l, 1, 25, [], 0, 0, zM0) ::
  (26, .ldc2_w 151, 3, 26, [6011], 0, 10, zM0) ::
  (29, .iload_n 1, 1, 1, [], 0, 0, zM0) ::
  (30, .invokestatic 325, 3, 0, [6191, 3, 1], 0, 0, kX11_lowest) ::
  (33, .lreturn, 1, 33, [], 0, 0, zM0) :: []
def tkX11_share_0 : List mE := (0, .iload_n 1, 1, 1, [], 0, 0, zM0) ::
  (1, .i2l, 1, 1, [], 0, 0, zM0) ::
  (2, .lconst 0, 1, 2, [], 0, 0, zM0) ::
  (3, .lconst 1, 1, 3, [], 0, 1, zM0) ::
  (4, .invokestatic 70, 3, 0, [5184, 3, 1], 0, 0, kX11_in) ::
  (7, .ifCond .ne 7, 3, 14, [], 0, 0, zM0) ::
  (10, .ldc2_w 323, 3, 10, [6190], 0, (-4611686018427387904), zM0) ::
  (13, .lreturn, 1, 13, [], 0, 0, zM0) :: tkX11_share_14
def tkX11_share : List mE := tkX11_share_0
theorem zkX11_share : zat 0 tkX11_share = tkX11_share_0 ∧ zat 14 tkX11_share = tkX11_share_14 := ⟨rfl, rfl⟩
theorem okX11_share : zok kX11_share.2.1 kX11_share.2.2.1 kX11_share.2.2.2.1 tkX11_share = true := by decide +kernel
def tkX11_lowest_47 : List mE := (47, .lreturn, 1, 47, [], 0, 0, zM0) :: []
def tkX11_lowest_43 : List mE := (43, .lload_n 2, 1, 2, [], 0, 0, zM0) ::
  (44, .lload 5, 2, 5, [], 0, 0, zM0) ::
  (46, .ldiv, 1, 46, [], 0, 0, zM0) :: tkX11_lowest_47
def tkX11_lowest_31 : List mE := (31, .iload 4, 2, 4, [], 0, 0, zM0) ::
  (33, .ifCond .ne 10, 3, 43, [], 0, 0, zM0) ::
  (36, .lload_n 0, 1, 0, [], 0, 0, zM0) ::
  (37, .lload 5, 2, 5, [], 0, 0, zM0) ::
  (39, .ldiv, 1, 39, [], 0, 0, zM0) ::
  (40, .goto 7, 3, 47, [], 0, 0, zM0) :: tkX11_lowest_43
def tkX11_lowest_6 : List mE := (6, .lload 7, 2, 7, [], 0, 0, zM0) ::
  (8, .lconst 0, 1, 8, [], 0, 0, zM0) ::
  (9, .lcmp, 1, 9, [], 0, 0, zM0) ::
  (10, .ifCond .eq 21, 3, 31, [], 0, 0, zM0) ::
  (13, .lload 5, 2, 5, [], 0, 0, zM0) ::
  (15, .lload 7, 2, 7, [], 0, 0, zM0) ::
  (17, .lrem, 1, 17, [], 0, 0, zM0) ::
  (18, .lstore 9, 2, 9, [], 0, 0, zM0) ::
  (20, .lload 7, 2, 7, [], 0, 0, zM0) ::
  (22, .lstore 5, 2, 5, [], 0, 0, zM0) ::
  (24, .lload 9, 2, 9, [], 0, 0, zM0) ::
  (26, .lstore 7, 2, 7, [], 0, 0, zM0) ::
  (28, .goto (-22), 3, 6, [], 0, 0, zM0) :: tkX11_lowest_31
def tkX11_lowest_0 : List mE := (0, .lload_n 0, 1, 0, [], 0, 0, zM0) ::
  (1, .lstore 5, 2, 5, [], 0, 0, zM0) ::
  (3, .lload_n 2, 1, 2, [], 0, 0, zM0) ::
  (4, .lstore 7, 2, 7, [], 0, 0, zM0) :: tkX11_lowest_6
def tkX11_lowest : List mE := tkX11_lowest_0
theorem zkX11_lowest : zat 0 tkX11_lowest = tkX11_lowest_0 ∧ zat 6 tkX11_lowest = tkX11_lowest_6 ∧ zat 31 tkX11_lowest = tkX11_lowest_31 ∧ zat 43 tkX11_lowest = tkX11_lowest_43 ∧ zat 47 tkX11_lowest = tkX11_lowest_47 := ⟨rfl, rfl, rfl, rfl, rfl⟩
theorem okX11_lowest : zok kX11_lowest.2.1 kX11_lowest.2.2.1 kX11_lowest.2.2.2.1 tkX11_lowest = true := by decide +kernel
def tkX11_best_120 : List mE := (120, .ireturn, 1, 120, [], 0, 0, zM0) :: []
def tkX11_best_118 : List mE := (118, .iload 4, 2, 4, [], 0, 0, zM0) :: tkX11_best_120
def tkX11_best_108 : List mE := (108, .iload_n 2, 1, 2, [], 0, 0, zM0) ::
  (109, .iconst 2, 1, 109, [], 2, 0, zM0) ::
  (110, .irem, 1, 110, [], 0, 0, zM0) ::
  (111, .ifCond .ne 7, 3, 118, [], 0, 0, zM0) ::
  (114, .iload_n 3, 1, 3, [], 0, 0, zM0) ::
  (115, .goto 5, 3, 120, [], 0, 0, zM0) :: tkX11_best_118
def tkX11_best_102 : List mE := (102, .iinc 6 1, 3, 6, [], 1, 0, zM0) ::
  (105, .goto (-58), 3, 47, [], 0, 0, zM0) :: tkX11_best_108
def tkX11_best_86 : List mE := (86, .istore 7, 2, 7, [], 0, 0, zM0) ::
  (88, .iload 7, 2, 7, [], 0, 0, zM0) ::
  (90, .iload 4, 2, 4, [], 0, 0, zM0) ::
  (92, .if_icmp .le 10, 3, 102, [], 0, 0, zM0) ::
  (95, .iload 6, 2, 6, [], 0, 0, zM0) ::
  (97, .istore_n 3, 1, 3, [], 0, 0, zM0) ::
  (98, .iload 7, 2, 7, [], 0, 0, zM0) ::
  (100, .istore 4, 2, 4, [], 0, 0, zM0) :: tkX11_best_102
def tkX11_best_79 : List mE := (79, .aload_n 0, 1, 0, [], 0, 0, zM0) ::
  (80, .iload_n 1, 1, 1, [], 0, 0, zM0) ::
  (81, .iload 6, 2, 6, [], 0, 0, zM0) ::
  (83, .invokevirtual 329, 3, 11, [6198, 2, 1], 0, 0, kX11_agreed) :: tkX11_best_86
def tkX11_best_69 : List mE := (69, .iload 6, 2, 6, [], 0, 0, zM0) ::
  (71, .iload_n 1, 1, 1, [], 0, 0, zM0) ::
  (72, .if_icmp .ne 7, 3, 79, [], 0, 0, zM0) ::
  (75, .iconst (-1), 1, 75, [], (-1), 0, zM0) ::
  (76, .goto 10, 3, 86, [], 0, 0, zM0) :: tkX11_best_79
def tkX11_best_47 : List mE := (47, .iload 6, 2, 6, [], 0, 0, zM0) ::
  (49, .iload 5, 2, 5, [], 0, 0, zM0) ::
  (51, .if_icmp .ge 57, 3, 108, [], 0, 0, zM0) ::
  (54, .iload_n 2, 1, 2, [], 0, 0, zM0) ::
  (55, .iconst 2, 1, 55, [], 2, 0, zM0) ::
  (56, .if_icmp .ge 13, 3, 69, [], 0, 0, zM0) ::
  (59, .aload_n 0, 1, 0, [], 0, 0, zM0) ::
  (60, .iload_n 1, 1, 1, [], 0, 0, zM0) ::
  (61, .iload 6, 2, 6, [], 0, 0, zM0) ::
  (63, .invokevirtual 254, 3, 11, [6096, 2, 1], 0, 0, kX11_laysOf) ::
  (66, .goto 20, 3, 86, [], 0, 0, zM0) :: tkX11_best_69
def tkX11_best_42 : List mE := (42, .istore 5, 2, 5, [], 0, 0, zM0) ::
  (44, .iconst 0, 1, 44, [], 0, 0, zM0) ::
  (45, .istore 6, 2, 6, [], 0, 0, zM0) :: tkX11_best_47
def tkX11_best_38 : List mE := (38, .aload_n 0, 1, 0, [], 0, 0, zM0) ::
  (39, .getfield 67, 3, 11, [11, 0, 5047], 0, 0, zM0) :: tkX11_best_42
def tkX11_best_23 : List mE := (23, .iconst (-1), 1, 23, [], (-1), 0, zM0) ::
  (24, .istore_n 3, 1, 3, [], 0, 0, zM0) ::
  (25, .iconst (-1), 1, 25, [], (-1), 0, zM0) ::
  (26, .istore 4, 2, 4, [], 0, 0, zM0) ::
  (28, .iload_n 2, 1, 2, [], 0, 0, zM0) ::
  (29, .iconst 2, 1, 29, [], 2, 0, zM0) ::
  (30, .if_icmp .ge 8, 3, 38, [], 0, 0, zM0) ::
  (33, .bipush 10, 2, 33, [], 10, 0, zM0) ::
  (35, .goto 7, 3, 42, [], 0, 0, zM0) :: tkX11_best_38
def tkX11_best_20 : List mE := (20, .bipush (-2), 2, 20, [], (-2), 0, zM0) ::
  (22, .ireturn, 1, 22, [], 0, 0, zM0) :: tkX11_best_23
def tkX11_best_0 : List mE := (0, .aload_n 0, 1, 0, [], 0, 0, zM0) ::
  (1, .iload_n 1, 1, 1, [], 0, 0, zM0) ::
  (2, .invokevirtual 82, 3, 11, [5192, 1, 1], 0, 0, kX11_isHen) ::
  (5, .ifCond .eq 15, 3, 20, [], 0, 0, zM0) ::
  (8, .iload_n 2, 1, 2, [], 0, 0, zM0) ::
  (9, .i2l, 1, 9, [], 0, 0, zM0) ::
  (10, .lconst 0, 1, 10, [], 0, 0, zM0) ::
  (11, .ldc2_w 80, 3, 11, [5191], 0, 3, zM0) ::
  (14, .invokestatic 70, 3, 0, [5184, 3, 1], 0, 0, kX11_in) ::
  (17, .ifCond .ne 6, 3, 23, [], 0, 0, zM0) :: tkX11_best_20
def tkX11_best : List mE := tkX11_best_0
set_option maxRecDepth 100000 in
theorem zkX11_best : zat 0 tkX11_best = tkX11_best_0 ∧ zat 20 tkX11_best = tkX11_best_20 ∧ zat 23 tkX11_best = tkX11_best_23 ∧ zat 38 tkX11_best = tkX11_best_38 ∧ zat 42 tkX11_best = tkX11_best_42 ∧ zat 47 tkX11_best = tkX11_best_47 ∧ zat 69 tkX11_best = tkX11_best_69 ∧ zat 79 tkX11_best = tkX11_best_79 ∧ zat 86 tkX11_best = tkX11_best_86 ∧ zat 102 tkX11_best = tkX11_best_102 ∧ zat 108 tkX11_best = tkX11_best_108 ∧ zat 118 tkX11_best = tkX11_best_118 ∧ zat 120 tkX11_best = tkX11_best_120 := ⟨rfl, rfl, rfl, rfl, rfl, rfl, rfl, rfl, rfl, rfl, rfl, rfl, rfl⟩
theorem okX11_best : zok kX11_best.2.1 kX11_best.2.2.1 kX11_best.2.2.2.1 tkX11_best = true := by decide +kernel
def tkX11_agreed_0 : List mE := (0, .bipush 10, 2, 0, [], 10, 0, zM0) ::
  (2, .aload_n 0, 1, 0, [], 0, 0, zM0) ::
  (3, .iload_n 1, 1, 1, [], 0, 0, zM0) ::
  (4, .invokevirtual 105, 3, 11, [5212, 1, 1], 0, 0, kX11_holdsOf) ::
  (7, .aload_n 0, 1, 0, [], 0, 0, zM0) ::
  (8, .iload_n 2, 1, 2, [], 0, 0, zM0) ::
  (9, .invokevirtual 105, 3, 11, [5212, 1, 1], 0, 0, kX11_holdsOf) ::
  (12, .ixor, 1, 12, [], 0, 0, zM0) ::
  (13, .invokestatic 235, 3, 0, [5232, 1, 1], 0, 0, kX11_bitsOf) ::
  (16, .isub, 1, 16, [], 0, 0, zM0) ::
  (17, .ireturn, 1, 17, [], 0, 0, zM0) :: []
def tkX11_agreed : List mE := tkX11_agreed_0
theorem zkX11_agreed : zat 0 tkX11_agreed = tkX11_agreed_0 := rfl
theorem okX11_agreed : zok kX11_agreed.2.1 kX11_agreed.2.2.1 kX11_agreed.2.2.2.1 tkX11_agreed = true := by decide +kernel
def tkX11_three_66 : List mE := (66, .ireturn, 1, 66, [], 0, 0, zM0) :: []
def tkX11_three_62 : List mE := (62, .aload_n 0, 1, 0, [], 0, 0, zM0) ::
  (63, .getfield 335, 3, 11, [36, 0, 5072], 0, 0, zM0) :: tkX11_three_66
def tkX11_three_33 : List mE := (33, .aload_n 0, 1, 0, [], 0, 0, zM0) ::
  (34, .iconst (-1), 1, 34, [], (-1), 0, zM0) ::
  (35, .putfield 332, 3, 11, [35, 0, 5071], 0, 0, zM0) ::
  (38, .aload_n 0, 1, 0, [], 0, 0, zM0) ::
  (39, .iconst 0, 1, 39, [], 0, 0, zM0) ::
  (40, .putfield 335, 3, 11, [36, 0, 5072], 0, 0, zM0) ::
  (43, .aload_n 0, 1, 0, [], 0, 0, zM0) ::
  (44, .iload_n 1, 1, 1, [], 0, 0, zM0) ::
  (45, .iload_n 2, 1, 2, [], 0, 0, zM0) ::
  (46, .iconst 0, 1, 46, [], 0, 0, zM0) ::
  (47, .iconst 0, 1, 47, [], 0, 0, zM0) ::
  (48, .invokevirtual 338, 3, 11, [6206, 4, 0], 0, 0, kX11_tries) ::
  (51, .iload_n 3, 1, 3, [], 0, 0, zM0) ::
  (52, .ifCond .ne 10, 3, 62, [], 0, 0, zM0) ::
  (55, .aload_n 0, 1, 0, [], 0, 0, zM0) ::
  (56, .getfield 332, 3, 11, [35, 0, 5071], 0, 0, zM0) ::
  (59, .goto 7, 3, 66, [], 0, 0, zM0) :: tkX11_three_62
def tkX11_three_30 : List mE := (30, .bipush (-2), 2, 30, [], (-2), 0, zM0) ::
  (32, .ireturn, 1, 32, [], 0, 0, zM0) :: tkX11_three_33
def tkX11_three_0 : List mE := (0, .aload_n 0, 1, 0, [], 0, 0, zM0) ::
  (1, .iload_n 1, 1, 1, [], 0, 0, zM0) ::
  (2, .invokevirtual 82, 3, 11, [5192, 1, 1], 0, 0, kX11_isHen) ::
  (5, .ifCond .eq 25, 3, 30, [], 0, 0, zM0) ::
  (8, .iload_n 2, 1, 2, [], 0, 0, zM0) ::
  (9, .i2l, 1, 9, [], 0, 0, zM0) ::
  (10, .lconst 0, 1, 10, [], 0, 0, zM0) ::
  (11, .ldc2_w 80, 3, 11, [5191], 0, 3, zM0) ::
  (14, .invokestatic 70, 3, 0, [5184, 3, 1], 0, 0, kX11_in) ::
  (17, .ifCond .eq 13, 3, 30, [], 0, 0, zM0) ::
  (20, .iload_n 3, 1, 3, [], 0, 0, zM0) ::
  (21, .i2l, 1, 21, [], 0, 0, zM0) ::
  (22, .lconst 0, 1, 22, [], 0, 0, zM0) ::
  (23, .lconst 1, 1, 23, [], 0, 1, zM0) ::
  (24, .invokestatic 70, 3, 0, [5184, 3, 1], 0, 0, kX11_in) ::
  (27, .ifCond .ne 6, 3, 33, [], 0, 0, zM0) :: tkX11_three_30
def tkX11_three : List mE := tkX11_three_0
theorem zkX11_three : zat 0 tkX11_three = tkX11_three_0 ∧ zat 30 tkX11_three = tkX11_three_30 ∧ zat 33 tkX11_three = tkX11_three_33 ∧ zat 62 tkX11_three = tkX11_three_62 ∧ zat 66 tkX11_three = tkX11_three_66 := ⟨rfl, rfl, rfl, rfl, rfl⟩
theorem okX11_three : zok kX11_three.2.1 kX11_three.2.2.1 kX11_three.2.2.2.1 tkX11_three = true := by decide +kernel
def tkX11_tries_128 : List mE := (128, .return_, 1, 128, [], 0, 0, zM0) :: []
def tkX11_tries_60 : List mE := (60, .iload 7, 2, 7, [], 0, 0, zM0) ::
  (62, .bipush 10, 2, 62, [], 10, 0, zM0) ::
  (64, .if_icmp .ge 64, 3, 128, [], 0, 0, zM0) ::
  (67, .aload_n 0, 1, 0, [], 0, 0, zM0) ::
  (68, .iload_n 1, 1, 1, [], 0, 0, zM0) ::
  (69, .iload 7, 2, 7, [], 0, 0, zM0) ::
  (71, .invokevirtual 263, 3, 11, [6108, 2, 1], 0, 0, kX11_puts) ::
  (74, .istore 8, 2, 8, [], 0, 0, zM0) ::
  (76, .aload_n 0, 1, 0, [], 0, 0, zM0) ::
  (77, .iload_n 1, 1, 1, [], 0, 0, zM0) ::
  (78, .iload_n 2, 1, 2, [], 0, 0, zM0) ::
  (79, .iconst 1, 1, 79, [], 1, 0, zM0) ::
  (80, .isub, 1, 80, [], 0, 0, zM0) ::
  (81, .bipush 11, 2, 81, [], 11, 0, zM0) ::
  (83, .iload_n 3, 1, 3, [], 0, 0, zM0) ::
  (84, .imul, 1, 84, [], 0, 0, zM0) ::
  (85, .iload 7, 2, 7, [], 0, 0, zM0) ::
  (87, .iadd, 1, 87, [], 0, 0, zM0) ::
  (88, .iconst 1, 1, 88, [], 1, 0, zM0) ::
  (89, .iadd, 1, 89, [], 0, 0, zM0) ::
  (90, .iload 4, 2, 4, [], 0, 0, zM0) ::
  (92, .iload 8, 2, 8, [], 0, 0, zM0) ::
  (94, .iadd, 1, 94, [], 0, 0, zM0) ::
  (95, .invokevirtual 338, 3, 11, [6206, 4, 0], 0, 0, kX11_tries) ::
  (98, .aload_n 0, 1, 0, [], 0, 0, zM0) ::
  (99, .getfield 29, 3, 11, [10, 2, 5046], 0, 0, zM0) ::
  (102, .iconst 3, 1, 102, [], 3, 0, zM0) ::
  (103, .iload_n 1, 1, 1, [], 0, 0, zM0) ::
  (104, .imul, 1, 104, [], 0, 0, zM0) ::
  (105, .iconst 1, 1, 105, [], 1, 0, zM0) ::
  (106, .iadd, 1, 106, [], 0, 0, zM0) ::
  (107, .iload 5, 2, 5, [], 0, 0, zM0) ::
  (109, .iastore, 1, 109, [], 0, 0, zM0) ::
  (110, .aload_n 0, 1, 0, [], 0, 0, zM0) ::
  (111, .getfield 29, 3, 11, [10, 2, 5046], 0, 0, zM0) ::
  (114, .iconst 3, 1, 114, [], 3, 0, zM0) ::
  (115, .iload_n 1, 1, 1, [], 0, 0, zM0) ::
  (116, .imul, 1, 116, [], 0, 0, zM0) ::
  (117, .iconst 2, 1, 117, [], 2, 0, zM0) ::
  (118, .iadd, 1, 118, [], 0, 0, zM0) ::
  (119, .iload 6, 2, 6, [], 0, 0, zM0) ::
  (121, .iastore, 1, 121, [], 0, 0, zM0) ::
  (122, .iinc 7 1, 3, 7, [], 1, 0, zM0) ::
  (125, .goto (-65), 3, 60, [], 0, 0, zM0) :: tkX11_tries_128
def tkX11_tries_33 : List mE := (33, .aload_n 0, 1, 0, [], 0, 0, zM0) ::
  (34, .getfield 29, 3, 11, [10, 2, 5046], 0, 0, zM0) ::
  (37, .iconst 3, 1, 37, [], 3, 0, zM0) ::
  (38, .iload_n 1, 1, 1, [], 0, 0, zM0) ::
  (39, .imul, 1, 39, [], 0, 0, zM0) ::
  (40, .iconst 1, 1, 40, [], 1, 0, zM0) ::
  (41, .iadd, 1, 41, [], 0, 0, zM0) ::
  (42, .iaload, 1, 0, [], 0, 0, zM0) ::
  (43, .istore 5, 2, 5, [], 0, 0, zM0) ::
  (45, .aload_n 0, 1, 0, [], 0, 0, zM0) ::
  (46, .getfield 29, 3, 11, [10, 2, 5046], 0, 0, zM0) ::
  (49, .iconst 3, 1, 49, [], 3, 0, zM0) ::
  (50, .iload_n 1, 1, 1, [], 0, 0, zM0) ::
  (51, .imul, 1, 51, [], 0, 0, zM0) ::
  (52, .iconst 2, 1, 52, [], 2, 0, zM0) ::
  (53, .iadd, 1, 53, [], 0, 0, zM0) ::
  (54, .iaload, 1, 0, [], 0, 0, zM0) ::
  (55, .istore 6, 2, 6, [], 0, 0, zM0) ::
  (57, .iconst 0, 1, 57, [], 0, 0, zM0) ::
  (58, .istore 7, 2, 7, [], 0, 0, zM0) :: tkX11_tries_60
def tkX11_tries_32 : List mE := (32, .return_, 1, 32, [], 0, 0, zM0) :: tkX11_tries_33
def tkX11_tries_21 : List mE := (21, .aload_n 0, 1, 0, [], 0, 0, zM0) ::
  (22, .iload_n 3, 1, 3, [], 0, 0, zM0) ::
  (23, .putfield 332, 3, 11, [35, 0, 5071], 0, 0, zM0) ::
  (26, .aload_n 0, 1, 0, [], 0, 0, zM0) ::
  (27, .iload 4, 2, 4, [], 0, 0, zM0) ::
  (29, .putfield 335, 3, 11, [36, 0, 5072], 0, 0, zM0) :: tkX11_tries_32
def tkX11_tries_0 : List mE := (0, .iload_n 2, 1, 2, [], 0, 0, zM0) ::
  (1, .ifCond .ne 32, 3, 33, [], 0, 0, zM0) ::
  (4, .aload_n 0, 1, 0, [], 0, 0, zM0) ::
  (5, .getfield 332, 3, 11, [35, 0, 5071], 0, 0, zM0) ::
  (8, .iconst (-1), 1, 8, [], (-1), 0, zM0) ::
  (9, .if_icmp .eq 12, 3, 21, [], 0, 0, zM0) ::
  (12, .iload 4, 2, 4, [], 0, 0, zM0) ::
  (14, .aload_n 0, 1, 0, [], 0, 0, zM0) ::
  (15, .getfield 335, 3, 11, [36, 0, 5072], 0, 0, zM0) ::
  (18, .if_icmp .le 14, 3, 32, [], 0, 0, zM0) :: tkX11_tries_21
def tkX11_tries : List mE := tkX11_tries_0
theorem zkX11_tries : zat 0 tkX11_tries = tkX11_tries_0 ∧ zat 21 tkX11_tries = tkX11_tries_21 ∧ zat 32 tkX11_tries = tkX11_tries_32 ∧ zat 33 tkX11_tries = tkX11_tries_33 ∧ zat 60 tkX11_tries = tkX11_tries_60 ∧ zat 128 tkX11_tries = tkX11_tries_128 := ⟨rfl, rfl, rfl, rfl, rfl, rfl⟩
theorem okX11_tries : zok kX11_tries.2.1 kX11_tries.2.2.1 kX11_tries.2.2.2.1 tkX11_tries = true := by decide +kernel
def tkX11_whom_76 : List mE := (76, .ireturn, 1, 76, [], 0, 0, zM0) :: []
def tkX11_whom_74 : List mE := (74, .iload 4, 2, 4, [], 0, 0, zM0) :: tkX11_whom_76
def tkX11_whom_66 : List mE := (66, .iload_n 2, 1, 2, [], 0, 0, zM0) ::
  (67, .ifCond .ne 7, 3, 74, [], 0, 0, zM0) ::
  (70, .iload_n 3, 1, 3, [], 0, 0, zM0) ::
  (71, .goto 5, 3, 76, [], 0, 0, zM0) :: tkX11_whom_74
def tkX11_whom_60 : List mE := (60, .iinc 5 1, 3, 5, [], 1, 0, zM0) ::
  (63, .goto (-35), 3, 28, [], 0, 0, zM0) :: tkX11_whom_66
def tkX11_whom_28 : List mE := (28, .iload 5, 2, 5, [], 0, 0, zM0) ::
  (30, .aload_n 0, 1, 0, [], 0, 0, zM0) ::
  (31, .getfield 67, 3, 11, [11, 0, 5047], 0, 0, zM0) ::
  (34, .if_icmp .ge 32, 3, 66, [], 0, 0, zM0) ::
  (37, .aload_n 0, 1, 0, [], 0, 0, zM0) ::
  (38, .iload 5, 2, 5, [], 0, 0, zM0) ::
  (40, .iload_n 1, 1, 1, [], 0, 0, zM0) ::
  (41, .invokevirtual 254, 3, 11, [6096, 2, 1], 0, 0, kX11_laysOf) ::
  (44, .istore 6, 2, 6, [], 0, 0, zM0) ::
  (46, .iload 6, 2, 6, [], 0, 0, zM0) ::
  (48, .iload 4, 2, 4, [], 0, 0, zM0) ::
  (50, .if_icmp .le 10, 3, 60, [], 0, 0, zM0) ::
  (53, .iload 5, 2, 5, [], 0, 0, zM0) ::
  (55, .istore_n 3, 1, 3, [], 0, 0, zM0) ::
  (56, .iload 6, 2, 6, [], 0, 0, zM0) ::
  (58, .istore 4, 2, 4, [], 0, 0, zM0) :: tkX11_whom_60
def tkX11_whom_20 : List mE := (20, .iconst (-1), 1, 20, [], (-1), 0, zM0) ::
  (21, .istore_n 3, 1, 3, [], 0, 0, zM0) ::
  (22, .iconst (-1), 1, 22, [], (-1), 0, zM0) ::
  (23, .istore 4, 2, 4, [], 0, 0, zM0) ::
  (25, .iconst 0, 1, 25, [], 0, 0, zM0) ::
  (26, .istore 5, 2, 5, [], 0, 0, zM0) :: tkX11_whom_28
def tkX11_whom_17 : List mE := (17, .bipush (-2), 2, 17, [], (-2), 0, zM0) ::
  (19, .ireturn, 1, 19, [], 0, 0, zM0) :: tkX11_whom_20
def tkX11_whom_0 : List mE := (0, .iload_n 1, 1, 1, [], 0, 0, zM0) ::
  (1, .invokestatic 76, 3, 0, [5180, 1, 1], 0, 0, kX11_isPoint) ::
  (4, .ifCond .eq 13, 3, 17, [], 0, 0, zM0) ::
  (7, .iload_n 2, 1, 2, [], 0, 0, zM0) ::
  (8, .i2l, 1, 8, [], 0, 0, zM0) ::
  (9, .lconst 0, 1, 9, [], 0, 0, zM0) ::
  (10, .lconst 1, 1, 10, [], 0, 1, zM0) ::
  (11, .invokestatic 70, 3, 0, [5184, 3, 1], 0, 0, kX11_in) ::
  (14, .ifCond .ne 6, 3, 20, [], 0, 0, zM0) :: tkX11_whom_17
def tkX11_whom : List mE := tkX11_whom_0
theorem zkX11_whom : zat 0 tkX11_whom = tkX11_whom_0 ∧ zat 17 tkX11_whom = tkX11_whom_17 ∧ zat 20 tkX11_whom = tkX11_whom_20 ∧ zat 28 tkX11_whom = tkX11_whom_28 ∧ zat 60 tkX11_whom = tkX11_whom_60 ∧ zat 66 tkX11_whom = tkX11_whom_66 ∧ zat 74 tkX11_whom = tkX11_whom_74 ∧ zat 76 tkX11_whom = tkX11_whom_76 := ⟨rfl, rfl, rfl, rfl, rfl, rfl, rfl, rfl⟩
theorem okX11_whom : zok kX11_whom.2.1 kX11_whom.2.2.1 kX11_whom.2.2.2.1 tkX11_whom = true := by decide +kernel
def tkX11_win_43 : List mE := (43, .iconst (-1), 1, 43, [], (-1), 0, zM0) ::
  (44, .ireturn, 1, 44, [], 0, 0, zM0) :: []
def tkX11_win_37 : List mE := (37, .iinc 3 1, 3, 3, [], 1, 0, zM0) ::
  (40, .goto (-20), 3, 20, [], 0, 0, zM0) :: tkX11_win_43
def tkX11_win_20 : List mE := (20, .iload_n 3, 1, 3, [], 0, 0, zM0) ::
  (21, .iconst 4, 1, 21, [], 4, 0, zM0) ::
  (22, .if_icmp .ge 21, 3, 43, [], 0, 0, zM0) ::
  (25, .aload_n 0, 1, 0, [], 0, 0, zM0) ::
  (26, .iload_n 1, 1, 1, [], 0, 0, zM0) ::
  (27, .iload_n 2, 1, 2, [], 0, 0, zM0) ::
  (28, .iload_n 3, 1, 3, [], 0, 0, zM0) ::
  (29, .invokevirtual 342, 3, 11, [6218, 3, 1], 0, 0, kX11_comesTo) ::
  (32, .ifCond .eq 5, 3, 37, [], 0, 0, zM0) ::
  (35, .iload_n 3, 1, 3, [], 0, 0, zM0) ::
  (36, .ireturn, 1, 36, [], 0, 0, zM0) :: tkX11_win_37
def tkX11_win_18 : List mE := (18, .iconst 0, 1, 18, [], 0, 0, zM0) ::
  (19, .istore_n 3, 1, 3, [], 0, 0, zM0) :: tkX11_win_20
def tkX11_win_15 : List mE := (15, .bipush (-2), 2, 15, [], (-2), 0, zM0) ::
  (17, .ireturn, 1, 17, [], 0, 0, zM0) :: tkX11_win_18
def tkX11_win_0 : List mE := (0, .aload_n 0, 1, 0, [], 0, 0, zM0) ::
  (1, .iload_n 1, 1, 1, [], 0, 0, zM0) ::
  (2, .invokevirtual 82, 3, 11, [5192, 1, 1], 0, 0, kX11_isHen) ::
  (5, .ifCond .eq 10, 3, 15, [], 0, 0, zM0) ::
  (8, .iload_n 2, 1, 2, [], 0, 0, zM0) ::
  (9, .invokestatic 76, 3, 0, [5180, 1, 1], 0, 0, kX11_isPoint) ::
  (12, .ifCond .ne 6, 3, 18, [], 0, 0, zM0) :: tkX11_win_15
def tkX11_win : List mE := tkX11_win_0
theorem zkX11_win : zat 0 tkX11_win = tkX11_win_0 ∧ zat 15 tkX11_win = tkX11_win_15 ∧ zat 18 tkX11_win = tkX11_win_18 ∧ zat 20 tkX11_win = tkX11_win_20 ∧ zat 37 tkX11_win = tkX11_win_37 ∧ zat 43 tkX11_win = tkX11_win_43 := ⟨rfl, rfl, rfl, rfl, rfl, rfl⟩
theorem okX11_win : zok kX11_win.2.1 kX11_win.2.2.1 kX11_win.2.2.2.1 tkX11_win = true := by decide +kernel
def tkX11_comesTo_102 : List mE := (102, .iload 6, 2, 6, [], 0, 0, zM0) ::
  (104, .ireturn, 1, 104, [], 0, 0, zM0) :: []
def tkX11_comesTo_41 : List mE := (41, .iload 7, 2, 7, [], 0, 0, zM0) ::
  (43, .bipush 10, 2, 43, [], 10, 0, zM0) ::
  (45, .if_icmp .ge 57, 3, 102, [], 0, 0, zM0) ::
  (48, .iload 6, 2, 6, [], 0, 0, zM0) ::
  (50, .ifCond .ne 52, 3, 102, [], 0, 0, zM0) ::
  (53, .aload_n 0, 1, 0, [], 0, 0, zM0) ::
  (54, .iload_n 1, 1, 1, [], 0, 0, zM0) ::
  (55, .iload 7, 2, 7, [], 0, 0, zM0) ::
  (57, .invokevirtual 263, 3, 11, [6108, 2, 1], 0, 0, kX11_puts) ::
  (60, .pop, 1, 60, [], 0, 0, zM0) ::
  (61, .aload_n 0, 1, 0, [], 0, 0, zM0) ::
  (62, .iload_n 1, 1, 1, [], 0, 0, zM0) ::
  (63, .iload_n 2, 1, 2, [], 0, 0, zM0) ::
  (64, .iload_n 3, 1, 3, [], 0, 0, zM0) ::
  (65, .iconst 1, 1, 65, [], 1, 0, zM0) ::
  (66, .isub, 1, 66, [], 0, 0, zM0) ::
  (67, .invokevirtual 342, 3, 11, [6218, 3, 1], 0, 0, kX11_comesTo) ::
  (70, .istore 6, 2, 6, [], 0, 0, zM0) ::
  (72, .aload_n 0, 1, 0, [], 0, 0, zM0) ::
  (73, .getfield 29, 3, 11, [10, 2, 5046], 0, 0, zM0) ::
  (76, .iconst 3, 1, 76, [], 3, 0, zM0) ::
  (77, .iload_n 1, 1, 1, [], 0, 0, zM0) ::
  (78, .imul, 1, 78, [], 0, 0, zM0) ::
  (79, .iconst 1, 1, 79, [], 1, 0, zM0) ::
  (80, .iadd, 1, 80, [], 0, 0, zM0) ::
  (81, .iload 4, 2, 4, [], 0, 0, zM0) ::
  (83, .iastore, 1, 83, [], 0, 0, zM0) ::
  (84, .aload_n 0, 1, 0, [], 0, 0, zM0) ::
  (85, .getfield 29, 3, 11, [10, 2, 5046], 0, 0, zM0) ::
  (88, .iconst 3, 1, 88, [], 3, 0, zM0) ::
  (89, .iload_n 1, 1, 1, [], 0, 0, zM0) ::
  (90, .imul, 1, 90, [], 0, 0, zM0) ::
  (91, .iconst 2, 1, 91, [], 2, 0, zM0) ::
  (92, .iadd, 1, 92, [], 0, 0, zM0) ::
  (93, .iload 5, 2, 5, [], 0, 0, zM0) ::
  (95, .iastore, 1, 95, [], 0, 0, zM0) ::
  (96, .iinc 7 1, 3, 7, [], 1, 0, zM0) ::
  (99, .goto (-58), 3, 41, [], 0, 0, zM0) :: tkX11_comesTo_102
def tkX11_comesTo_11 : List mE := (11, .aload_n 0, 1, 0, [], 0, 0, zM0) ::
  (12, .getfield 29, 3, 11, [10, 2, 5046], 0, 0, zM0) ::
  (15, .iconst 3, 1, 15, [], 3, 0, zM0) ::
  (16, .iload_n 1, 1, 1, [], 0, 0, zM0) ::
  (17, .imul, 1, 17, [], 0, 0, zM0) ::
  (18, .iconst 1, 1, 18, [], 1, 0, zM0) ::
  (19, .iadd, 1, 19, [], 0, 0, zM0) ::
  (20, .iaload, 1, 0, [], 0, 0, zM0) ::
  (21, .istore 4, 2, 4, [], 0, 0, zM0) ::
  (23, .aload_n 0, 1, 0, [], 0, 0, zM0) ::
  (24, .getfield 29, 3, 11, [10, 2, 5046], 0, 0, zM0) ::
  (27, .iconst 3, 1, 27, [], 3, 0, zM0) ::
  (28, .iload_n 1, 1, 1, [], 0, 0, zM0) ::
  (29, .imul, 1, 29, [], 0, 0, zM0) ::
  (30, .iconst 2, 1, 30, [], 2, 0, zM0) ::
  (31, .iadd, 1, 31, [], 0, 0, zM0) ::
  (32, .iaload, 1, 0, [], 0, 0, zM0) ::
  (33, .istore 5, 2, 5, [], 0, 0, zM0) ::
  (35, .iconst 0, 1, 35, [], 0, 0, zM0) ::
  (36, .istore 6, 2, 6, [], 0, 0, zM0) ::
  (38, .iconst 0, 1, 38, [], 0, 0, zM0) ::
  (39, .istore 7, 2, 7, [], 0, 0, zM0) :: tkX11_comesTo_41
def tkX11_comesTo_0 : List mE := (0, .iload_n 3, 1, 3, [], 0, 0, zM0) ::
  (1, .ifCond .ne 10, 3, 11, [], 0, 0, zM0) ::
  (4, .aload_n 0, 1, 0, [], 0, 0, zM0) ::
  (5, .iload_n 1, 1, 1, [], 0, 0, zM0) ::
  (6, .iload_n 2, 1, 2, [], 0, 0, zM0) ::
  (7, .invokevirtual 248, 3, 11, [5208, 2, 1], 0, 0, kX11_holdsIt) ::
  (10, .ireturn, 1, 10, [], 0, 0, zM0) :: tkX11_comesTo_11
def tkX11_comesTo : List mE := tkX11_comesTo_0
theorem zkX11_comesTo : zat 0 tkX11_comesTo = tkX11_comesTo_0 ∧ zat 11 tkX11_comesTo = tkX11_comesTo_11 ∧ zat 41 tkX11_comesTo = tkX11_comesTo_41 ∧ zat 102 tkX11_comesTo = tkX11_comesTo_102 := ⟨rfl, rfl, rfl, rfl⟩
theorem okX11_comesTo : zok kX11_comesTo.2.1 kX11_comesTo.2.2.1 kX11_comesTo.2.2.2.1 tkX11_comesTo = true := by decide +kernel
def tkX11_agree_32 : List mE := (32, .ireturn, 1, 32, [], 0, 0, zM0) :: []
def tkX11_agree_30 : List mE := (30, .bipush (-2), 2, 30, [], (-2), 0, zM0) :: tkX11_agree_32
def tkX11_agree_0 : List mE := (0, .aload_n 0, 1, 0, [], 0, 0, zM0) ::
  (1, .iload_n 1, 1, 1, [], 0, 0, zM0) ::
  (2, .invokevirtual 82, 3, 11, [5192, 1, 1], 0, 0, kX11_isHen) ::
  (5, .ifCond .eq 25, 3, 30, [], 0, 0, zM0) ::
  (8, .aload_n 0, 1, 0, [], 0, 0, zM0) ::
  (9, .iload_n 2, 1, 2, [], 0, 0, zM0) ::
  (10, .invokevirtual 82, 3, 11, [5192, 1, 1], 0, 0, kX11_isHen) ::
  (13, .ifCond .eq 17, 3, 30, [], 0, 0, zM0) ::
  (16, .iload_n 1, 1, 1, [], 0, 0, zM0) ::
  (17, .iload_n 2, 1, 2, [], 0, 0, zM0) ::
  (18, .if_icmp .eq 12, 3, 30, [], 0, 0, zM0) ::
  (21, .aload_n 0, 1, 0, [], 0, 0, zM0) ::
  (22, .iload_n 1, 1, 1, [], 0, 0, zM0) ::
  (23, .iload_n 2, 1, 2, [], 0, 0, zM0) ::
  (24, .invokevirtual 329, 3, 11, [6198, 2, 1], 0, 0, kX11_agreed) ::
  (27, .goto 5, 3, 32, [], 0, 0, zM0) :: tkX11_agree_30
def tkX11_agree : List mE := tkX11_agree_0
theorem zkX11_agree : zat 0 tkX11_agree = tkX11_agree_0 ∧ zat 30 tkX11_agree = tkX11_agree_30 ∧ zat 32 tkX11_agree = tkX11_agree_32 := ⟨rfl, rfl, rfl⟩
theorem okX11_agree : zok kX11_agree.2.1 kX11_agree.2.2.1 kX11_agree.2.2.2.1 tkX11_agree = true := by decide +kernel
def tkX11_tells_291 : List mE := (291, .ireturn, 1, 291, [], 0, 0, zM0) :: []
def tkX11_tells_289 : List mE := (289, .iload 7, 2, 7, [], 0, 0, zM0) :: tkX11_tells_291
def tkX11_tells_279 : List mE := (279, .iload_n 3, 1, 3, [], 0, 0, zM0) ::
  (280, .iconst 4, 1, 280, [], 4, 0, zM0) ::
  (281, .if_icmp .ne 8, 3, 289, [], 0, 0, zM0) ::
  (284, .iload 9, 2, 9, [], 0, 0, zM0) ::
  (286, .goto 5, 3, 291, [], 0, 0, zM0) :: tkX11_tells_289
def tkX11_tells_260 : List mE := (260, .aload_n 0, 1, 0, [], 0, 0, zM0) ::
  (261, .iload 4, 2, 4, [], 0, 0, zM0) ::
  (263, .iload_n 2, 1, 2, [], 0, 0, zM0) ::
  (264, .iload 5, 2, 5, [], 0, 0, zM0) ::
  (266, .invokevirtual 93, 3, 11, [6069, 3, 0], 0, 0, kX11_lays1) ::
  (269, .iload_n 3, 1, 3, [], 0, 0, zM0) ::
  (270, .iconst 3, 1, 270, [], 3, 0, zM0) ::
  (271, .if_icmp .ne 8, 3, 279, [], 0, 0, zM0) ::
  (274, .iload 8, 2, 8, [], 0, 0, zM0) ::
  (276, .goto 15, 3, 291, [], 0, 0, zM0) :: tkX11_tells_279
def tkX11_tells_254 : List mE := (254, .iinc 10 (-1), 3, 10, [], (-1), 0, zM0) ::
  (257, .goto (-54), 3, 203, [], 0, 0, zM0) :: tkX11_tells_260
def tkX11_tells_244 : List mE := (244, .ior, 1, 244, [], 0, 0, zM0) ::
  (245, .istore 7, 2, 7, [], 0, 0, zM0) ::
  (247, .iinc 8 1, 3, 8, [], 1, 0, zM0) ::
  (250, .iload 10, 2, 10, [], 0, 0, zM0) ::
  (252, .istore 9, 2, 9, [], 0, 0, zM0) :: tkX11_tells_254
def tkX11_tells_243 : List mE := (243, .iconst 0, 1, 243, [], 0, 0, zM0) :: tkX11_tells_244
def tkX11_tells_203 : List mE := (203, .iload 10, 2, 10, [], 0, 0, zM0) ::
  (205, .ifCond .lt 55, 3, 260, [], 0, 0, zM0) ::
  (208, .aload_n 0, 1, 0, [], 0, 0, zM0) ::
  (209, .iload 4, 2, 4, [], 0, 0, zM0) ::
  (211, .iload_n 2, 1, 2, [], 0, 0, zM0) ::
  (212, .iload 10, 2, 10, [], 0, 0, zM0) ::
  (214, .invokevirtual 93, 3, 11, [6069, 3, 0], 0, 0, kX11_lays1) ::
  (217, .aload_n 0, 1, 0, [], 0, 0, zM0) ::
  (218, .iload_n 1, 1, 1, [], 0, 0, zM0) ::
  (219, .iload_n 2, 1, 2, [], 0, 0, zM0) ::
  (220, .invokevirtual 346, 3, 11, [6230, 2, 1], 0, 0, kX11_firstOther) ::
  (223, .iconst (-1), 1, 223, [], (-1), 0, zM0) ::
  (224, .if_icmp .ne 30, 3, 254, [], 0, 0, zM0) ::
  (227, .iload 7, 2, 7, [], 0, 0, zM0) ::
  (229, .iload 10, 2, 10, [], 0, 0, zM0) ::
  (231, .bipush 10, 2, 231, [], 10, 0, zM0) ::
  (233, .if_icmp .ge 10, 3, 243, [], 0, 0, zM0) ::
  (236, .iconst 1, 1, 236, [], 1, 0, zM0) ::
  (237, .iload 10, 2, 10, [], 0, 0, zM0) ::
  (239, .ishl, 1, 239, [], 0, 0, zM0) ::
  (240, .goto 4, 3, 244, [], 0, 0, zM0) :: tkX11_tells_243
def tkX11_tells_188 : List mE := (188, .istore 6, 2, 6, [], 0, 0, zM0) ::
  (190, .iconst 0, 1, 190, [], 0, 0, zM0) ::
  (191, .istore 7, 2, 7, [], 0, 0, zM0) ::
  (193, .iconst 0, 1, 193, [], 0, 0, zM0) ::
  (194, .istore 8, 2, 8, [], 0, 0, zM0) ::
  (196, .iconst (-1), 1, 196, [], (-1), 0, zM0) ::
  (197, .istore 9, 2, 9, [], 0, 0, zM0) ::
  (199, .iload 6, 2, 6, [], 0, 0, zM0) ::
  (201, .istore 10, 2, 10, [], 0, 0, zM0) :: tkX11_tells_203
def tkX11_tells_186 : List mE := (186, .bipush 99, 2, 186, [], 99, 0, zM0) :: tkX11_tells_188
def tkX11_tells_175 : List mE := (175, .iload 4, 2, 4, [], 0, 0, zM0) ::
  (177, .iconst 1, 1, 177, [], 1, 0, zM0) ::
  (178, .if_icmp .ne 8, 3, 186, [], 0, 0, zM0) ::
  (181, .bipush 9, 2, 181, [], 9, 0, zM0) ::
  (183, .goto 5, 3, 188, [], 0, 0, zM0) :: tkX11_tells_186
def tkX11_tells_165 : List mE := (165, .iload 4, 2, 4, [], 0, 0, zM0) ::
  (167, .iconst 4, 1, 167, [], 4, 0, zM0) ::
  (168, .if_icmp .ne 7, 3, 175, [], 0, 0, zM0) ::
  (171, .iconst 5, 1, 171, [], 5, 0, zM0) ::
  (172, .goto 16, 3, 188, [], 0, 0, zM0) :: tkX11_tells_175
def tkX11_tells_148 : List mE := (148, .istore 5, 2, 5, [], 0, 0, zM0) ::
  (150, .iload 4, 2, 4, [], 0, 0, zM0) ::
  (152, .iconst 5, 1, 152, [], 5, 0, zM0) ::
  (153, .if_icmp .ne 12, 3, 165, [], 0, 0, zM0) ::
  (156, .aload_n 0, 1, 0, [], 0, 0, zM0) ::
  (157, .getfield 64, 3, 11, [3, 0, 5039], 0, 0, zM0) ::
  (160, .iconst 1, 1, 160, [], 1, 0, zM0) ::
  (161, .isub, 1, 161, [], 0, 0, zM0) ::
  (162, .goto 26, 3, 188, [], 0, 0, zM0) :: tkX11_tells_165
def tkX11_tells_141 : List mE := (141, .aload_n 0, 1, 0, [], 0, 0, zM0) ::
  (142, .iload_n 2, 1, 2, [], 0, 0, zM0) ::
  (143, .iload 4, 2, 4, [], 0, 0, zM0) ::
  (145, .invokevirtual 89, 3, 11, [5199, 2, 1], 0, 0, kX11_told) :: tkX11_tells_148
def tkX11_tells_126 : List mE := (126, .istore 4, 2, 4, [], 0, 0, zM0) ::
  (128, .iload 4, 2, 4, [], 0, 0, zM0) ::
  (130, .iconst 5, 1, 130, [], 5, 0, zM0) ::
  (131, .if_icmp .ne 10, 3, 141, [], 0, 0, zM0) ::
  (134, .aload_n 0, 1, 0, [], 0, 0, zM0) ::
  (135, .getfield 100, 3, 11, [4, 0, 5040], 0, 0, zM0) ::
  (138, .goto 10, 3, 148, [], 0, 0, zM0) :: tkX11_tells_141
def tkX11_tells_125 : List mE := (125, .iconst 0, 1, 125, [], 0, 0, zM0) :: tkX11_tells_126
def tkX11_tells_115 : List mE := (115, .iload_n 3, 1, 3, [], 0, 0, zM0) ::
  (116, .bipush 6, 2, 116, [], 6, 0, zM0) ::
  (118, .if_icmp .ne 7, 3, 125, [], 0, 0, zM0) ::
  (121, .iconst 5, 1, 121, [], 5, 0, zM0) ::
  (122, .goto 4, 3, 126, [], 0, 0, zM0) :: tkX11_tells_125
def tkX11_tells_106 : List mE := (106, .iload_n 3, 1, 3, [], 0, 0, zM0) ::
  (107, .iconst 2, 1, 107, [], 2, 0, zM0) ::
  (108, .if_icmp .ne 7, 3, 115, [], 0, 0, zM0) ::
  (111, .iconst 1, 1, 111, [], 1, 0, zM0) ::
  (112, .goto 14, 3, 126, [], 0, 0, zM0) :: tkX11_tells_115
def tkX11_tells_97 : List mE := (97, .iload_n 3, 1, 3, [], 0, 0, zM0) ::
  (98, .iconst 1, 1, 98, [], 1, 0, zM0) ::
  (99, .if_icmp .ne 7, 3, 106, [], 0, 0, zM0) ::
  (102, .iconst 4, 1, 102, [], 4, 0, zM0) ::
  (103, .goto 23, 3, 126, [], 0, 0, zM0) :: tkX11_tells_106
def tkX11_tells_85 : List mE := (85, .iload_n 3, 1, 3, [], 0, 0, zM0) ::
  (86, .iconst 5, 1, 86, [], 5, 0, zM0) ::
  (87, .if_icmp .ne 10, 3, 97, [], 0, 0, zM0) ::
  (90, .aload_n 0, 1, 0, [], 0, 0, zM0) ::
  (91, .iload_n 1, 1, 1, [], 0, 0, zM0) ::
  (92, .iload_n 2, 1, 2, [], 0, 0, zM0) ::
  (93, .invokevirtual 352, 3, 11, [6238, 2, 1], 0, 0, kX11_turnedSet) ::
  (96, .ireturn, 1, 96, [], 0, 0, zM0) :: tkX11_tells_97
def tkX11_tells_84 : List mE := (84, .ireturn, 1, 84, [], 0, 0, zM0) :: tkX11_tells_85
def tkX11_tells_79 : List mE := (79, .aload_n 0, 1, 0, [], 0, 0, zM0) ::
  (80, .iload_n 1, 1, 1, [], 0, 0, zM0) ::
  (81, .invokevirtual 349, 3, 11, [6234, 1, 1], 0, 0, kX11_likeSet) :: tkX11_tells_84
def tkX11_tells_66 : List mE := (66, .iload_n 3, 1, 3, [], 0, 0, zM0) ::
  (67, .ifCond .ne 12, 3, 79, [], 0, 0, zM0) ::
  (70, .aload_n 0, 1, 0, [], 0, 0, zM0) ::
  (71, .iload_n 1, 1, 1, [], 0, 0, zM0) ::
  (72, .iload_n 2, 1, 2, [], 0, 0, zM0) ::
  (73, .invokevirtual 346, 3, 11, [6230, 2, 1], 0, 0, kX11_firstOther) ::
  (76, .goto 8, 3, 84, [], 0, 0, zM0) :: tkX11_tells_79
def tkX11_tells_56 : List mE := (56, .iload_n 3, 1, 3, [], 0, 0, zM0) ::
  (57, .ifCond .eq 9, 3, 66, [], 0, 0, zM0) ::
  (60, .iload_n 3, 1, 3, [], 0, 0, zM0) ::
  (61, .bipush 7, 2, 61, [], 7, 0, zM0) ::
  (63, .if_icmp .ne 22, 3, 85, [], 0, 0, zM0) :: tkX11_tells_66
def tkX11_tells_42 : List mE := (42, .aload_n 0, 1, 0, [], 0, 0, zM0) ::
  (43, .getfield 54, 3, 11, [44, 2, 5080], 0, 0, zM0) ::
  (46, .iload_n 1, 1, 1, [], 0, 0, zM0) ::
  (47, .iaload, 1, 0, [], 0, 0, zM0) ::
  (48, .bipush 10, 2, 48, [], 10, 0, zM0) ::
  (50, .if_icmp .le 6, 3, 56, [], 0, 0, zM0) ::
  (53, .bipush (-2), 2, 53, [], (-2), 0, zM0) ::
  (55, .ireturn, 1, 55, [], 0, 0, zM0) :: tkX11_tells_56
def tkX11_tells_30 : List mE := (30, .aload_n 0, 1, 0, [], 0, 0, zM0) ::
  (31, .getfield 47, 3, 11, [42, 2, 5078], 0, 0, zM0) ::
  (34, .iload_n 1, 1, 1, [], 0, 0, zM0) ::
  (35, .baload, 1, 35, [], 0, 0, zM0) ::
  (36, .ifCond .ne 6, 3, 42, [], 0, 0, zM0) ::
  (39, .bipush (-11), 2, 39, [], (-11), 0, zM0) ::
  (41, .ireturn, 1, 41, [], 0, 0, zM0) :: tkX11_tells_42
def tkX11_tells_27 : List mE := (27, .bipush (-2), 2, 27, [], (-2), 0, zM0) ::
  (29, .ireturn, 1, 29, [], 0, 0, zM0) :: tkX11_tells_30
def tkX11_tells_0 : List mE := (0, .iload_n 1, 1, 1, [], 0, 0, zM0) ::
  (1, .invokestatic 278, 3, 0, [6124, 1, 1], 0, 0, kX11_isSheet) ::
  (4, .ifCond .eq 23, 3, 27, [], 0, 0, zM0) ::
  (7, .aload_n 0, 1, 0, [], 0, 0, zM0) ::
  (8, .iload_n 2, 1, 2, [], 0, 0, zM0) ::
  (9, .invokevirtual 82, 3, 11, [5192, 1, 1], 0, 0, kX11_isHen) ::
  (12, .ifCond .eq 15, 3, 27, [], 0, 0, zM0) ::
  (15, .iload_n 3, 1, 3, [], 0, 0, zM0) ::
  (16, .i2l, 1, 16, [], 0, 0, zM0) ::
  (17, .lconst 0, 1, 17, [], 0, 0, zM0) ::
  (18, .ldc2_w 108, 3, 18, [5203], 0, 7, zM0) ::
  (21, .invokestatic 70, 3, 0, [5184, 3, 1], 0, 0, kX11_in) ::
  (24, .ifCond .ne 6, 3, 30, [], 0, 0, zM0) :: tkX11_tells_27
def tkX11_tells : List mE := tkX11_tells_0
set_option maxRecDepth 100000 in
theorem zkX11_tells : zat 0 tkX11_tells = tkX11_tells_0 ∧ zat 27 tkX11_tells = tkX11_tells_27 ∧ zat 30 tkX11_tells = tkX11_tells_30 ∧ zat 42 tkX11_tells = tkX11_tells_42 ∧ zat 56 tkX11_tells = tkX11_tells_56 ∧ zat 66 tkX11_tells = tkX11_tells_66 ∧ zat 79 tkX11_tells = tkX11_tells_79 ∧ zat 84 tkX11_tells = tkX11_tells_84 ∧ zat 85 tkX11_tells = tkX11_tells_85 ∧ zat 97 tkX11_tells = tkX11_tells_97 ∧ zat 106 tkX11_tells = tkX11_tells_106 ∧ zat 115 tkX11_tells = tkX11_tells_115 ∧ zat 125 tkX11_tells = tkX11_tells_125 ∧ zat 126 tkX11_tells = tkX11_tells_126 ∧ zat 141 tkX11_tells = tkX11_tells_141 ∧ zat 148 tkX11_tells = tkX11_tells_148 ∧ zat 165 tkX11_tells = tkX11_tells_165 ∧ zat 175 tkX11_tells = tkX11_tells_175 ∧ zat 186 tkX11_tells = tkX11_tells_186 ∧ zat 188 tkX11_tells = tkX11_tells_188 ∧ zat 203 tkX11_tells = tkX11_tells_203 ∧ zat 243 tkX11_tells = tkX11_tells_243 ∧ zat 244 tkX11_tells = tkX11_tells_244 ∧ zat 254 tkX11_tells = tkX11_tells_254 ∧ zat 260 tkX11_tells = tkX11_tells_260 ∧ zat 279 tkX11_tells = tkX11_tells_279 ∧ zat 289 tkX11_tells = tkX11_tells_289 ∧ zat 291 tkX11_tells = tkX11_tells_291 := ⟨rfl, rfl, rfl, rfl, rfl, rfl, rfl, rfl, rfl, rfl, rfl, rfl, rfl, rfl, rfl, rfl, rfl, rfl, rfl, rfl, rfl, rfl, rfl, rfl, rfl, rfl, rfl, rfl⟩
theorem okX11_tells : zok kX11_tells.2.1 kX11_tells.2.2.1 kX11_tells.2.2.2.1 tkX11_tells = true := by decide +kernel
def tkX11_firstOther_40 : List mE := (40, .iconst (-1), 1, 40, [], (-1), 0, zM0) ::
  (41, .ireturn, 1, 41, [], 0, 0, zM0) :: []
def tkX11_firstOther_34 : List mE := (34, .iinc 3 1, 3, 3, [], 1, 0, zM0) ::
  (37, .goto (-35), 3, 2, [], 0, 0, zM0) :: tkX11_firstOther_40
def tkX11_firstOther_2 : List mE := (2, .iload_n 3, 1, 3, [], 0, 0, zM0) ::
  (3, .aload_n 0, 1, 0, [], 0, 0, zM0) ::
  (4, .getfield 54, 3, 11, [44, 2, 5080], 0, 0, zM0) ::
  (7, .iload_n 1, 1, 1, [], 0, 0, zM0) ::
  (8, .iaload, 1, 0, [], 0, 0, zM0) ::
  (9, .if_icmp .ge 31, 3, 40, [], 0, 0, zM0) ::
  (12, .aload_n 0, 1, 0, [], 0, 0, zM0) ::
  (13, .iload_n 2, 1, 2, [], 0, 0, zM0) ::
  (14, .iload_n 3, 1, 3, [], 0, 0, zM0) ::
  (15, .invokevirtual 254, 3, 11, [6096, 2, 1], 0, 0, kX11_laysOf) ::
  (18, .aload_n 0, 1, 0, [], 0, 0, zM0) ::
  (19, .getfield 57, 3, 11, [45, 2, 5081], 0, 0, zM0) ::
  (22, .bipush 40, 2, 22, [], 40, 0, zM0) ::
  (24, .iload_n 1, 1, 1, [], 0, 0, zM0) ::
  (25, .imul, 1, 25, [], 0, 0, zM0) ::
  (26, .iload_n 3, 1, 3, [], 0, 0, zM0) ::
  (27, .iadd, 1, 27, [], 0, 0, zM0) ::
  (28, .iaload, 1, 0, [], 0, 0, zM0) ::
  (29, .if_icmp .eq 5, 3, 34, [], 0, 0, zM0) ::
  (32, .iload_n 3, 1, 3, [], 0, 0, zM0) ::
  (33, .ireturn, 1, 33, [], 0, 0, zM0) :: tkX11_firstOther_34
def tkX11_firstOther_0 : List mE := (0, .iconst 0, 1, 0, [], 0, 0, zM0) ::
  (1, .istore_n 3, 1, 3, [], 0, 0, zM0) :: tkX11_firstOther_2
def tkX11_firstOther : List mE := tkX11_firstOther_0
theorem zkX11_firstOther : zat 0 tkX11_firstOther = tkX11_firstOther_0 ∧ zat 2 tkX11_firstOther = tkX11_firstOther_2 ∧ zat 34 tkX11_firstOther = tkX11_firstOther_34 ∧ zat 40 tkX11_firstOther = tkX11_firstOther_40 := ⟨rfl, rfl, rfl, rfl⟩
theorem okX11_firstOther : zok kX11_firstOther.2.1 kX11_firstOther.2.2.1 kX11_firstOther.2.2.2.1 tkX11_firstOther = true := by decide +kernel
def tkX11_likeSet_38 : List mE := (38, .iload_n 2, 1, 2, [], 0, 0, zM0) ::
  (39, .ireturn, 1, 39, [], 0, 0, zM0) :: []
def tkX11_likeSet_28 : List mE := (28, .iload_n 3, 1, 3, [], 0, 0, zM0) ::
  (29, .ishl, 1, 29, [], 0, 0, zM0) ::
  (30, .ior, 1, 30, [], 0, 0, zM0) ::
  (31, .istore_n 2, 1, 2, [], 0, 0, zM0) ::
  (32, .iinc 3 1, 3, 3, [], 1, 0, zM0) ::
  (35, .goto (-31), 3, 4, [], 0, 0, zM0) :: tkX11_likeSet_38
def tkX11_likeSet_27 : List mE := (27, .iconst 0, 1, 27, [], 0, 0, zM0) :: tkX11_likeSet_28
def tkX11_likeSet_4 : List mE := (4, .iload_n 3, 1, 3, [], 0, 0, zM0) ::
  (5, .aload_n 0, 1, 0, [], 0, 0, zM0) ::
  (6, .getfield 67, 3, 11, [11, 0, 5047], 0, 0, zM0) ::
  (9, .if_icmp .ge 29, 3, 38, [], 0, 0, zM0) ::
  (12, .iload_n 2, 1, 2, [], 0, 0, zM0) ::
  (13, .aload_n 0, 1, 0, [], 0, 0, zM0) ::
  (14, .iload_n 1, 1, 1, [], 0, 0, zM0) ::
  (15, .iload_n 3, 1, 3, [], 0, 0, zM0) ::
  (16, .invokevirtual 346, 3, 11, [6230, 2, 1], 0, 0, kX11_firstOther) ::
  (19, .iconst (-1), 1, 19, [], (-1), 0, zM0) ::
  (20, .if_icmp .ne 7, 3, 27, [], 0, 0, zM0) ::
  (23, .iconst 1, 1, 23, [], 1, 0, zM0) ::
  (24, .goto 4, 3, 28, [], 0, 0, zM0) :: tkX11_likeSet_27
def tkX11_likeSet_0 : List mE := (0, .iconst 0, 1, 0, [], 0, 0, zM0) ::
  (1, .istore_n 2, 1, 2, [], 0, 0, zM0) ::
  (2, .iconst 0, 1, 2, [], 0, 0, zM0) ::
  (3, .istore_n 3, 1, 3, [], 0, 0, zM0) :: tkX11_likeSet_4
def tkX11_likeSet : List mE := tkX11_likeSet_0
theorem zkX11_likeSet : zat 0 tkX11_likeSet = tkX11_likeSet_0 ∧ zat 4 tkX11_likeSet = tkX11_likeSet_4 ∧ zat 27 tkX11_likeSet = tkX11_likeSet_27 ∧ zat 28 tkX11_likeSet = tkX11_likeSet_28 ∧ zat 38 tkX11_likeSet = tkX11_likeSet_38 := ⟨rfl, rfl, rfl, rfl, rfl⟩
theorem okX11_likeSet : zok kX11_likeSet.2.1 kX11_likeSet.2.2.1 kX11_likeSet.2.2.2.1 tkX11_likeSet = true := by decide +kernel
def tkX11_turnedSet_73 : List mE := (73, .iload_n 3, 1, 3, [], 0, 0, zM0) ::
  (74, .ireturn, 1, 74, [], 0, 0, zM0) :: []
def tkX11_turnedSet_45 : List mE := (45, .iload 4, 2, 4, [], 0, 0, zM0) ::
  (47, .ishl, 1, 47, [], 0, 0, zM0) ::
  (48, .ior, 1, 48, [], 0, 0, zM0) ::
  (49, .istore_n 3, 1, 3, [], 0, 0, zM0) ::
  (50, .aload_n 0, 1, 0, [], 0, 0, zM0) ::
  (51, .getfield 29, 3, 11, [10, 2, 5046], 0, 0, zM0) ::
  (54, .iconst 3, 1, 54, [], 3, 0, zM0) ::
  (55, .iload_n 2, 1, 2, [], 0, 0, zM0) ::
  (56, .imul, 1, 56, [], 0, 0, zM0) ::
  (57, .iconst 1, 1, 57, [], 1, 0, zM0) ::
  (58, .iadd, 1, 58, [], 0, 0, zM0) ::
  (59, .dup2, 1, 59, [], 0, 0, zM0) ::
  (60, .iaload, 1, 0, [], 0, 0, zM0) ::
  (61, .iconst 1, 1, 61, [], 1, 0, zM0) ::
  (62, .iload 4, 2, 4, [], 0, 0, zM0) ::
  (64, .ishl, 1, 64, [], 0, 0, zM0) ::
  (65, .ixor, 1, 65, [], 0, 0, zM0) ::
  (66, .iastore, 1, 66, [], 0, 0, zM0) ::
  (67, .iinc 4 1, 3, 4, [], 1, 0, zM0) ::
  (70, .goto (-65), 3, 5, [], 0, 0, zM0) :: tkX11_turnedSet_73
def tkX11_turnedSet_44 : List mE := (44, .iconst 0, 1, 44, [], 0, 0, zM0) :: tkX11_turnedSet_45
def tkX11_turnedSet_5 : List mE := (5, .iload 4, 2, 4, [], 0, 0, zM0) ::
  (7, .bipush 10, 2, 7, [], 10, 0, zM0) ::
  (9, .if_icmp .ge 64, 3, 73, [], 0, 0, zM0) ::
  (12, .aload_n 0, 1, 0, [], 0, 0, zM0) ::
  (13, .getfield 29, 3, 11, [10, 2, 5046], 0, 0, zM0) ::
  (16, .iconst 3, 1, 16, [], 3, 0, zM0) ::
  (17, .iload_n 2, 1, 2, [], 0, 0, zM0) ::
  (18, .imul, 1, 18, [], 0, 0, zM0) ::
  (19, .iconst 1, 1, 19, [], 1, 0, zM0) ::
  (20, .iadd, 1, 20, [], 0, 0, zM0) ::
  (21, .dup2, 1, 21, [], 0, 0, zM0) ::
  (22, .iaload, 1, 0, [], 0, 0, zM0) ::
  (23, .iconst 1, 1, 23, [], 1, 0, zM0) ::
  (24, .iload 4, 2, 4, [], 0, 0, zM0) ::
  (26, .ishl, 1, 26, [], 0, 0, zM0) ::
  (27, .ixor, 1, 27, [], 0, 0, zM0) ::
  (28, .iastore, 1, 28, [], 0, 0, zM0) ::
  (29, .iload_n 3, 1, 3, [], 0, 0, zM0) ::
  (30, .aload_n 0, 1, 0, [], 0, 0, zM0) ::
  (31, .iload_n 1, 1, 1, [], 0, 0, zM0) ::
  (32, .iload_n 2, 1, 2, [], 0, 0, zM0) ::
  (33, .invokevirtual 346, 3, 11, [6230, 2, 1], 0, 0, kX11_firstOther) ::
  (36, .iconst (-1), 1, 36, [], (-1), 0, zM0) ::
  (37, .if_icmp .ne 7, 3, 44, [], 0, 0, zM0) ::
  (40, .iconst 1, 1, 40, [], 1, 0, zM0) ::
  (41, .goto 4, 3, 45, [], 0, 0, zM0) :: tkX11_turnedSet_44
def tkX11_turnedSet_0 : List mE := (0, .iconst 0, 1, 0, [], 0, 0, zM0) ::
  (1, .istore_n 3, 1, 3, [], 0, 0, zM0) ::
  (2, .iconst 0, 1, 2, [], 0, 0, zM0) ::
  (3, .istore 4, 2, 4, [], 0, 0, zM0) :: tkX11_turnedSet_5
def tkX11_turnedSet : List mE := tkX11_turnedSet_0
theorem zkX11_turnedSet : zat 0 tkX11_turnedSet = tkX11_turnedSet_0 ∧ zat 5 tkX11_turnedSet = tkX11_turnedSet_5 ∧ zat 44 tkX11_turnedSet = tkX11_turnedSet_44 ∧ zat 45 tkX11_turnedSet = tkX11_turnedSet_45 ∧ zat 73 tkX11_turnedSet = tkX11_turnedSet_73 := ⟨rfl, rfl, rfl, rfl, rfl⟩
theorem okX11_turnedSet : zok kX11_turnedSet.2.1 kX11_turnedSet.2.2.1 kX11_turnedSet.2.2.2.1 tkX11_turnedSet = true := by decide +kernel
def tkX11_film_74 : List mE := (74, .iload_n 3, 1, 3, [], 0, 0, zM0) ::
  (75, .ireturn, 1, 75, [], 0, 0, zM0) :: []
def tkX11_film_32 : List mE := (32, .iload 4, 2, 4, [], 0, 0, zM0) ::
  (34, .bipush 10, 2, 34, [], 10, 0, zM0) ::
  (36, .if_icmp .ge 38, 3, 74, [], 0, 0, zM0) ::
  (39, .aload_n 0, 1, 0, [], 0, 0, zM0) ::
  (40, .getfield 57, 3, 11, [45, 2, 5081], 0, 0, zM0) ::
  (43, .bipush 40, 2, 43, [], 40, 0, zM0) ::
  (45, .iload_n 1, 1, 1, [], 0, 0, zM0) ::
  (46, .imul, 1, 46, [], 0, 0, zM0) ::
  (47, .iload 4, 2, 4, [], 0, 0, zM0) ::
  (49, .iadd, 1, 49, [], 0, 0, zM0) ::
  (50, .aload_n 0, 1, 0, [], 0, 0, zM0) ::
  (51, .iload_n 2, 1, 2, [], 0, 0, zM0) ::
  (52, .iload 4, 2, 4, [], 0, 0, zM0) ::
  (54, .invokevirtual 254, 3, 11, [6096, 2, 1], 0, 0, kX11_laysOf) ::
  (57, .iastore, 1, 57, [], 0, 0, zM0) ::
  (58, .iload_n 3, 1, 3, [], 0, 0, zM0) ::
  (59, .aload_n 0, 1, 0, [], 0, 0, zM0) ::
  (60, .iload_n 2, 1, 2, [], 0, 0, zM0) ::
  (61, .iload 4, 2, 4, [], 0, 0, zM0) ::
  (63, .invokevirtual 254, 3, 11, [6096, 2, 1], 0, 0, kX11_laysOf) ::
  (66, .iadd, 1, 66, [], 0, 0, zM0) ::
  (67, .istore_n 3, 1, 3, [], 0, 0, zM0) ::
  (68, .iinc 4 1, 3, 4, [], 1, 0, zM0) ::
  (71, .goto (-39), 3, 32, [], 0, 0, zM0) :: tkX11_film_74
def tkX11_film_18 : List mE := (18, .aload_n 0, 1, 0, [], 0, 0, zM0) ::
  (19, .iload_n 1, 1, 1, [], 0, 0, zM0) ::
  (20, .iconst 0, 1, 20, [], 0, 0, zM0) ::
  (21, .bipush 10, 2, 21, [], 10, 0, zM0) ::
  (23, .invokevirtual 355, 3, 11, [7006, 3, 1], 0, 0, kX11_sheet) ::
  (26, .pop, 1, 26, [], 0, 0, zM0) ::
  (27, .iconst 0, 1, 27, [], 0, 0, zM0) ::
  (28, .istore_n 3, 1, 3, [], 0, 0, zM0) ::
  (29, .iconst 0, 1, 29, [], 0, 0, zM0) ::
  (30, .istore 4, 2, 4, [], 0, 0, zM0) :: tkX11_film_32
def tkX11_film_15 : List mE := (15, .bipush (-2), 2, 15, [], (-2), 0, zM0) ::
  (17, .ireturn, 1, 17, [], 0, 0, zM0) :: tkX11_film_18
def tkX11_film_0 : List mE := (0, .iload_n 1, 1, 1, [], 0, 0, zM0) ::
  (1, .invokestatic 278, 3, 0, [6124, 1, 1], 0, 0, kX11_isSheet) ::
  (4, .ifCond .eq 11, 3, 15, [], 0, 0, zM0) ::
  (7, .aload_n 0, 1, 0, [], 0, 0, zM0) ::
  (8, .iload_n 2, 1, 2, [], 0, 0, zM0) ::
  (9, .invokevirtual 82, 3, 11, [5192, 1, 1], 0, 0, kX11_isHen) ::
  (12, .ifCond .ne 6, 3, 18, [], 0, 0, zM0) :: tkX11_film_15
def tkX11_film : List mE := tkX11_film_0
theorem zkX11_film : zat 0 tkX11_film = tkX11_film_0 ∧ zat 15 tkX11_film = tkX11_film_15 ∧ zat 18 tkX11_film = tkX11_film_18 ∧ zat 32 tkX11_film = tkX11_film_32 ∧ zat 74 tkX11_film = tkX11_film_74 := ⟨rfl, rfl, rfl, rfl, rfl⟩
theorem okX11_film : zok kX11_film.2.1 kX11_film.2.2.1 kX11_film.2.2.2.1 tkX11_film = true := by decide +kernel
def tkX11_sheet_106 : List mE := (106, .iconst 1, 1, 106, [], 1, 0, zM0) ::
  (107, .ireturn, 1, 107, [], 0, 0, zM0) :: []
def tkX11_sheet_77 : List mE := (77, .iload 4, 2, 4, [], 0, 0, zM0) ::
  (79, .iload_n 3, 1, 3, [], 0, 0, zM0) ::
  (80, .if_icmp .ge 26, 3, 106, [], 0, 0, zM0) ::
  (83, .iload_n 2, 1, 2, [], 0, 0, zM0) ::
  (84, .ifCond .lt 22, 3, 106, [], 0, 0, zM0) ::
  (87, .aload_n 0, 1, 0, [], 0, 0, zM0) ::
  (88, .getfield 57, 3, 11, [45, 2, 5081], 0, 0, zM0) ::
  (91, .bipush 40, 2, 91, [], 40, 0, zM0) ::
  (93, .iload_n 1, 1, 1, [], 0, 0, zM0) ::
  (94, .imul, 1, 94, [], 0, 0, zM0) ::
  (95, .iload 4, 2, 4, [], 0, 0, zM0) ::
  (97, .iadd, 1, 97, [], 0, 0, zM0) ::
  (98, .iconst 0, 1, 98, [], 0, 0, zM0) ::
  (99, .iastore, 1, 99, [], 0, 0, zM0) ::
  (100, .iinc 4 1, 3, 4, [], 1, 0, zM0) ::
  (103, .goto (-26), 3, 77, [], 0, 0, zM0) :: tkX11_sheet_106
def tkX11_sheet_59 : List mE := (59, .bastore, 1, 59, [], 0, 0, zM0) ::
  (60, .aload_n 0, 1, 0, [], 0, 0, zM0) ::
  (61, .getfield 51, 3, 11, [43, 2, 5079], 0, 0, zM0) ::
  (64, .iload_n 1, 1, 1, [], 0, 0, zM0) ::
  (65, .iload_n 2, 1, 2, [], 0, 0, zM0) ::
  (66, .iastore, 1, 66, [], 0, 0, zM0) ::
  (67, .aload_n 0, 1, 0, [], 0, 0, zM0) ::
  (68, .getfield 54, 3, 11, [44, 2, 5080], 0, 0, zM0) ::
  (71, .iload_n 1, 1, 1, [], 0, 0, zM0) ::
  (72, .iload_n 3, 1, 3, [], 0, 0, zM0) ::
  (73, .iastore, 1, 73, [], 0, 0, zM0) ::
  (74, .iconst 0, 1, 74, [], 0, 0, zM0) ::
  (75, .istore 4, 2, 4, [], 0, 0, zM0) :: tkX11_sheet_77
def tkX11_sheet_58 : List mE := (58, .iconst 0, 1, 58, [], 0, 0, zM0) :: tkX11_sheet_59
def tkX11_sheet_45 : List mE := (45, .aload_n 0, 1, 0, [], 0, 0, zM0) ::
  (46, .getfield 47, 3, 11, [42, 2, 5078], 0, 0, zM0) ::
  (49, .iload_n 1, 1, 1, [], 0, 0, zM0) ::
  (50, .iload_n 2, 1, 2, [], 0, 0, zM0) ::
  (51, .ifCond .lt 7, 3, 58, [], 0, 0, zM0) ::
  (54, .iconst 1, 1, 54, [], 1, 0, zM0) ::
  (55, .goto 4, 3, 59, [], 0, 0, zM0) :: tkX11_sheet_58
def tkX11_sheet_34 : List mE := (34, .iload_n 2, 1, 2, [], 0, 0, zM0) ::
  (35, .ifCond .lt 10, 3, 45, [], 0, 0, zM0) ::
  (38, .iload_n 3, 1, 3, [], 0, 0, zM0) ::
  (39, .ifCond .ge 6, 3, 45, [], 0, 0, zM0) ::
  (42, .bipush (-14), 2, 42, [], (-14), 0, zM0) ::
  (44, .ireturn, 1, 44, [], 0, 0, zM0) :: tkX11_sheet_45
def tkX11_sheet_31 : List mE := (31, .bipush (-2), 2, 31, [], (-2), 0, zM0) ::
  (33, .ireturn, 1, 33, [], 0, 0, zM0) :: tkX11_sheet_34
def tkX11_sheet_0 : List mE := (0, .iload_n 1, 1, 1, [], 0, 0, zM0) ::
  (1, .invokestatic 278, 3, 0, [6124, 1, 1], 0, 0, kX11_isSheet) ::
  (4, .ifCond .eq 27, 3, 31, [], 0, 0, zM0) ::
  (7, .iload_n 2, 1, 2, [], 0, 0, zM0) ::
  (8, .i2l, 1, 8, [], 0, 0, zM0) ::
  (9, .ldc2_w 375, 3, 9, [7010], 0, (-1), zM0) ::
  (12, .ldc2_w 318, 3, 12, [6181], 0, 2, zM0) ::
  (15, .invokestatic 70, 3, 0, [5184, 3, 1], 0, 0, kX11_in) ::
  (18, .ifCond .eq 13, 3, 31, [], 0, 0, zM0) ::
  (21, .iload_n 2, 1, 2, [], 0, 0, zM0) ::
  (22, .ifCond .lt 12, 3, 34, [], 0, 0, zM0) ::
  (25, .iload_n 3, 1, 3, [], 0, 0, zM0) ::
  (26, .bipush 40, 2, 26, [], 40, 0, zM0) ::
  (28, .if_icmp .le 6, 3, 34, [], 0, 0, zM0) :: tkX11_sheet_31
def tkX11_sheet : List mE := tkX11_sheet_0
theorem zkX11_sheet : zat 0 tkX11_sheet = tkX11_sheet_0 ∧ zat 31 tkX11_sheet = tkX11_sheet_31 ∧ zat 34 tkX11_sheet = tkX11_sheet_34 ∧ zat 45 tkX11_sheet = tkX11_sheet_45 ∧ zat 58 tkX11_sheet = tkX11_sheet_58 ∧ zat 59 tkX11_sheet = tkX11_sheet_59 ∧ zat 77 tkX11_sheet = tkX11_sheet_77 ∧ zat 106 tkX11_sheet = tkX11_sheet_106 := ⟨rfl, rfl, rfl, rfl, rfl, rfl, rfl, rfl⟩
theorem okX11_sheet : zok kX11_sheet.2.1 kX11_sheet.2.2.1 kX11_sheet.2.2.2.1 tkX11_sheet = true := by decide +kernel
def tkX11_drawn_32 : List mE := (32, .ireturn, 1, 32, [], 0, 0, zM0) :: []
def tkX11_drawn_30 : List mE := (30, .bipush (-2), 2, 30, [], (-2), 0, zM0) :: tkX11_drawn_32
def tkX11_drawn_0 : List mE := (0, .aload_n 0, 1, 0, [], 0, 0, zM0) ::
  (1, .iload_n 2, 1, 2, [], 0, 0, zM0) ::
  (2, .invokevirtual 82, 3, 11, [5192, 1, 1], 0, 0, kX11_isHen) ::
  (5, .ifCond .eq 25, 3, 30, [], 0, 0, zM0) ::
  (8, .iload_n 3, 1, 3, [], 0, 0, zM0) ::
  (9, .i2l, 1, 9, [], 0, 0, zM0) ::
  (10, .lconst 0, 1, 10, [], 0, 0, zM0) ::
  (11, .ldc2_w 223, 3, 11, [6065], 0, 60, zM0) ::
  (14, .invokestatic 70, 3, 0, [5184, 3, 1], 0, 0, kX11_in) ::
  (17, .ifCond .eq 13, 3, 30, [], 0, 0, zM0) ::
  (20, .aload_n 0, 1, 0, [], 0, 0, zM0) ::
  (21, .iload_n 1, 1, 1, [], 0, 0, zM0) ::
  (22, .iload_n 2, 1, 2, [], 0, 0, zM0) ::
  (23, .iload_n 3, 1, 3, [], 0, 0, zM0) ::
  (24, .invokevirtual 359, 3, 11, [7015, 3, 1], 0, 0, kX11_laidDrawn) ::
  (27, .goto 5, 3, 32, [], 0, 0, zM0) :: tkX11_drawn_30
def tkX11_drawn : List mE := tkX11_drawn_0
theorem zkX11_drawn : zat 0 tkX11_drawn = tkX11_drawn_0 ∧ zat 30 tkX11_drawn = tkX11_drawn_30 ∧ zat 32 tkX11_drawn = tkX11_drawn_32 := ⟨rfl, rfl, rfl⟩
theorem okX11_drawn : zok kX11_drawn.2.1 kX11_drawn.2.2.1 kX11_drawn.2.2.2.1 tkX11_drawn = true := by decide +kernel
def tkX11_laidDrawn_55 : List mE := (55, .aload_n 0, 1, 0, [], 0, 0, zM0) ::
  (56, .invokevirtual 290, 3, 11, [6139, 0, 0], 0, 0, kX11_laysBack) ::
  (59, .iload 5, 2, 5, [], 0, 0, zM0) ::
  (61, .ireturn, 1, 61, [], 0, 0, zM0) :: []
def tkX11_laidDrawn_13 : List mE := (13, .iload 6, 2, 6, [], 0, 0, zM0) ::
  (15, .iload_n 3, 1, 3, [], 0, 0, zM0) ::
  (16, .if_icmp .ge 39, 3, 55, [], 0, 0, zM0) ::
  (19, .iload 4, 2, 4, [], 0, 0, zM0) ::
  (21, .ldc_w 358, 3, 21, [7019], 1103515245, 0, zM0) ::
  (24, .imul, 1, 24, [], 0, 0, zM0) ::
  (25, .sipush 12345, 3, 25, [], 12345, 0, zM0) ::
  (28, .iadd, 1, 28, [], 0, 0, zM0) ::
  (29, .istore 4, 2, 4, [], 0, 0, zM0) ::
  (31, .iload 5, 2, 5, [], 0, 0, zM0) ::
  (33, .aload_n 0, 1, 0, [], 0, 0, zM0) ::
  (34, .iload_n 2, 1, 2, [], 0, 0, zM0) ::
  (35, .iload 4, 2, 4, [], 0, 0, zM0) ::
  (37, .bipush 9, 2, 37, [], 9, 0, zM0) ::
  (39, .iushr, 1, 39, [], 0, 0, zM0) ::
  (40, .bipush 10, 2, 40, [], 10, 0, zM0) ::
  (42, .irem, 1, 42, [], 0, 0, zM0) ::
  (43, .invokevirtual 263, 3, 11, [6108, 2, 1], 0, 0, kX11_puts) ::
  (46, .iadd, 1, 46, [], 0, 0, zM0) ::
  (47, .istore 5, 2, 5, [], 0, 0, zM0) ::
  (49, .iinc 6 1, 3, 6, [], 1, 0, zM0) ::
  (52, .goto (-39), 3, 13, [], 0, 0, zM0) :: tkX11_laidDrawn_55
def tkX11_laidDrawn_0 : List mE := (0, .aload_n 0, 1, 0, [], 0, 0, zM0) ::
  (1, .invokevirtual 284, 3, 11, [6131, 0, 0], 0, 0, kX11_laysAside) ::
  (4, .iload_n 1, 1, 1, [], 0, 0, zM0) ::
  (5, .istore 4, 2, 4, [], 0, 0, zM0) ::
  (7, .iconst 0, 1, 7, [], 0, 0, zM0) ::
  (8, .istore 5, 2, 5, [], 0, 0, zM0) ::
  (10, .iconst 0, 1, 10, [], 0, 0, zM0) ::
  (11, .istore 6, 2, 6, [], 0, 0, zM0) :: tkX11_laidDrawn_13
def tkX11_laidDrawn : List mE := tkX11_laidDrawn_0
theorem zkX11_laidDrawn : zat 0 tkX11_laidDrawn = tkX11_laidDrawn_0 ∧ zat 13 tkX11_laidDrawn = tkX11_laidDrawn_13 ∧ zat 55 tkX11_laidDrawn = tkX11_laidDrawn_55 := ⟨rfl, rfl, rfl⟩
theorem okX11_laidDrawn : zok kX11_laidDrawn.2.1 kX11_laidDrawn.2.2.1 kX11_laidDrawn.2.2.2.1 tkX11_laidDrawn = true := by decide +kernel
def tkX11_chance_92 : List mE := (92, .lload 6, 2, 6, [], 0, 0, zM0) ::
  (94, .iload_n 2, 1, 2, [], 0, 0, zM0) ::
  (95, .i2l, 1, 95, [], 0, 0, zM0) ::
  (96, .iload 5, 2, 5, [], 0, 0, zM0) ::
  (98, .invokestatic 325, 3, 0, [6191, 3, 1], 0, 0, kX11_lowest) ::
  (101, .lreturn, 1, 101, [], 0, 0, zM0) :: []
def tkX11_chance_83 : List mE := (83, .ladd, 1, 83, [], 0, 0, zM0) ::
  (84, .lstore 6, 2, 6, [], 0, 0, zM0) ::
  (86, .iinc 8 1, 3, 8, [], 1, 0, zM0) ::
  (89, .goto (-35), 3, 54, [], 0, 0, zM0) :: tkX11_chance_92
def tkX11_chance_82 : List mE := (82, .lconst 0, 1, 82, [], 0, 0, zM0) :: tkX11_chance_83
def tkX11_chance_54 : List mE := (54, .iload 8, 2, 8, [], 0, 0, zM0) ::
  (56, .iload_n 2, 1, 2, [], 0, 0, zM0) ::
  (57, .if_icmp .ge 35, 3, 92, [], 0, 0, zM0) ::
  (60, .lload 6, 2, 6, [], 0, 0, zM0) ::
  (62, .aload_n 0, 1, 0, [], 0, 0, zM0) ::
  (63, .iload_n 1, 1, 1, [], 0, 0, zM0) ::
  (64, .iload 8, 2, 8, [], 0, 0, zM0) ::
  (66, .iadd, 1, 66, [], 0, 0, zM0) ::
  (67, .iload_n 3, 1, 3, [], 0, 0, zM0) ::
  (68, .bipush 8, 2, 68, [], 8, 0, zM0) ::
  (70, .invokevirtual 359, 3, 11, [7015, 3, 1], 0, 0, kX11_laidDrawn) ::
  (73, .iload 4, 2, 4, [], 0, 0, zM0) ::
  (75, .if_icmp .lt 7, 3, 82, [], 0, 0, zM0) ::
  (78, .lconst 1, 1, 78, [], 0, 1, zM0) ::
  (79, .goto 4, 3, 83, [], 0, 0, zM0) :: tkX11_chance_82
def tkX11_chance_48 : List mE := (48, .lconst 0, 1, 48, [], 0, 0, zM0) ::
  (49, .lstore 6, 2, 6, [], 0, 0, zM0) ::
  (51, .iconst 0, 1, 51, [], 0, 0, zM0) ::
  (52, .istore 8, 2, 8, [], 0, 0, zM0) :: tkX11_chance_54
def tkX11_chance_44 : List mE := (44, .ldc2_w 323, 3, 44, [6190], 0, (-4611686018427387904), zM0) ::
  (47, .lreturn, 1, 47, [], 0, 0, zM0) :: tkX11_chance_48
def tkX11_chance_0 : List mE := (0, .iload_n 2, 1, 2, [], 0, 0, zM0) ::
  (1, .i2l, 1, 1, [], 0, 0, zM0) ::
  (2, .lconst 1, 1, 2, [], 0, 1, zM0) ::
  (3, .ldc2_w 362, 3, 3, [7024], 0, 20, zM0) ::
  (6, .invokestatic 70, 3, 0, [5184, 3, 1], 0, 0, kX11_in) ::
  (9, .ifCond .eq 35, 3, 44, [], 0, 0, zM0) ::
  (12, .aload_n 0, 1, 0, [], 0, 0, zM0) ::
  (13, .iload_n 3, 1, 3, [], 0, 0, zM0) ::
  (14, .invokevirtual 82, 3, 11, [5192, 1, 1], 0, 0, kX11_isHen) ::
  (17, .ifCond .eq 27, 3, 44, [], 0, 0, zM0) ::
  (20, .iload 4, 2, 4, [], 0, 0, zM0) ::
  (22, .i2l, 1, 22, [], 0, 0, zM0) ::
  (23, .lconst 0, 1, 23, [], 0, 0, zM0) ::
  (24, .ldc2_w 364, 3, 24, [7025], 0, 999, zM0) ::
  (27, .invokestatic 70, 3, 0, [5184, 3, 1], 0, 0, kX11_in) ::
  (30, .ifCond .eq 14, 3, 44, [], 0, 0, zM0) ::
  (33, .iload 5, 2, 5, [], 0, 0, zM0) ::
  (35, .i2l, 1, 35, [], 0, 0, zM0) ::
  (36, .lconst 0, 1, 36, [], 0, 0, zM0) ::
  (37, .lconst 1, 1, 37, [], 0, 1, zM0) ::
  (38, .invokestatic 70, 3, 0, [5184, 3, 1], 0, 0, kX11_in) ::
  (41, .ifCond .ne 7, 3, 48, [], 0, 0, zM0) :: tkX11_chance_44
def tkX11_chance : List mE := tkX11_chance_0
theorem zkX11_chance : zat 0 tkX11_chance = tkX11_chance_0 ∧ zat 44 tkX11_chance = tkX11_chance_44 ∧ zat 48 tkX11_chance = tkX11_chance_48 ∧ zat 54 tkX11_chance = tkX11_chance_54 ∧ zat 82 tkX11_chance = tkX11_chance_82 ∧ zat 83 tkX11_chance = tkX11_chance_83 ∧ zat 92 tkX11_chance = tkX11_chance_92 := ⟨rfl, rfl, rfl, rfl, rfl, rfl, rfl⟩
theorem okX11_chance : zok kX11_chance.2.1 kX11_chance.2.2.1 kX11_chance.2.2.2.1 tkX11_chance = true := by decide +kernel
def tkX11_image_52 : List mE := (52, .aload_n 0, 1, 0, [], 0, 0, zM0) ::
  (53, .aload_n 0, 1, 0, [], 0, 0, zM0) ::
  (54, .getfield 67, 3, 11, [11, 0, 5047], 0, 0, zM0) ::
  (57, .putfield 44, 3, 11, [39, 0, 5075], 0, 0, zM0) ::
  (60, .aload_n 0, 1, 0, [], 0, 0, zM0) ::
  (61, .aload_n 0, 1, 0, [], 0, 0, zM0) ::
  (62, .getfield 97, 3, 11, [7, 0, 5043], 0, 0, zM0) ::
  (65, .putfield 366, 3, 11, [40, 0, 5076], 0, 0, zM0) ::
  (68, .aload_n 0, 1, 0, [], 0, 0, zM0) ::
  (69, .aload_n 0, 1, 0, [], 0, 0, zM0) ::
  (70, .getfield 100, 3, 11, [4, 0, 5040], 0, 0, zM0) ::
  (73, .putfield 369, 3, 11, [41, 0, 5077], 0, 0, zM0) ::
  (76, .aload_n 0, 1, 0, [], 0, 0, zM0) ::
  (77, .getfield 67, 3, 11, [11, 0, 5047], 0, 0, zM0) ::
  (80, .ireturn, 1, 80, [], 0, 0, zM0) :: []
def tkX11_image_28 : List mE := (28, .iload_n 1, 1, 1, [], 0, 0, zM0) ::
  (29, .bipush 15, 2, 29, [], 15, 0, zM0) ::
  (31, .if_icmp .ge 21, 3, 52, [], 0, 0, zM0) ::
  (34, .aload_n 0, 1, 0, [], 0, 0, zM0) ::
  (35, .getfield 41, 3, 11, [38, 2, 5074], 0, 0, zM0) ::
  (38, .iload_n 1, 1, 1, [], 0, 0, zM0) ::
  (39, .aload_n 0, 1, 0, [], 0, 0, zM0) ::
  (40, .getfield 29, 3, 11, [10, 2, 5046], 0, 0, zM0) ::
  (43, .iload_n 1, 1, 1, [], 0, 0, zM0) ::
  (44, .iaload, 1, 0, [], 0, 0, zM0) ::
  (45, .iastore, 1, 45, [], 0, 0, zM0) ::
  (46, .iinc 1 1, 3, 1, [], 1, 0, zM0) ::
  (49, .goto (-21), 3, 28, [], 0, 0, zM0) :: tkX11_image_52
def tkX11_image_26 : List mE := (26, .iconst 0, 1, 26, [], 0, 0, zM0) ::
  (27, .istore_n 1, 1, 1, [], 0, 0, zM0) :: tkX11_image_28
def tkX11_image_2 : List mE := (2, .iload_n 1, 1, 1, [], 0, 0, zM0) ::
  (3, .bipush 10, 2, 3, [], 10, 0, zM0) ::
  (5, .if_icmp .ge 21, 3, 26, [], 0, 0, zM0) ::
  (8, .aload_n 0, 1, 0, [], 0, 0, zM0) ::
  (9, .getfield 38, 3, 11, [37, 2, 5073], 0, 0, zM0) ::
  (12, .iload_n 1, 1, 1, [], 0, 0, zM0) ::
  (13, .aload_n 0, 1, 0, [], 0, 0, zM0) ::
  (14, .getfield 23, 3, 11, [8, 2, 5044], 0, 0, zM0) ::
  (17, .iload_n 1, 1, 1, [], 0, 0, zM0) ::
  (18, .iaload, 1, 0, [], 0, 0, zM0) ::
  (19, .iastore, 1, 19, [], 0, 0, zM0) ::
  (20, .iinc 1 1, 3, 1, [], 1, 0, zM0) ::
  (23, .goto (-21), 3, 2, [], 0, 0, zM0) :: tkX11_image_26
def tkX11_image_0 : List mE := (0, .iconst 0, 1, 0, [], 0, 0, zM0) ::
  (1, .istore_n 1, 1, 1, [], 0, 0, zM0) :: tkX11_image_2
def tkX11_image : List mE := tkX11_image_0
theorem zkX11_image : zat 0 tkX11_image = tkX11_image_0 ∧ zat 2 tkX11_image = tkX11_image_2 ∧ zat 26 tkX11_image = tkX11_image_26 ∧ zat 28 tkX11_image = tkX11_image_28 ∧ zat 52 tkX11_image = tkX11_image_52 := ⟨rfl, rfl, rfl, rfl, rfl⟩
theorem okX11_image : zok kX11_image.2.1 kX11_image.2.2.1 kX11_image.2.2.2.1 tkX11_image = true := by decide +kernel
def tkX11_back_63 : List mE := (63, .aload_n 0, 1, 0, [], 0, 0, zM0) ::
  (64, .aload_n 0, 1, 0, [], 0, 0, zM0) ::
  (65, .getfield 44, 3, 11, [39, 0, 5075], 0, 0, zM0) ::
  (68, .putfield 67, 3, 11, [11, 0, 5047], 0, 0, zM0) ::
  (71, .aload_n 0, 1, 0, [], 0, 0, zM0) ::
  (72, .aload_n 0, 1, 0, [], 0, 0, zM0) ::
  (73, .getfield 366, 3, 11, [40, 0, 5076], 0, 0, zM0) ::
  (76, .putfield 97, 3, 11, [7, 0, 5043], 0, 0, zM0) ::
  (79, .aload_n 0, 1, 0, [], 0, 0, zM0) ::
  (80, .aload_n 0, 1, 0, [], 0, 0, zM0) ::
  (81, .getfield 369, 3, 11, [41, 0, 5077], 0, 0, zM0) ::
  (84, .putfield 100, 3, 11, [4, 0, 5040], 0, 0, zM0) ::
  (87, .aload_n 0, 1, 0, [], 0, 0, zM0) ::
  (88, .getfield 67, 3, 11, [11, 0, 5047], 0, 0, zM0) ::
  (91, .ireturn, 1, 91, [], 0, 0, zM0) :: []
def tkX11_back_39 : List mE := (39, .iload_n 1, 1, 1, [], 0, 0, zM0) ::
  (40, .bipush 15, 2, 40, [], 15, 0, zM0) ::
  (42, .if_icmp .ge 21, 3, 63, [], 0, 0, zM0) ::
  (45, .aload_n 0, 1, 0, [], 0, 0, zM0) ::
  (46, .getfield 29, 3, 11, [10, 2, 5046], 0, 0, zM0) ::
  (49, .iload_n 1, 1, 1, [], 0, 0, zM0) ::
  (50, .aload_n 0, 1, 0, [], 0, 0, zM0) ::
  (51, .getfield 41, 3, 11, [38, 2, 5074], 0, 0, zM0) ::
  (54, .iload_n 1, 1, 1, [], 0, 0, zM0) ::
  (55, .iaload, 1, 0, [], 0, 0, zM0) ::
  (56, .iastore, 1, 56, [], 0, 0, zM0) ::
  (57, .iinc 1 1, 3, 1, [], 1, 0, zM0) ::
  (60, .goto (-21), 3, 39, [], 0, 0, zM0) :: tkX11_back_63
def tkX11_back_37 : List mE := (37, .iconst 0, 1, 37, [], 0, 0, zM0) ::
  (38, .istore_n 1, 1, 1, [], 0, 0, zM0) :: tkX11_back_39
def tkX11_back_13 : List mE := (13, .iload_n 1, 1, 1, [], 0, 0, zM0) ::
  (14, .bipush 10, 2, 14, [], 10, 0, zM0) ::
  (16, .if_icmp .ge 21, 3, 37, [], 0, 0, zM0) ::
  (19, .aload_n 0, 1, 0, [], 0, 0, zM0) ::
  (20, .getfield 23, 3, 11, [8, 2, 5044], 0, 0, zM0) ::
  (23, .iload_n 1, 1, 1, [], 0, 0, zM0) ::
  (24, .aload_n 0, 1, 0, [], 0, 0, zM0) ::
  (25, .getfield 38, 3, 11, [37, 2, 5073], 0, 0, zM0) ::
  (28, .iload_n 1, 1, 1, [], 0, 0, zM0) ::
  (29, .iaload, 1, 0, [], 0, 0, zM0) ::
  (30, .iastore, 1, 30, [], 0, 0, zM0) ::
  (31, .iinc 1 1, 3, 1, [], 1, 0, zM0) ::
  (34, .goto (-21), 3, 13, [], 0, 0, zM0) :: tkX11_back_37
def tkX11_back_11 : List mE := (11, .iconst 0, 1, 11, [], 0, 0, zM0) ::
  (12, .istore_n 1, 1, 1, [], 0, 0, zM0) :: tkX11_back_13
def tkX11_back_0 : List mE := (0, .aload_n 0, 1, 0, [], 0, 0, zM0) ::
  (1, .getfield 44, 3, 11, [39, 0, 5075], 0, 0, zM0) ::
  (4, .iconst (-1), 1, 4, [], (-1), 0, zM0) ::
  (5, .if_icmp .ne 6, 3, 11, [], 0, 0, zM0) ::
  (8, .bipush (-3), 2, 8, [], (-3), 0, zM0) ::
  (10, .ireturn, 1, 10, [], 0, 0, zM0) :: tkX11_back_11
def tkX11_back : List mE := tkX11_back_0
theorem zkX11_back : zat 0 tkX11_back = tkX11_back_0 ∧ zat 11 tkX11_back = tkX11_back_11 ∧ zat 13 tkX11_back = tkX11_back_13 ∧ zat 37 tkX11_back = tkX11_back_37 ∧ zat 39 tkX11_back = tkX11_back_39 ∧ zat 63 tkX11_back = tkX11_back_63 := ⟨rfl, rfl, rfl, rfl, rfl, rfl⟩
theorem okX11_back : zok kX11_back.2.1 kX11_back.2.2.1 kX11_back.2.2.2.1 tkX11_back = true := by decide +kernel
def tkX11_count_106 : List mE := (106, .ireturn, 1, 106, [], 0, 0, zM0) :: []
def tkX11_count_102 : List mE := (102, .aload_n 0, 1, 0, [], 0, 0, zM0) ::
  (103, .getfield 100, 3, 11, [4, 0, 5040], 0, 0, zM0) :: tkX11_count_106
def tkX11_count_90 : List mE := (90, .iload_n 1, 1, 1, [], 0, 0, zM0) ::
  (91, .iconst 4, 1, 91, [], 4, 0, zM0) ::
  (92, .if_icmp .ne 10, 3, 102, [], 0, 0, zM0) ::
  (95, .aload_n 0, 1, 0, [], 0, 0, zM0) ::
  (96, .getfield 118, 3, 11, [6, 0, 5042], 0, 0, zM0) ::
  (99, .goto 7, 3, 106, [], 0, 0, zM0) :: tkX11_count_102
def tkX11_count_78 : List mE := (78, .iload_n 1, 1, 1, [], 0, 0, zM0) ::
  (79, .iconst 3, 1, 79, [], 3, 0, zM0) ::
  (80, .if_icmp .ne 10, 3, 90, [], 0, 0, zM0) ::
  (83, .aload_n 0, 1, 0, [], 0, 0, zM0) ::
  (84, .getfield 64, 3, 11, [3, 0, 5039], 0, 0, zM0) ::
  (87, .goto 19, 3, 106, [], 0, 0, zM0) :: tkX11_count_90
def tkX11_count_69 : List mE := (69, .iload_n 1, 1, 1, [], 0, 0, zM0) ::
  (70, .iconst 2, 1, 70, [], 2, 0, zM0) ::
  (71, .if_icmp .ne 7, 3, 78, [], 0, 0, zM0) ::
  (74, .iload_n 2, 1, 2, [], 0, 0, zM0) ::
  (75, .goto 31, 3, 106, [], 0, 0, zM0) :: tkX11_count_78
def tkX11_count_57 : List mE := (57, .iload_n 1, 1, 1, [], 0, 0, zM0) ::
  (58, .iconst 1, 1, 58, [], 1, 0, zM0) ::
  (59, .if_icmp .ne 10, 3, 69, [], 0, 0, zM0) ::
  (62, .aload_n 0, 1, 0, [], 0, 0, zM0) ::
  (63, .invokevirtual 372, 3, 11, [7038, 0, 1], 0, 0, kX11_twos) ::
  (66, .goto 40, 3, 106, [], 0, 0, zM0) :: tkX11_count_69
def tkX11_count_46 : List mE := (46, .iload_n 1, 1, 1, [], 0, 0, zM0) ::
  (47, .ifCond .ne 10, 3, 57, [], 0, 0, zM0) ::
  (50, .aload_n 0, 1, 0, [], 0, 0, zM0) ::
  (51, .getfield 67, 3, 11, [11, 0, 5047], 0, 0, zM0) ::
  (54, .goto 52, 3, 106, [], 0, 0, zM0) :: tkX11_count_57
def tkX11_count_19 : List mE := (19, .iload_n 3, 1, 3, [], 0, 0, zM0) ::
  (20, .aload_n 0, 1, 0, [], 0, 0, zM0) ::
  (21, .getfield 67, 3, 11, [11, 0, 5047], 0, 0, zM0) ::
  (24, .if_icmp .ge 22, 3, 46, [], 0, 0, zM0) ::
  (27, .iload_n 2, 1, 2, [], 0, 0, zM0) ::
  (28, .aload_n 0, 1, 0, [], 0, 0, zM0) ::
  (29, .getfield 29, 3, 11, [10, 2, 5046], 0, 0, zM0) ::
  (32, .iconst 3, 1, 32, [], 3, 0, zM0) ::
  (33, .iload_n 3, 1, 3, [], 0, 0, zM0) ::
  (34, .imul, 1, 34, [], 0, 0, zM0) ::
  (35, .iconst 2, 1, 35, [], 2, 0, zM0) ::
  (36, .iadd, 1, 36, [], 0, 0, zM0) ::
  (37, .iaload, 1, 0, [], 0, 0, zM0) ::
  (38, .iadd, 1, 38, [], 0, 0, zM0) ::
  (39, .istore_n 2, 1, 2, [], 0, 0, zM0) ::
  (40, .iinc 3 1, 3, 3, [], 1, 0, zM0) ::
  (43, .goto (-24), 3, 19, [], 0, 0, zM0) :: tkX11_count_46
def tkX11_count_15 : List mE := (15, .iconst 0, 1, 15, [], 0, 0, zM0) ::
  (16, .istore_n 2, 1, 2, [], 0, 0, zM0) ::
  (17, .iconst 0, 1, 17, [], 0, 0, zM0) ::
  (18, .istore_n 3, 1, 3, [], 0, 0, zM0) :: tkX11_count_19
def tkX11_count_0 : List mE := (0, .iload_n 1, 1, 1, [], 0, 0, zM0) ::
  (1, .i2l, 1, 1, [], 0, 0, zM0) ::
  (2, .lconst 0, 1, 2, [], 0, 0, zM0) ::
  (3, .ldc2_w 103, 3, 3, [6077], 0, 5, zM0) ::
  (6, .invokestatic 70, 3, 0, [5184, 3, 1], 0, 0, kX11_in) ::
  (9, .ifCond .ne 6, 3, 15, [], 0, 0, zM0) ::
  (12, .bipush (-2), 2, 12, [], (-2), 0, zM0) ::
  (14, .ireturn, 1, 14, [], 0, 0, zM0) :: tkX11_count_15
def tkX11_count : List mE := tkX11_count_0
theorem zkX11_count : zat 0 tkX11_count = tkX11_count_0 ∧ zat 15 tkX11_count = tkX11_count_15 ∧ zat 19 tkX11_count = tkX11_count_19 ∧ zat 46 tkX11_count = tkX11_count_46 ∧ zat 57 tkX11_count = tkX11_count_57 ∧ zat 69 tkX11_count = tkX11_count_69 ∧ zat 78 tkX11_count = tkX11_count_78 ∧ zat 90 tkX11_count = tkX11_count_90 ∧ zat 102 tkX11_count = tkX11_count_102 ∧ zat 106 tkX11_count = tkX11_count_106 := ⟨rfl, rfl, rfl, rfl, rfl, rfl, rfl, rfl, rfl, rfl⟩
theorem okX11_count : zok kX11_count.2.1 kX11_count.2.2.1 kX11_count.2.2.2.1 tkX11_count = true := by decide +kernel
def tkX11_twos_28 : List mE := (28, .iload_n 1, 1, 1, [], 0, 0, zM0) ::
  (29, .ireturn, 1, 29, [], 0, 0, zM0) :: []
def tkX11_twos_4 : List mE := (4, .iload_n 2, 1, 2, [], 0, 0, zM0) ::
  (5, .bipush 10, 2, 5, [], 10, 0, zM0) ::
  (7, .if_icmp .ge 21, 3, 28, [], 0, 0, zM0) ::
  (10, .iload_n 1, 1, 1, [], 0, 0, zM0) ::
  (11, .aload_n 0, 1, 0, [], 0, 0, zM0) ::
  (12, .getfield 23, 3, 11, [8, 2, 5044], 0, 0, zM0) ::
  (15, .iload_n 2, 1, 2, [], 0, 0, zM0) ::
  (16, .iaload, 1, 0, [], 0, 0, zM0) ::
  (17, .invokestatic 235, 3, 0, [5232, 1, 1], 0, 0, kX11_bitsOf) ::
  (20, .iadd, 1, 20, [], 0, 0, zM0) ::
  (21, .istore_n 1, 1, 1, [], 0, 0, zM0) ::
  (22, .iinc 2 1, 3, 2, [], 1, 0, zM0) ::
  (25, .goto (-21), 3, 4, [], 0, 0, zM0) :: tkX11_twos_28
def tkX11_twos_0 : List mE := (0, .iconst 0, 1, 0, [], 0, 0, zM0) ::
  (1, .istore_n 1, 1, 1, [], 0, 0, zM0) ::
  (2, .iconst 0, 1, 2, [], 0, 0, zM0) ::
  (3, .istore_n 2, 1, 2, [], 0, 0, zM0) :: tkX11_twos_4
def tkX11_twos : List mE := tkX11_twos_0
theorem zkX11_twos : zat 0 tkX11_twos = tkX11_twos_0 ∧ zat 4 tkX11_twos = tkX11_twos_4 ∧ zat 28 tkX11_twos = tkX11_twos_28 := ⟨rfl, rfl, rfl⟩
theorem okX11_twos : zok kX11_twos.2.1 kX11_twos.2.2.1 kX11_twos.2.2.2.1 tkX11_twos = true := by decide +kernel
def tkX11_cell_83 : List mE := (83, .iastore, 1, 83, [], 0, 0, zM0) ::
  (84, .iconst 1, 1, 84, [], 1, 0, zM0) ::
  (85, .ireturn, 1, 85, [], 0, 0, zM0) :: []
def tkX11_cell_82 : List mE := (82, .iload_n 3, 1, 3, [], 0, 0, zM0) :: tkX11_cell_83
def tkX11_cell_67 : List mE := (67, .aload_n 0, 1, 0, [], 0, 0, zM0) ::
  (68, .getfield 51, 3, 11, [43, 2, 5079], 0, 0, zM0) ::
  (71, .iload_n 1, 1, 1, [], 0, 0, zM0) ::
  (72, .iaload, 1, 0, [], 0, 0, zM0) ::
  (73, .iconst 1, 1, 73, [], 1, 0, zM0) ::
  (74, .if_icmp .ne 8, 3, 82, [], 0, 0, zM0) ::
  (77, .iload_n 3, 1, 3, [], 0, 0, zM0) ::
  (78, .i2s, 1, 78, [], 0, 0, zM0) ::
  (79, .goto 4, 3, 83, [], 0, 0, zM0) :: tkX11_cell_82
def tkX11_cell_43 : List mE := (43, .aload_n 0, 1, 0, [], 0, 0, zM0) ::
  (44, .getfield 57, 3, 11, [45, 2, 5081], 0, 0, zM0) ::
  (47, .bipush 40, 2, 47, [], 40, 0, zM0) ::
  (49, .iload_n 1, 1, 1, [], 0, 0, zM0) ::
  (50, .imul, 1, 50, [], 0, 0, zM0) ::
  (51, .iload_n 2, 1, 2, [], 0, 0, zM0) ::
  (52, .iadd, 1, 52, [], 0, 0, zM0) ::
  (53, .aload_n 0, 1, 0, [], 0, 0, zM0) ::
  (54, .getfield 51, 3, 11, [43, 2, 5079], 0, 0, zM0) ::
  (57, .iload_n 1, 1, 1, [], 0, 0, zM0) ::
  (58, .iaload, 1, 0, [], 0, 0, zM0) ::
  (59, .ifCond .ne 8, 3, 67, [], 0, 0, zM0) ::
  (62, .iload_n 3, 1, 3, [], 0, 0, zM0) ::
  (63, .i2b, 1, 63, [], 0, 0, zM0) ::
  (64, .goto 19, 3, 83, [], 0, 0, zM0) :: tkX11_cell_67
def tkX11_cell_22 : List mE := (22, .iload_n 2, 1, 2, [], 0, 0, zM0) ::
  (23, .i2l, 1, 23, [], 0, 0, zM0) ::
  (24, .lconst 0, 1, 24, [], 0, 0, zM0) ::
  (25, .aload_n 0, 1, 0, [], 0, 0, zM0) ::
  (26, .getfield 54, 3, 11, [44, 2, 5080], 0, 0, zM0) ::
  (29, .iload_n 1, 1, 1, [], 0, 0, zM0) ::
  (30, .iaload, 1, 0, [], 0, 0, zM0) ::
  (31, .iconst 1, 1, 31, [], 1, 0, zM0) ::
  (32, .isub, 1, 32, [], 0, 0, zM0) ::
  (33, .i2l, 1, 33, [], 0, 0, zM0) ::
  (34, .invokestatic 70, 3, 0, [5184, 3, 1], 0, 0, kX11_in) ::
  (37, .ifCond .ne 6, 3, 43, [], 0, 0, zM0) ::
  (40, .bipush (-12), 2, 40, [], (-12), 0, zM0) ::
  (42, .ireturn, 1, 42, [], 0, 0, zM0) :: tkX11_cell_43
def tkX11_cell_10 : List mE := (10, .aload_n 0, 1, 0, [], 0, 0, zM0) ::
  (11, .getfield 47, 3, 11, [42, 2, 5078], 0, 0, zM0) ::
  (14, .iload_n 1, 1, 1, [], 0, 0, zM0) ::
  (15, .baload, 1, 15, [], 0, 0, zM0) ::
  (16, .ifCond .ne 6, 3, 22, [], 0, 0, zM0) ::
  (19, .bipush (-11), 2, 19, [], (-11), 0, zM0) ::
  (21, .ireturn, 1, 21, [], 0, 0, zM0) :: tkX11_cell_22
def tkX11_cell_0 : List mE := (0, .iload_n 1, 1, 1, [], 0, 0, zM0) ::
  (1, .invokestatic 278, 3, 0, [6124, 1, 1], 0, 0, kX11_isSheet) ::
  (4, .ifCond .ne 6, 3, 10, [], 0, 0, zM0) ::
  (7, .bipush (-2), 2, 7, [], (-2), 0, zM0) ::
  (9, .ireturn, 1, 9, [], 0, 0, zM0) :: tkX11_cell_10
def tkX11_cell : List mE := tkX11_cell_0
theorem zkX11_cell : zat 0 tkX11_cell = tkX11_cell_0 ∧ zat 10 tkX11_cell = tkX11_cell_10 ∧ zat 22 tkX11_cell = tkX11_cell_22 ∧ zat 43 tkX11_cell = tkX11_cell_43 ∧ zat 67 tkX11_cell = tkX11_cell_67 ∧ zat 82 tkX11_cell = tkX11_cell_82 ∧ zat 83 tkX11_cell = tkX11_cell_83 := ⟨rfl, rfl, rfl, rfl, rfl, rfl, rfl⟩
theorem okX11_cell : zok kX11_cell.2.1 kX11_cell.2.2.1 kX11_cell.2.2.2.1 tkX11_cell = true := by decide +kernel
def tkX11_copy_182 : List mE := (182, .iload 5, 2, 5, [], 0, 0, zM0) ::
  (184, .ireturn, 1, 184, [], 0, 0, zM0) :: []
def tkX11_copy_145 : List mE := (145, .istore 8, 2, 8, [], 0, 0, zM0) ::
  (147, .aload_n 0, 1, 0, [], 0, 0, zM0) ::
  (148, .getfield 57, 3, 11, [45, 2, 5081], 0, 0, zM0) ::
  (151, .bipush 40, 2, 151, [], 40, 0, zM0) ::
  (153, .iload_n 3, 1, 3, [], 0, 0, zM0) ::
  (154, .imul, 1, 154, [], 0, 0, zM0) ::
  (155, .iload 4, 2, 4, [], 0, 0, zM0) ::
  (157, .iadd, 1, 157, [], 0, 0, zM0) ::
  (158, .iload 8, 2, 8, [], 0, 0, zM0) ::
  (160, .iadd, 1, 160, [], 0, 0, zM0) ::
  (161, .aload_n 0, 1, 0, [], 0, 0, zM0) ::
  (162, .getfield 57, 3, 11, [45, 2, 5081], 0, 0, zM0) ::
  (165, .bipush 40, 2, 165, [], 40, 0, zM0) ::
  (167, .iload_n 1, 1, 1, [], 0, 0, zM0) ::
  (168, .imul, 1, 168, [], 0, 0, zM0) ::
  (169, .iload_n 2, 1, 2, [], 0, 0, zM0) ::
  (170, .iadd, 1, 170, [], 0, 0, zM0) ::
  (171, .iload 8, 2, 8, [], 0, 0, zM0) ::
  (173, .iadd, 1, 173, [], 0, 0, zM0) ::
  (174, .iaload, 1, 0, [], 0, 0, zM0) ::
  (175, .iastore, 1, 175, [], 0, 0, zM0) ::
  (176, .iinc 7 1, 3, 7, [], 1, 0, zM0) ::
  (179, .goto (-58), 3, 121, [], 0, 0, zM0) :: tkX11_copy_182
def tkX11_copy_143 : List mE := (143, .iload 7, 2, 7, [], 0, 0, zM0) :: tkX11_copy_145
def tkX11_copy_121 : List mE := (121, .iload 7, 2, 7, [], 0, 0, zM0) ::
  (123, .iload 5, 2, 5, [], 0, 0, zM0) ::
  (125, .if_icmp .ge 57, 3, 182, [], 0, 0, zM0) ::
  (128, .iload 6, 2, 6, [], 0, 0, zM0) ::
  (130, .ifCond .eq 13, 3, 143, [], 0, 0, zM0) ::
  (133, .iload 5, 2, 5, [], 0, 0, zM0) ::
  (135, .iconst 1, 1, 135, [], 1, 0, zM0) ::
  (136, .isub, 1, 136, [], 0, 0, zM0) ::
  (137, .iload 7, 2, 7, [], 0, 0, zM0) ::
  (139, .isub, 1, 139, [], 0, 0, zM0) ::
  (140, .goto 5, 3, 145, [], 0, 0, zM0) :: tkX11_copy_143
def tkX11_copy_116 : List mE := (116, .istore 6, 2, 6, [], 0, 0, zM0) ::
  (118, .iconst 0, 1, 118, [], 0, 0, zM0) ::
  (119, .istore 7, 2, 7, [], 0, 0, zM0) :: tkX11_copy_121
def tkX11_copy_115 : List mE := (115, .iconst 0, 1, 115, [], 0, 0, zM0) :: tkX11_copy_116
def tkX11_copy_100 : List mE := (100, .iload_n 1, 1, 1, [], 0, 0, zM0) ::
  (101, .iload_n 3, 1, 3, [], 0, 0, zM0) ::
  (102, .if_icmp .ne 13, 3, 115, [], 0, 0, zM0) ::
  (105, .iload_n 2, 1, 2, [], 0, 0, zM0) ::
  (106, .iload 4, 2, 4, [], 0, 0, zM0) ::
  (108, .if_icmp .ge 7, 3, 115, [], 0, 0, zM0) ::
  (111, .iconst 1, 1, 111, [], 1, 0, zM0) ::
  (112, .goto 4, 3, 116, [], 0, 0, zM0) :: tkX11_copy_115
def tkX11_copy_97 : List mE := (97, .bipush (-12), 2, 97, [], (-12), 0, zM0) ::
  (99, .ireturn, 1, 99, [], 0, 0, zM0) :: tkX11_copy_100
def tkX11_copy_56 : List mE := (56, .iload 5, 2, 5, [], 0, 0, zM0) ::
  (58, .ifCond .lt 39, 3, 97, [], 0, 0, zM0) ::
  (61, .iload_n 2, 1, 2, [], 0, 0, zM0) ::
  (62, .ifCond .lt 35, 3, 97, [], 0, 0, zM0) ::
  (65, .iload 4, 2, 4, [], 0, 0, zM0) ::
  (67, .ifCond .lt 30, 3, 97, [], 0, 0, zM0) ::
  (70, .iload_n 2, 1, 2, [], 0, 0, zM0) ::
  (71, .aload_n 0, 1, 0, [], 0, 0, zM0) ::
  (72, .getfield 54, 3, 11, [44, 2, 5080], 0, 0, zM0) ::
  (75, .iload_n 1, 1, 1, [], 0, 0, zM0) ::
  (76, .iaload, 1, 0, [], 0, 0, zM0) ::
  (77, .iload 5, 2, 5, [], 0, 0, zM0) ::
  (79, .isub, 1, 79, [], 0, 0, zM0) ::
  (80, .if_icmp .gt 17, 3, 97, [], 0, 0, zM0) ::
  (83, .iload 4, 2, 4, [], 0, 0, zM0) ::
  (85, .aload_n 0, 1, 0, [], 0, 0, zM0) ::
  (86, .getfield 54, 3, 11, [44, 2, 5080], 0, 0, zM0) ::
  (89, .iload_n 3, 1, 3, [], 0, 0, zM0) ::
  (90, .iaload, 1, 0, [], 0, 0, zM0) ::
  (91, .iload 5, 2, 5, [], 0, 0, zM0) ::
  (93, .isub, 1, 93, [], 0, 0, zM0) ::
  (94, .if_icmp .le 6, 3, 100, [], 0, 0, zM0) :: tkX11_copy_97
def tkX11_copy_38 : List mE := (38, .aload_n 0, 1, 0, [], 0, 0, zM0) ::
  (39, .getfield 51, 3, 11, [43, 2, 5079], 0, 0, zM0) ::
  (42, .iload_n 1, 1, 1, [], 0, 0, zM0) ::
  (43, .iaload, 1, 0, [], 0, 0, zM0) ::
  (44, .aload_n 0, 1, 0, [], 0, 0, zM0) ::
  (45, .getfield 51, 3, 11, [43, 2, 5079], 0, 0, zM0) ::
  (48, .iload_n 3, 1, 3, [], 0, 0, zM0) ::
  (49, .iaload, 1, 0, [], 0, 0, zM0) ::
  (50, .if_icmp .eq 6, 3, 56, [], 0, 0, zM0) ::
  (53, .bipush (-13), 2, 53, [], (-13), 0, zM0) ::
  (55, .ireturn, 1, 55, [], 0, 0, zM0) :: tkX11_copy_56
def tkX11_copy_35 : List mE := (35, .bipush (-11), 2, 35, [], (-11), 0, zM0) ::
  (37, .ireturn, 1, 37, [], 0, 0, zM0) :: tkX11_copy_38
def tkX11_copy_17 : List mE := (17, .aload_n 0, 1, 0, [], 0, 0, zM0) ::
  (18, .getfield 47, 3, 11, [42, 2, 5078], 0, 0, zM0) ::
  (21, .iload_n 1, 1, 1, [], 0, 0, zM0) ::
  (22, .baload, 1, 22, [], 0, 0, zM0) ::
  (23, .ifCond .eq 12, 3, 35, [], 0, 0, zM0) ::
  (26, .aload_n 0, 1, 0, [], 0, 0, zM0) ::
  (27, .getfield 47, 3, 11, [42, 2, 5078], 0, 0, zM0) ::
  (30, .iload_n 3, 1, 3, [], 0, 0, zM0) ::
  (31, .baload, 1, 31, [], 0, 0, zM0) ::
  (32, .ifCond .ne 6, 3, 38, [], 0, 0, zM0) :: tkX11_copy_35
def tkX11_copy_14 : List mE := (14, .bipush (-2), 2, 14, [], (-2), 0, zM0) ::
  (16, .ireturn, 1, 16, [], 0, 0, zM0) :: tkX11_copy_17
def tkX11_copy_0 : List mE := (0, .iload_n 1, 1, 1, [], 0, 0, zM0) ::
  (1, .invokestatic 278, 3, 0, [6124, 1, 1], 0, 0, kX11_isSheet) ::
  (4, .ifCond .eq 10, 3, 14, [], 0, 0, zM0) ::
  (7, .iload_n 3, 1, 3, [], 0, 0, zM0) ::
  (8, .invokestatic 278, 3, 0, [6124, 1, 1], 0, 0, kX11_isSheet) ::
  (11, .ifCond .ne 6, 3, 17, [], 0, 0, zM0) :: tkX11_copy_14
def tkX11_copy : List mE := tkX11_copy_0
set_option maxRecDepth 100000 in
theorem zkX11_copy : zat 0 tkX11_copy = tkX11_copy_0 ∧ zat 14 tkX11_copy = tkX11_copy_14 ∧ zat 17 tkX11_copy = tkX11_copy_17 ∧ zat 35 tkX11_copy = tkX11_copy_35 ∧ zat 38 tkX11_copy = tkX11_copy_38 ∧ zat 56 tkX11_copy = tkX11_copy_56 ∧ zat 97 tkX11_copy = tkX11_copy_97 ∧ zat 100 tkX11_copy = tkX11_copy_100 ∧ zat 115 tkX11_copy = tkX11_copy_115 ∧ zat 116 tkX11_copy = tkX11_copy_116 ∧ zat 121 tkX11_copy = tkX11_copy_121 ∧ zat 143 tkX11_copy = tkX11_copy_143 ∧ zat 145 tkX11_copy = tkX11_copy_145 ∧ zat 182 tkX11_copy = tkX11_copy_182 := ⟨rfl, rfl, rfl, rfl, rfl, rfl, rfl, rfl, rfl, rfl, rfl, rfl, rfl, rfl⟩
theorem okX11_copy : zok kX11_copy.2.1 kX11_copy.2.2.1 kX11_copy.2.2.2.1 tkX11_copy = true := by decide +kernel
def tkX11_hens_158 : List mE := (158, .iload 5, 2, 5, [], 0, 0, zM0) ::
  (160, .ireturn, 1, 160, [], 0, 0, zM0) :: []
def tkX11_hens_149 : List mE := (149, .iadd, 1, 149, [], 0, 0, zM0) ::
  (150, .istore 5, 2, 5, [], 0, 0, zM0) ::
  (152, .iinc 6 1, 3, 6, [], 1, 0, zM0) ::
  (155, .goto (-80), 3, 75, [], 0, 0, zM0) :: tkX11_hens_158
def tkX11_hens_148 : List mE := (148, .iconst 0, 1, 148, [], 0, 0, zM0) :: tkX11_hens_149
def tkX11_hens_106 : List mE := (106, .bipush 40, 2, 106, [], 40, 0, zM0) ::
  (108, .iload_n 1, 1, 1, [], 0, 0, zM0) ::
  (109, .imul, 1, 109, [], 0, 0, zM0) ::
  (110, .iload_n 3, 1, 3, [], 0, 0, zM0) ::
  (111, .iadd, 1, 111, [], 0, 0, zM0) ::
  (112, .iconst 2, 1, 112, [], 2, 0, zM0) ::
  (113, .iload 6, 2, 6, [], 0, 0, zM0) ::
  (115, .imul, 1, 115, [], 0, 0, zM0) ::
  (116, .iadd, 1, 116, [], 0, 0, zM0) ::
  (117, .istore 7, 2, 7, [], 0, 0, zM0) ::
  (119, .iload 5, 2, 5, [], 0, 0, zM0) ::
  (121, .aload_n 0, 1, 0, [], 0, 0, zM0) ::
  (122, .aload_n 0, 1, 0, [], 0, 0, zM0) ::
  (123, .getfield 57, 3, 11, [45, 2, 5081], 0, 0, zM0) ::
  (126, .iload 7, 2, 7, [], 0, 0, zM0) ::
  (128, .iaload, 1, 0, [], 0, 0, zM0) ::
  (129, .aload_n 0, 1, 0, [], 0, 0, zM0) ::
  (130, .getfield 57, 3, 11, [45, 2, 5081], 0, 0, zM0) ::
  (133, .iload 7, 2, 7, [], 0, 0, zM0) ::
  (135, .iconst 1, 1, 135, [], 1, 0, zM0) ::
  (136, .iadd, 1, 136, [], 0, 0, zM0) ::
  (137, .iaload, 1, 0, [], 0, 0, zM0) ::
  (138, .invokevirtual 377, 3, 11, [7055, 2, 1], 0, 0, kX11_hen) ::
  (141, .ifCond .lt 7, 3, 148, [], 0, 0, zM0) ::
  (144, .iconst 1, 1, 144, [], 1, 0, zM0) ::
  (145, .goto 4, 3, 149, [], 0, 0, zM0) :: tkX11_hens_148
def tkX11_hens_103 : List mE := (103, .bipush (-12), 2, 103, [], (-12), 0, zM0) ::
  (105, .ireturn, 1, 105, [], 0, 0, zM0) :: tkX11_hens_106
def tkX11_hens_75 : List mE := (75, .iload 6, 2, 6, [], 0, 0, zM0) ::
  (77, .iload 4, 2, 4, [], 0, 0, zM0) ::
  (79, .if_icmp .ge 79, 3, 158, [], 0, 0, zM0) ::
  (82, .iload_n 3, 1, 3, [], 0, 0, zM0) ::
  (83, .ifCond .lt 20, 3, 103, [], 0, 0, zM0) ::
  (86, .iload_n 3, 1, 3, [], 0, 0, zM0) ::
  (87, .aload_n 0, 1, 0, [], 0, 0, zM0) ::
  (88, .getfield 54, 3, 11, [44, 2, 5080], 0, 0, zM0) ::
  (91, .iload_n 1, 1, 1, [], 0, 0, zM0) ::
  (92, .iaload, 1, 0, [], 0, 0, zM0) ::
  (93, .iconst 2, 1, 93, [], 2, 0, zM0) ::
  (94, .iload 6, 2, 6, [], 0, 0, zM0) ::
  (96, .imul, 1, 96, [], 0, 0, zM0) ::
  (97, .isub, 1, 97, [], 0, 0, zM0) ::
  (98, .iconst 2, 1, 98, [], 2, 0, zM0) ::
  (99, .isub, 1, 99, [], 0, 0, zM0) ::
  (100, .if_icmp .le 6, 3, 106, [], 0, 0, zM0) :: tkX11_hens_103
def tkX11_hens_69 : List mE := (69, .iconst 0, 1, 69, [], 0, 0, zM0) ::
  (70, .istore 5, 2, 5, [], 0, 0, zM0) ::
  (72, .iconst 0, 1, 72, [], 0, 0, zM0) ::
  (73, .istore 6, 2, 6, [], 0, 0, zM0) :: tkX11_hens_75
def tkX11_hens_57 : List mE := (57, .aload_n 0, 1, 0, [], 0, 0, zM0) ::
  (58, .getfield 47, 3, 11, [42, 2, 5078], 0, 0, zM0) ::
  (61, .iload_n 1, 1, 1, [], 0, 0, zM0) ::
  (62, .baload, 1, 62, [], 0, 0, zM0) ::
  (63, .ifCond .ne 6, 3, 69, [], 0, 0, zM0) ::
  (66, .bipush (-11), 2, 66, [], (-11), 0, zM0) ::
  (68, .ireturn, 1, 68, [], 0, 0, zM0) :: tkX11_hens_69
def tkX11_hens_35 : List mE := (35, .aload_n 0, 1, 0, [], 0, 0, zM0) ::
  (36, .getfield 47, 3, 11, [42, 2, 5078], 0, 0, zM0) ::
  (39, .iload_n 1, 1, 1, [], 0, 0, zM0) ::
  (40, .baload, 1, 40, [], 0, 0, zM0) ::
  (41, .ifCond .eq 16, 3, 57, [], 0, 0, zM0) ::
  (44, .aload_n 0, 1, 0, [], 0, 0, zM0) ::
  (45, .getfield 51, 3, 11, [43, 2, 5079], 0, 0, zM0) ::
  (48, .iload_n 1, 1, 1, [], 0, 0, zM0) ::
  (49, .iaload, 1, 0, [], 0, 0, zM0) ::
  (50, .iload_n 2, 1, 2, [], 0, 0, zM0) ::
  (51, .if_icmp .eq 6, 3, 57, [], 0, 0, zM0) ::
  (54, .bipush (-13), 2, 54, [], (-13), 0, zM0) ::
  (56, .ireturn, 1, 56, [], 0, 0, zM0) :: tkX11_hens_57
def tkX11_hens_32 : List mE := (32, .bipush (-2), 2, 32, [], (-2), 0, zM0) ::
  (34, .ireturn, 1, 34, [], 0, 0, zM0) :: tkX11_hens_35
def tkX11_hens_0 : List mE := (0, .iload_n 1, 1, 1, [], 0, 0, zM0) ::
  (1, .invokestatic 278, 3, 0, [6124, 1, 1], 0, 0, kX11_isSheet) ::
  (4, .ifCond .eq 28, 3, 32, [], 0, 0, zM0) ::
  (7, .iload_n 2, 1, 2, [], 0, 0, zM0) ::
  (8, .i2l, 1, 8, [], 0, 0, zM0) ::
  (9, .lconst 0, 1, 9, [], 0, 0, zM0) ::
  (10, .ldc2_w 318, 3, 10, [6181], 0, 2, zM0) ::
  (13, .invokestatic 70, 3, 0, [5184, 3, 1], 0, 0, kX11_in) ::
  (16, .ifCond .eq 16, 3, 32, [], 0, 0, zM0) ::
  (19, .iload 4, 2, 4, [], 0, 0, zM0) ::
  (21, .i2l, 1, 21, [], 0, 0, zM0) ::
  (22, .lconst 0, 1, 22, [], 0, 0, zM0) ::
  (23, .ldc2_w 103, 3, 23, [6077], 0, 5, zM0) ::
  (26, .invokestatic 70, 3, 0, [5184, 3, 1], 0, 0, kX11_in) ::
  (29, .ifCond .ne 6, 3, 35, [], 0, 0, zM0) :: tkX11_hens_32
def tkX11_hens : List mE := tkX11_hens_0
theorem zkX11_hens : zat 0 tkX11_hens = tkX11_hens_0 ∧ zat 32 tkX11_hens = tkX11_hens_32 ∧ zat 35 tkX11_hens = tkX11_hens_35 ∧ zat 57 tkX11_hens = tkX11_hens_57 ∧ zat 69 tkX11_hens = tkX11_hens_69 ∧ zat 75 tkX11_hens = tkX11_hens_75 ∧ zat 103 tkX11_hens = tkX11_hens_103 ∧ zat 106 tkX11_hens = tkX11_hens_106 ∧ zat 148 tkX11_hens = tkX11_hens_148 ∧ zat 149 tkX11_hens = tkX11_hens_149 ∧ zat 158 tkX11_hens = tkX11_hens_158 := ⟨rfl, rfl, rfl, rfl, rfl, rfl, rfl, rfl, rfl, rfl, rfl⟩
theorem okX11_hens : zok kX11_hens.2.1 kX11_hens.2.2.1 kX11_hens.2.2.2.1 tkX11_hens = true := by decide +kernel
def tkX11_taken_69 : List mE := (69, .ireturn, 1, 69, [], 0, 0, zM0) :: []
def tkX11_taken_67 : List mE := (67, .bipush (-13), 2, 67, [], (-13), 0, zM0) :: tkX11_taken_69
def tkX11_taken_51 : List mE := (51, .iload_n 3, 1, 3, [], 0, 0, zM0) ::
  (52, .iload_n 2, 1, 2, [], 0, 0, zM0) ::
  (53, .if_icmp .ne 14, 3, 67, [], 0, 0, zM0) ::
  (56, .aload_n 0, 1, 0, [], 0, 0, zM0) ::
  (57, .getfield 29, 3, 11, [10, 2, 5046], 0, 0, zM0) ::
  (60, .iconst 3, 1, 60, [], 3, 0, zM0) ::
  (61, .iload_n 1, 1, 1, [], 0, 0, zM0) ::
  (62, .imul, 1, 62, [], 0, 0, zM0) ::
  (63, .iaload, 1, 0, [], 0, 0, zM0) ::
  (64, .goto 5, 3, 69, [], 0, 0, zM0) :: tkX11_taken_67
def tkX11_taken_33 : List mE := (33, .iload_n 3, 1, 3, [], 0, 0, zM0) ::
  (34, .iconst (-1), 1, 34, [], (-1), 0, zM0) ::
  (35, .if_icmp .eq 16, 3, 51, [], 0, 0, zM0) ::
  (38, .iload_n 3, 1, 3, [], 0, 0, zM0) ::
  (39, .iload_n 2, 1, 2, [], 0, 0, zM0) ::
  (40, .if_icmp .eq 11, 3, 51, [], 0, 0, zM0) ::
  (43, .iload_n 3, 1, 3, [], 0, 0, zM0) ::
  (44, .invokestatic 380, 3, 0, [7060, 1, 1], 0, 0, kX11_over) ::
  (47, .istore_n 3, 1, 3, [], 0, 0, zM0) ::
  (48, .goto (-15), 3, 33, [], 0, 0, zM0) :: tkX11_taken_51
def tkX11_taken_26 : List mE := (26, .aload_n 0, 1, 0, [], 0, 0, zM0) ::
  (27, .getfield 26, 3, 11, [9, 2, 5045], 0, 0, zM0) ::
  (30, .iload_n 1, 1, 1, [], 0, 0, zM0) ::
  (31, .iaload, 1, 0, [], 0, 0, zM0) ::
  (32, .istore_n 3, 1, 3, [], 0, 0, zM0) :: tkX11_taken_33
def tkX11_taken_15 : List mE := (15, .aload_n 0, 1, 0, [], 0, 0, zM0) ::
  (16, .iload_n 1, 1, 1, [], 0, 0, zM0) ::
  (17, .invokevirtual 82, 3, 11, [5192, 1, 1], 0, 0, kX11_isHen) ::
  (20, .ifCond .ne 6, 3, 26, [], 0, 0, zM0) ::
  (23, .bipush (-11), 2, 23, [], (-11), 0, zM0) ::
  (25, .ireturn, 1, 25, [], 0, 0, zM0) :: tkX11_taken_26
def tkX11_taken_0 : List mE := (0, .iload_n 2, 1, 2, [], 0, 0, zM0) ::
  (1, .i2l, 1, 1, [], 0, 0, zM0) ::
  (2, .lconst 0, 1, 2, [], 0, 0, zM0) ::
  (3, .ldc2_w 103, 3, 3, [6077], 0, 5, zM0) ::
  (6, .invokestatic 70, 3, 0, [5184, 3, 1], 0, 0, kX11_in) ::
  (9, .ifCond .ne 6, 3, 15, [], 0, 0, zM0) ::
  (12, .bipush (-2), 2, 12, [], (-2), 0, zM0) ::
  (14, .ireturn, 1, 14, [], 0, 0, zM0) :: tkX11_taken_15
def tkX11_taken : List mE := tkX11_taken_0
theorem zkX11_taken : zat 0 tkX11_taken = tkX11_taken_0 ∧ zat 15 tkX11_taken = tkX11_taken_15 ∧ zat 26 tkX11_taken = tkX11_taken_26 ∧ zat 33 tkX11_taken = tkX11_taken_33 ∧ zat 51 tkX11_taken = tkX11_taken_51 ∧ zat 67 tkX11_taken = tkX11_taken_67 ∧ zat 69 tkX11_taken = tkX11_taken_69 := ⟨rfl, rfl, rfl, rfl, rfl, rfl, rfl⟩
theorem okX11_taken : zok kX11_taken.2.1 kX11_taken.2.2.1 kX11_taken.2.2.2.1 tkX11_taken = true := by decide +kernel
def tkX11_over_27 : List mE := (27, .ireturn, 1, 27, [], 0, 0, zM0) :: []
def tkX11_over_26 : List mE := (26, .iconst 0, 1, 26, [], 0, 0, zM0) :: tkX11_over_27
def tkX11_over_17 : List mE := (17, .iload_n 0, 1, 0, [], 0, 0, zM0) ::
  (18, .iconst 4, 1, 18, [], 4, 0, zM0) ::
  (19, .if_icmp .ne 7, 3, 26, [], 0, 0, zM0) ::
  (22, .iconst 2, 1, 22, [], 2, 0, zM0) ::
  (23, .goto 4, 3, 27, [], 0, 0, zM0) :: tkX11_over_26
def tkX11_over_8 : List mE := (8, .iload_n 0, 1, 0, [], 0, 0, zM0) ::
  (9, .iconst 3, 1, 9, [], 3, 0, zM0) ::
  (10, .if_icmp .ne 7, 3, 17, [], 0, 0, zM0) ::
  (13, .iconst 1, 1, 13, [], 1, 0, zM0) ::
  (14, .goto 13, 3, 27, [], 0, 0, zM0) :: tkX11_over_17
def tkX11_over_0 : List mE := (0, .iload_n 0, 1, 0, [], 0, 0, zM0) ::
  (1, .ifCond .ne 7, 3, 8, [], 0, 0, zM0) ::
  (4, .iconst (-1), 1, 4, [], (-1), 0, zM0) ::
  (5, .goto 22, 3, 27, [], 0, 0, zM0) :: tkX11_over_8
def tkX11_over : List mE := tkX11_over_0
theorem zkX11_over : zat 0 tkX11_over = tkX11_over_0 ∧ zat 8 tkX11_over = tkX11_over_8 ∧ zat 17 tkX11_over = tkX11_over_17 ∧ zat 26 tkX11_over = tkX11_over_26 ∧ zat 27 tkX11_over = tkX11_over_27 := ⟨rfl, rfl, rfl, rfl, rfl⟩
theorem okX11_over : zok kX11_over.2.1 kX11_over.2.2.1 kX11_over.2.2.2.1 tkX11_over = true := by decide +kernel
