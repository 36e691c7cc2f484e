/-! The code of LaidByArgument. -/
def tkX10_init_235 : List mE := (235, .aload_n 0, 1, 0, [], 0, 0, zM0) ::
  (236, .invokevirtual 96, 3, 10, [2044, 0, 1], 0, 0, kX10_text) ::
  (239, .pop, 1, 239, [], 0, 0, zM0) ::
  (240, .return_, 1, 240, [], 0, 0, zM0) :: []
def tkX10_init_225 : List mE := (225, .invokevirtual 92, 3, 7, [2040, 1, 1], 0, 0, kX7_add) ::
  (228, .pop, 1, 228, [], 0, 0, zM0) ::
  (229, .iinc 1 1, 3, 1, [], 1, 0, zM0) ::
  (232, .goto (-26), 3, 206, [], 0, 0, zM0) :: tkX10_init_235
def tkX10_init_222 : List mE := (222, .invokevirtual 88, 3, 222, [], 0, 0, zM0) :: tkX10_init_225
def tkX10_init_221 : List mE := (221, .iload_n 1, 1, 1, [], 0, 0, zM0) :: tkX10_init_222
def tkX10_init_219 : List mE := (219, .ldc 80, 2, 219, [], 0, 0, zM0) :: tkX10_init_221
def tkX10_init_212 : List mE := (212, .if_icmp .ge 23, 3, 235, [], 0, 0, zM0) ::
  (215, .aload_n 0, 1, 0, [], 0, 0, zM0) ::
  (216, .getfield 34, 3, 10, [3, 2, 3021], 0, 0, zM0) :: tkX10_init_219
def tkX10_init_209 : List mE := (209, .invokevirtual 82, 3, 209, [], 0, 0, zM0) :: tkX10_init_212
def tkX10_init_207 : List mE := (207, .ldc 80, 2, 207, [], 0, 0, zM0) :: tkX10_init_209
def tkX10_init_206 : List mE := (206, .iload_n 1, 1, 1, [], 0, 0, zM0) :: tkX10_init_207
def tkX10_init_204 : List mE := (204, .iconst 0, 1, 204, [], 0, 0, zM0) ::
  (205, .istore_n 1, 1, 1, [], 0, 0, zM0) :: tkX10_init_206
def tkX10_init_198 : List mE := (198, .iinc 1 1, 3, 1, [], 1, 0, zM0) ::
  (201, .goto (-25), 3, 176, [], 0, 0, zM0) :: tkX10_init_204
def tkX10_init_197 : List mE := (197, .aastore, 1, 197, [], 0, 0, zM0) :: tkX10_init_198
def tkX10_init_194 : List mE := (194, .invokespecial 79, 3, 194, [], 0, 0, zM0) :: tkX10_init_197
def tkX10_init_193 : List mE := (193, .dup, 1, 193, [], 0, 0, zM0) :: tkX10_init_194
def tkX10_init_190 : List mE := (190, .new 51, 3, 190, [], 0, 0, zM0) :: tkX10_init_193
def tkX10_init_176 : List mE := (176, .iload_n 1, 1, 1, [], 0, 0, zM0) ::
  (177, .aload_n 0, 1, 0, [], 0, 0, zM0) ::
  (178, .getfield 53, 3, 10, [6, 2, 3024], 0, 0, zM0) ::
  (181, .arraylength, 1, 3, [], 0, 0, zM0) ::
  (182, .if_icmp .ge 22, 3, 204, [], 0, 0, zM0) ::
  (185, .aload_n 0, 1, 0, [], 0, 0, zM0) ::
  (186, .getfield 53, 3, 10, [6, 2, 3024], 0, 0, zM0) ::
  (189, .iload_n 1, 1, 1, [], 0, 0, zM0) :: tkX10_init_190
def tkX10_init_174 : List mE := (174, .iconst 0, 1, 174, [], 0, 0, zM0) ::
  (175, .istore_n 1, 1, 1, [], 0, 0, zM0) :: tkX10_init_176
def tkX10_init_168 : List mE := (168, .iinc 1 1, 3, 1, [], 1, 0, zM0) ::
  (171, .goto (-25), 3, 146, [], 0, 0, zM0) :: tkX10_init_174
def tkX10_init_167 : List mE := (167, .aastore, 1, 167, [], 0, 0, zM0) :: tkX10_init_168
def tkX10_init_164 : List mE := (164, .invokespecial 78, 3, 164, [], 0, 0, zM0) :: tkX10_init_167
def tkX10_init_163 : List mE := (163, .dup, 1, 163, [], 0, 0, zM0) :: tkX10_init_164
def tkX10_init_160 : List mE := (160, .new 45, 3, 160, [], 0, 0, zM0) :: tkX10_init_163
def tkX10_init_146 : List mE := (146, .iload_n 1, 1, 1, [], 0, 0, zM0) ::
  (147, .aload_n 0, 1, 0, [], 0, 0, zM0) ::
  (148, .getfield 47, 3, 10, [5, 2, 3023], 0, 0, zM0) ::
  (151, .arraylength, 1, 4, [], 0, 0, zM0) ::
  (152, .if_icmp .ge 22, 3, 174, [], 0, 0, zM0) ::
  (155, .aload_n 0, 1, 0, [], 0, 0, zM0) ::
  (156, .getfield 47, 3, 10, [5, 2, 3023], 0, 0, zM0) ::
  (159, .iload_n 1, 1, 1, [], 0, 0, zM0) :: tkX10_init_160
def tkX10_init_144 : List mE := (144, .iconst 0, 1, 144, [], 0, 0, zM0) ::
  (145, .istore_n 1, 1, 1, [], 0, 0, zM0) :: tkX10_init_146
def tkX10_init_138 : List mE := (138, .iinc 1 1, 3, 1, [], 1, 0, zM0) ::
  (141, .goto (-25), 3, 116, [], 0, 0, zM0) :: tkX10_init_144
def tkX10_init_137 : List mE := (137, .aastore, 1, 137, [], 0, 0, zM0) :: tkX10_init_138
def tkX10_init_134 : List mE := (134, .invokespecial 73, 3, 134, [], 0, 0, zM0) :: tkX10_init_137
def tkX10_init_133 : List mE := (133, .dup, 1, 133, [], 0, 0, zM0) :: tkX10_init_134
def tkX10_init_130 : List mE := (130, .new 25, 3, 130, [], 0, 0, zM0) :: tkX10_init_133
def tkX10_init_116 : List mE := (116, .iload_n 1, 1, 1, [], 0, 0, zM0) ::
  (117, .aload_n 0, 1, 0, [], 0, 0, zM0) ::
  (118, .getfield 27, 3, 10, [2, 2, 3020], 0, 0, zM0) ::
  (121, .arraylength, 1, 2, [], 0, 0, zM0) ::
  (122, .if_icmp .ge 22, 3, 144, [], 0, 0, zM0) ::
  (125, .aload_n 0, 1, 0, [], 0, 0, zM0) ::
  (126, .getfield 27, 3, 10, [2, 2, 3020], 0, 0, zM0) ::
  (129, .iload_n 1, 1, 1, [], 0, 0, zM0) :: tkX10_init_130
def tkX10_init_114 : List mE := (114, .iconst 0, 1, 114, [], 0, 0, zM0) ::
  (115, .istore_n 1, 1, 1, [], 0, 0, zM0) :: tkX10_init_116
def tkX10_init_111 : List mE := (111, .putfield 74, 3, 111, [], 0, 0, zM0) :: tkX10_init_114
def tkX10_init_108 : List mE := (108, .invokespecial 73, 3, 108, [], 0, 0, zM0) :: tkX10_init_111
def tkX10_init_107 : List mE := (107, .dup, 1, 107, [], 0, 0, zM0) :: tkX10_init_108
def tkX10_init_104 : List mE := (104, .new 25, 3, 104, [], 0, 0, zM0) :: tkX10_init_107
def tkX10_init_103 : List mE := (103, .aload_n 0, 1, 0, [], 0, 0, zM0) :: tkX10_init_104
def tkX10_init_100 : List mE := (100, .putfield 69, 3, 100, [], 0, 0, zM0) :: tkX10_init_103
def tkX10_init_97 : List mE := (97, .invokespecial 68, 3, 97, [], 0, 0, zM0) :: tkX10_init_100
def tkX10_init_96 : List mE := (96, .dup, 1, 96, [], 0, 0, zM0) :: tkX10_init_97
def tkX10_init_93 : List mE := (93, .new 66, 3, 93, [], 0, 0, zM0) :: tkX10_init_96
def tkX10_init_92 : List mE := (92, .aload_n 0, 1, 0, [], 0, 0, zM0) :: tkX10_init_93
def tkX10_init_89 : List mE := (89, .putfield 62, 3, 89, [], 0, 0, zM0) :: tkX10_init_92
def tkX10_init_86 : List mE := (86, .invokespecial 59, 3, 86, [], 0, 0, zM0) :: tkX10_init_89
def tkX10_init_81 : List mE := (81, .dup, 1, 81, [], 0, 0, zM0) ::
  (82, .aload_n 0, 1, 0, [], 0, 0, zM0) ::
  (83, .getfield 21, 3, 10, [1, 2, 3019], 0, 0, zM0) :: tkX10_init_86
def tkX10_init_78 : List mE := (78, .new 57, 3, 78, [], 0, 0, zM0) :: tkX10_init_81
def tkX10_init_77 : List mE := (77, .aload_n 0, 1, 0, [], 0, 0, zM0) :: tkX10_init_78
def tkX10_init_74 : List mE := (74, .putfield 53, 3, 74, [], 0, 0, zM0) :: tkX10_init_77
def tkX10_init_71 : List mE := (71, .anewarray 51, 3, 71, [], 0, 0, zM0) :: tkX10_init_74
def tkX10_init_69 : List mE := (69, .aload_n 0, 1, 0, [], 0, 0, zM0) ::
  (70, .iconst 4, 1, 70, [], 4, 0, zM0) :: tkX10_init_71
def tkX10_init_66 : List mE := (66, .putfield 47, 3, 66, [], 0, 0, zM0) :: tkX10_init_69
def tkX10_init_63 : List mE := (63, .anewarray 45, 3, 63, [], 0, 0, zM0) :: tkX10_init_66
def tkX10_init_60 : List mE := (60, .aload_n 0, 1, 0, [], 0, 0, zM0) ::
  (61, .bipush 6, 2, 61, [], 6, 0, zM0) :: tkX10_init_63
def tkX10_init_57 : List mE := (57, .putfield 41, 3, 57, [], 0, 0, zM0) :: tkX10_init_60
def tkX10_init_54 : List mE := (54, .invokespecial 40, 3, 54, [], 0, 0, zM0) :: tkX10_init_57
def tkX10_init_53 : List mE := (53, .dup, 1, 53, [], 0, 0, zM0) :: tkX10_init_54
def tkX10_init_50 : List mE := (50, .new 38, 3, 50, [], 0, 0, zM0) :: tkX10_init_53
def tkX10_init_49 : List mE := (49, .aload_n 0, 1, 0, [], 0, 0, zM0) :: tkX10_init_50
def tkX10_init_46 : List mE := (46, .putfield 34, 3, 46, [], 0, 0, zM0) :: tkX10_init_49
def tkX10_init_43 : List mE := (43, .invokespecial 33, 3, 43, [], 0, 0, zM0) :: tkX10_init_46
def tkX10_init_42 : List mE := (42, .dup, 1, 42, [], 0, 0, zM0) :: tkX10_init_43
def tkX10_init_39 : List mE := (39, .new 31, 3, 39, [], 0, 0, zM0) :: tkX10_init_42
def tkX10_init_38 : List mE := (38, .aload_n 0, 1, 0, [], 0, 0, zM0) :: tkX10_init_39
def tkX10_init_35 : List mE := (35, .putfield 27, 3, 35, [], 0, 0, zM0) :: tkX10_init_38
def tkX10_init_32 : List mE := (32, .anewarray 25, 3, 32, [], 0, 0, zM0) :: tkX10_init_35
def tkX10_init_30 : List mE := (30, .aload_n 0, 1, 0, [], 0, 0, zM0) ::
  (31, .iconst 5, 1, 31, [], 5, 0, zM0) :: tkX10_init_32
def tkX10_init_27 : List mE := (27, .putfield 21, 3, 27, [], 0, 0, zM0) :: tkX10_init_30
def tkX10_init_24 : List mE := (24, .invokespecial 18, 3, 24, [], 0, 0, zM0) :: tkX10_init_27
def tkX10_init_19 : List mE := (19, .dup, 1, 19, [], 0, 0, zM0) ::
  (20, .aload_n 0, 1, 0, [], 0, 0, zM0) ::
  (21, .getfield 10, 3, 10, [0, 2, 3018], 0, 0, zM0) :: tkX10_init_24
def tkX10_init_16 : List mE := (16, .new 16, 3, 16, [], 0, 0, zM0) :: tkX10_init_19
def tkX10_init_15 : List mE := (15, .aload_n 0, 1, 0, [], 0, 0, zM0) :: tkX10_init_16
def tkX10_init_12 : List mE := (12, .putfield 10, 3, 12, [], 0, 0, zM0) :: tkX10_init_15
def tkX10_init_9 : List mE := (9, .invokespecial 9, 3, 9, [], 0, 0, zM0) :: tkX10_init_12
def tkX10_init_8 : List mE := (8, .dup, 1, 8, [], 0, 0, zM0) :: tkX10_init_9
def tkX10_init_5 : List mE := (5, .new 7, 3, 5, [], 0, 0, zM0) :: tkX10_init_8
def tkX10_init_4 : List mE := (4, .aload_n 0, 1, 0, [], 0, 0, zM0) :: tkX10_init_5
def tkX10_init_1 : List mE := (1, .invokespecial 1, 3, 1, [], 0, 0, zM0) :: tkX10_init_4
def tkX10_init_0 : List mE := (0, .aload_n 0, 1, 0, [], 0, 0, zM0) :: tkX10_init_1
def tkX10_init : List mE := tkX10_init_0
set_option maxRecDepth 100000 in
theorem zkX10_init : zat 0 tkX10_init = tkX10_init_0 ∧ zat 1 tkX10_init = tkX10_init_1 ∧ zat 4 tkX10_init = tkX10_init_4 ∧ zat 5 tkX10_init = tkX10_init_5 ∧ zat 8 tkX10_init = tkX10_init_8 ∧ zat 9 tkX10_init = tkX10_init_9 ∧ zat 12 tkX10_init = tkX10_init_12 ∧ zat 15 tkX10_init = tkX10_init_15 ∧ zat 16 tkX10_init = tkX10_init_16 ∧ zat 19 tkX10_init = tkX10_init_19 ∧ zat 24 tkX10_init = tkX10_init_24 ∧ zat 27 tkX10_init = tkX10_init_27 ∧ zat 30 tkX10_init = tkX10_init_30 ∧ zat 32 tkX10_init = tkX10_init_32 ∧ zat 35 tkX10_init = tkX10_init_35 ∧ zat 38 tkX10_init = tkX10_init_38 ∧ zat 39 tkX10_init = tkX10_init_39 ∧ zat 42 tkX10_init = tkX10_init_42 ∧ zat 43 tkX10_init = tkX10_init_43 ∧ zat 46 tkX10_init = tkX10_init_46 ∧ zat 49 tkX10_init = tkX10_init_49 ∧ zat 50 tkX10_init = tkX10_init_50 ∧ zat 53 tkX10_init = tkX10_init_53 ∧ zat 54 tkX10_init = tkX10_init_54 ∧ zat 57 tkX10_init = tkX10_init_57 ∧ zat 60 tkX10_init = tkX10_init_60 ∧ zat 63 tkX10_init = tkX10_init_63 ∧ zat 66 tkX10_init = tkX10_init_66 ∧ zat 69 tkX10_init = tkX10_init_69 ∧ zat 71 tkX10_init = tkX10_init_71 ∧ zat 74 tkX10_init = tkX10_init_74 ∧ zat 77 tkX10_init = tkX10_init_77 ∧ zat 78 tkX10_init = tkX10_init_78 ∧ zat 81 tkX10_init = tkX10_init_81 ∧ zat 86 tkX10_init = tkX10_init_86 ∧ zat 89 tkX10_init = tkX10_init_89 ∧ zat 92 tkX10_init = tkX10_init_92 ∧ zat 93 tkX10_init = tkX10_init_93 ∧ zat 96 tkX10_init = tkX10_init_96 ∧ zat 97 tkX10_init = tkX10_init_97 ∧ zat 100 tkX10_init = tkX10_init_100 ∧ zat 103 tkX10_init = tkX10_init_103 ∧ zat 104 tkX10_init = tkX10_init_104 ∧ zat 107 tkX10_init = tkX10_init_107 ∧ zat 108 tkX10_init = tkX10_init_108 ∧ zat 111 tkX10_init = tkX10_init_111 ∧ zat 114 tkX10_init = tkX10_init_114 ∧ zat 116 tkX10_init = tkX10_init_116 ∧ zat 130 tkX10_init = tkX10_init_130 ∧ zat 133 tkX10_init = tkX10_init_133 ∧ zat 134 tkX10_init = tkX10_init_134 ∧ zat 137 tkX10_init = tkX10_init_137 ∧ zat 138 tkX10_init = tkX10_init_138 ∧ zat 144 tkX10_init = tkX10_init_144 ∧ zat 146 tkX10_init = tkX10_init_146 ∧ zat 160 tkX10_init = tkX10_init_160 ∧ zat 163 tkX10_init = tkX10_init_163 ∧ zat 164 tkX10_init = tkX10_init_164 ∧ zat 167 tkX10_init = tkX10_init_167 ∧ zat 168 tkX10_init = tkX10_init_168 ∧ zat 174 tkX10_init = tkX10_init_174 ∧ zat 176 tkX10_init = tkX10_init_176 ∧ zat 190 tkX10_init = tkX10_init_190 ∧ zat 193 tkX10_init = tkX10_init_193 ∧ zat 194 tkX10_init = tkX10_init_194 ∧ zat 197 tkX10_init = tkX10_init_197 ∧ zat 198 tkX10_init = tkX10_init_198 ∧ zat 204 tkX10_init = tkX10_init_204 ∧ zat 206 tkX10_init = tkX10_init_206 ∧ zat 207 tkX10_init = tkX10_init_207 ∧ zat 209 tkX10_init = tkX10_init_209 ∧ zat 212 tkX10_init = tkX10_init_212 ∧ zat 219 tkX10_init = tkX10_init_219 ∧ zat 221 tkX10_init = tkX10_init_221 ∧ zat 222 tkX10_init = tkX10_init_222 ∧ zat 225 tkX10_init = tkX10_init_225 ∧ zat 235 tkX10_init = tkX10_init_235 := ⟨rfl, rfl, rfl, rfl, rfl, rfl, rfl, rfl, rfl, rfl, rfl, rfl, rfl, rfl, rfl, rfl, rfl, rfl, rfl, rfl, rfl, rfl, rfl, rfl, rfl, rfl, rfl, rfl, rfl, rfl, rfl, rfl, rfl, rfl, rfl, rfl, rfl, rfl, rfl, rfl, rfl, rfl, rfl, rfl, rfl, rfl, rfl, rfl, rfl, rfl, rfl, rfl, rfl, rfl, rfl, rfl, rfl, rfl, rfl, rfl, rfl, rfl, rfl, rfl, rfl, rfl, rfl, rfl, rfl, rfl, rfl, rfl, rfl, rfl, rfl, rfl, rfl⟩
theorem okX10_init : zok kX10_init.2.1 kX10_init.2.2.1 kX10_init.2.2.2.1 tkX10_init = true := by decide +kernel
def tkX10_text_44 : List mE := (44, .aload_n 0, 1, 0, [], 0, 0, zM0) ::
  (45, .getfield 47, 3, 10, [5, 2, 3023], 0, 0, zM0) ::
  (48, .aload_n 0, 1, 0, [], 0, 0, zM0) ::
  (49, .getfield 186, 3, 10, [12, 0, 3030], 0, 0, zM0) ::
  (52, .aaload, 1, 4, [], 0, 0, zM0) ::
  (53, .aload_n 0, 1, 0, [], 0, 0, zM0) ::
  (54, .getfield 41, 3, 10, [4, 2, 3022], 0, 0, zM0) ::
  (57, .invokevirtual 196, 3, 4, [3007, 0, 1], 0, 0, kX4_draft) ::
  (60, .invokevirtual 199, 3, 8, [3011, 1, 0], 0, 0, kX8_become) ::
  (63, .aload_n 0, 1, 0, [], 0, 0, zM0) ::
  (64, .dup, 1, 64, [], 0, 0, zM0) ::
  (65, .getfield 186, 3, 10, [12, 0, 3030], 0, 0, zM0) ::
  (68, .iconst 1, 1, 68, [], 1, 0, zM0) ::
  (69, .iadd, 1, 69, [], 0, 0, zM0) ::
  (70, .putfield 186, 3, 10, [12, 0, 3030], 0, 0, zM0) ::
  (73, .aload_n 0, 1, 0, [], 0, 0, zM0) ::
  (74, .getfield 186, 3, 10, [12, 0, 3030], 0, 0, zM0) ::
  (77, .iconst 1, 1, 77, [], 1, 0, zM0) ::
  (78, .isub, 1, 78, [], 0, 0, zM0) ::
  (79, .ireturn, 1, 79, [], 0, 0, zM0) :: []
def tkX10_text_15 : List mE := (15, .aload_n 0, 1, 0, [], 0, 0, zM0) ::
  (16, .getfield 41, 3, 10, [4, 2, 3022], 0, 0, zM0) ::
  (19, .aload_n 0, 1, 0, [], 0, 0, zM0) ::
  (20, .getfield 34, 3, 10, [3, 2, 3021], 0, 0, zM0) ::
  (23, .invokevirtual 189, 3, 4, [2048, 1, 1], 0, 0, kX4_read) ::
  (26, .istore_n 1, 1, 1, [], 0, 0, zM0) ::
  (27, .aload_n 0, 1, 0, [], 0, 0, zM0) ::
  (28, .getfield 34, 3, 10, [3, 2, 3021], 0, 0, zM0) ::
  (31, .invokevirtual 193, 3, 7, [3003, 0, 0], 0, 0, kX7_empty) ::
  (34, .iload_n 1, 1, 1, [], 0, 0, zM0) ::
  (35, .iconst (-1), 1, 35, [], (-1), 0, zM0) ::
  (36, .if_icmp .eq 8, 3, 44, [], 0, 0, zM0) ::
  (39, .bipush (-100), 2, 39, [], (-100), 0, zM0) ::
  (41, .iload_n 1, 1, 1, [], 0, 0, zM0) ::
  (42, .isub, 1, 42, [], 0, 0, zM0) ::
  (43, .ireturn, 1, 43, [], 0, 0, zM0) :: tkX10_text_44
def tkX10_text_0 : List mE := (0, .aload_n 0, 1, 0, [], 0, 0, zM0) ::
  (1, .getfield 186, 3, 10, [12, 0, 3030], 0, 0, zM0) ::
  (4, .aload_n 0, 1, 0, [], 0, 0, zM0) ::
  (5, .getfield 47, 3, 10, [5, 2, 3023], 0, 0, zM0) ::
  (8, .arraylength, 1, 4, [], 0, 0, zM0) ::
  (9, .if_icmp .lt 6, 3, 15, [], 0, 0, zM0) ::
  (12, .bipush (-4), 2, 12, [], (-4), 0, zM0) ::
  (14, .ireturn, 1, 14, [], 0, 0, zM0) :: tkX10_text_15
def tkX10_text : List mE := tkX10_text_0
theorem zkX10_text : zat 0 tkX10_text = tkX10_text_0 ∧ zat 15 tkX10_text = tkX10_text_15 ∧ zat 44 tkX10_text = tkX10_text_44 := ⟨rfl, rfl, rfl⟩
theorem okX10_text : zok kX10_text.2.1 kX10_text.2.2.1 kX10_text.2.2.2.1 tkX10_text = true := by decide +kernel
def tkX10_against_68 : List mE := (68, .invokevirtual 113, 3, 6, [3079, 3, 0], 0, 0, kX6_change) ::
  (71, .iload 4, 2, 4, [], 0, 0, zM0) ::
  (73, .ireturn, 1, 73, [], 0, 0, zM0) :: []
def tkX10_against_67 : List mE := (67, .iconst 0, 1, 67, [], 0, 0, zM0) :: tkX10_against_68
def tkX10_against_50 : List mE := (50, .istore 4, 2, 4, [], 0, 0, zM0) ::
  (52, .aload_n 0, 1, 0, [], 0, 0, zM0) ::
  (53, .getfield 10, 3, 10, [0, 2, 3018], 0, 0, zM0) ::
  (56, .iload_n 1, 1, 1, [], 0, 0, zM0) ::
  (57, .iload_n 2, 1, 2, [], 0, 0, zM0) ::
  (58, .iload_n 3, 1, 3, [], 0, 0, zM0) ::
  (59, .iconst 1, 1, 59, [], 1, 0, zM0) ::
  (60, .if_icmp .ne 7, 3, 67, [], 0, 0, zM0) ::
  (63, .iconst 1, 1, 63, [], 1, 0, zM0) ::
  (64, .goto 4, 3, 68, [], 0, 0, zM0) :: tkX10_against_67
def tkX10_against_49 : List mE := (49, .iconst 0, 1, 49, [], 0, 0, zM0) :: tkX10_against_50
def tkX10_against_30 : List mE := (30, .aload_n 0, 1, 0, [], 0, 0, zM0) ::
  (31, .getfield 10, 3, 10, [0, 2, 3018], 0, 0, zM0) ::
  (34, .iload_n 1, 1, 1, [], 0, 0, zM0) ::
  (35, .invokevirtual 106, 3, 6, [3072, 1, 1], 0, 0, kX6_struckBy) ::
  (38, .iload_n 2, 1, 2, [], 0, 0, zM0) ::
  (39, .invokestatic 110, 3, 0, [3076, 2, 1], 0, 0, kX10_has) ::
  (42, .ifCond .eq 7, 3, 49, [], 0, 0, zM0) ::
  (45, .iconst 1, 1, 45, [], 1, 0, zM0) ::
  (46, .goto 4, 3, 50, [], 0, 0, zM0) :: tkX10_against_49
def tkX10_against_27 : List mE := (27, .bipush (-2), 2, 27, [], (-2), 0, zM0) ::
  (29, .ireturn, 1, 29, [], 0, 0, zM0) :: tkX10_against_30
def tkX10_against_0 : List mE := (0, .iload_n 1, 1, 1, [], 0, 0, zM0) ::
  (1, .invokestatic 99, 3, 0, [3066, 1, 1], 0, 0, kX10_isArgument) ::
  (4, .ifCond .eq 23, 3, 27, [], 0, 0, zM0) ::
  (7, .iload_n 2, 1, 2, [], 0, 0, zM0) ::
  (8, .invokestatic 99, 3, 0, [3066, 1, 1], 0, 0, kX10_isArgument) ::
  (11, .ifCond .eq 16, 3, 27, [], 0, 0, zM0) ::
  (14, .iload_n 1, 1, 1, [], 0, 0, zM0) ::
  (15, .iload_n 2, 1, 2, [], 0, 0, zM0) ::
  (16, .if_icmp .eq 11, 3, 27, [], 0, 0, zM0) ::
  (19, .iload_n 3, 1, 3, [], 0, 0, zM0) ::
  (20, .iconst 1, 1, 20, [], 1, 0, zM0) ::
  (21, .invokestatic 102, 3, 0, [3069, 2, 1], 0, 0, kX10_isFrom0To) ::
  (24, .ifCond .ne 6, 3, 30, [], 0, 0, zM0) :: tkX10_against_27
def tkX10_against : List mE := tkX10_against_0
theorem zkX10_against : zat 0 tkX10_against = tkX10_against_0 ∧ zat 27 tkX10_against = tkX10_against_27 ∧ zat 30 tkX10_against = tkX10_against_30 ∧ zat 49 tkX10_against = tkX10_against_49 ∧ zat 50 tkX10_against = tkX10_against_50 ∧ zat 67 tkX10_against = tkX10_against_67 ∧ zat 68 tkX10_against = tkX10_against_68 := ⟨rfl, rfl, rfl, rfl, rfl, rfl, rfl⟩
theorem okX10_against : zok kX10_against.2.1 kX10_against.2.2.1 kX10_against.2.2.2.1 tkX10_against = true := by decide +kernel
def tkX10_isArgument_15 : List mE := (15, .ireturn, 1, 15, [], 0, 0, zM0) :: []
def tkX10_isArgument_14 : List mE := (14, .iconst 0, 1, 14, [], 0, 0, zM0) :: tkX10_isArgument_15
def tkX10_isArgument_0 : List mE := (0, .iload_n 0, 1, 0, [], 0, 0, zM0) ::
  (1, .ifCond .lt 13, 3, 14, [], 0, 0, zM0) ::
  (4, .iload_n 0, 1, 0, [], 0, 0, zM0) ::
  (5, .bipush 10, 2, 5, [], 10, 0, zM0) ::
  (7, .if_icmp .ge 7, 3, 14, [], 0, 0, zM0) ::
  (10, .iconst 1, 1, 10, [], 1, 0, zM0) ::
  (11, .goto 4, 3, 15, [], 0, 0, zM0) :: tkX10_isArgument_14
def tkX10_isArgument : List mE := tkX10_isArgument_0
theorem zkX10_isArgument : zat 0 tkX10_isArgument = tkX10_isArgument_0 ∧ zat 14 tkX10_isArgument = tkX10_isArgument_14 ∧ zat 15 tkX10_isArgument = tkX10_isArgument_15 := ⟨rfl, rfl, rfl⟩
theorem okX10_isArgument : zok kX10_isArgument.2.1 kX10_isArgument.2.2.1 kX10_isArgument.2.2.2.1 tkX10_isArgument = true := by decide +kernel
def tkX10_isFrom0To_14 : List mE := (14, .ireturn, 1, 14, [], 0, 0, zM0) :: []
def tkX10_isFrom0To_13 : List mE := (13, .iconst 0, 1, 13, [], 0, 0, zM0) :: tkX10_isFrom0To_14
def tkX10_isFrom0To_0 : List mE := (0, .iload_n 0, 1, 0, [], 0, 0, zM0) ::
  (1, .ifCond .lt 12, 3, 13, [], 0, 0, zM0) ::
  (4, .iload_n 0, 1, 0, [], 0, 0, zM0) ::
  (5, .iload_n 1, 1, 1, [], 0, 0, zM0) ::
  (6, .if_icmp .gt 7, 3, 13, [], 0, 0, zM0) ::
  (9, .iconst 1, 1, 9, [], 1, 0, zM0) ::
  (10, .goto 4, 3, 14, [], 0, 0, zM0) :: tkX10_isFrom0To_13
def tkX10_isFrom0To : List mE := tkX10_isFrom0To_0
theorem zkX10_isFrom0To : zat 0 tkX10_isFrom0To = tkX10_isFrom0To_0 ∧ zat 13 tkX10_isFrom0To = tkX10_isFrom0To_13 ∧ zat 14 tkX10_isFrom0To = tkX10_isFrom0To_14 := ⟨rfl, rfl, rfl⟩
theorem okX10_isFrom0To : zok kX10_isFrom0To.2.1 kX10_isFrom0To.2.2.1 kX10_isFrom0To.2.2.2.1 tkX10_isFrom0To = true := by decide +kernel
def tkX10_has_21 : List mE := (21, .ireturn, 1, 21, [], 0, 0, zM0) :: []
def tkX10_has_20 : List mE := (20, .iconst 0, 1, 20, [], 0, 0, zM0) :: tkX10_has_21
def tkX10_has_0 : List mE := (0, .iload_n 1, 1, 1, [], 0, 0, zM0) ::
  (1, .invokestatic 99, 3, 0, [3066, 1, 1], 0, 0, kX10_isArgument) ::
  (4, .ifCond .eq 16, 3, 20, [], 0, 0, zM0) ::
  (7, .iload_n 0, 1, 0, [], 0, 0, zM0) ::
  (8, .iload_n 1, 1, 1, [], 0, 0, zM0) ::
  (9, .ishr, 1, 9, [], 0, 0, zM0) ::
  (10, .iconst 1, 1, 10, [], 1, 0, zM0) ::
  (11, .iand, 1, 11, [], 0, 0, zM0) ::
  (12, .iconst 1, 1, 12, [], 1, 0, zM0) ::
  (13, .if_icmp .ne 7, 3, 20, [], 0, 0, zM0) ::
  (16, .iconst 1, 1, 16, [], 1, 0, zM0) ::
  (17, .goto 4, 3, 21, [], 0, 0, zM0) :: tkX10_has_20
def tkX10_has : List mE := tkX10_has_0
theorem zkX10_has : zat 0 tkX10_has = tkX10_has_0 ∧ zat 20 tkX10_has = tkX10_has_20 ∧ zat 21 tkX10_has = tkX10_has_21 := ⟨rfl, rfl, rfl⟩
theorem okX10_has : zok kX10_has.2.1 kX10_has.2.2.1 kX10_has.2.2.2.1 tkX10_has = true := by decide +kernel
def tkX10_set_91 : List mE := (91, .iload 4, 2, 4, [], 0, 0, zM0) ::
  (93, .ireturn, 1, 93, [], 0, 0, zM0) :: []
def tkX10_set_85 : List mE := (85, .aload 5, 2, 5, [], 0, 0, zM0) ::
  (87, .iload_n 3, 1, 3, [], 0, 0, zM0) ::
  (88, .putfield 138, 3, 0, [3, 0, 1156], 0, 0, zM0) :: tkX10_set_91
def tkX10_set_71 : List mE := (71, .iload_n 1, 1, 1, [], 0, 0, zM0) ::
  (72, .iconst 2, 1, 72, [], 2, 0, zM0) ::
  (73, .if_icmp .ne 12, 3, 85, [], 0, 0, zM0) ::
  (76, .aload 5, 2, 5, [], 0, 0, zM0) ::
  (78, .iload_n 3, 1, 3, [], 0, 0, zM0) ::
  (79, .putfield 135, 3, 0, [2, 0, 1153], 0, 0, zM0) ::
  (82, .goto 9, 3, 91, [], 0, 0, zM0) :: tkX10_set_85
def tkX10_set_57 : List mE := (57, .iload_n 1, 1, 1, [], 0, 0, zM0) ::
  (58, .iconst 1, 1, 58, [], 1, 0, zM0) ::
  (59, .if_icmp .ne 12, 3, 71, [], 0, 0, zM0) ::
  (62, .aload 5, 2, 5, [], 0, 0, zM0) ::
  (64, .iload_n 3, 1, 3, [], 0, 0, zM0) ::
  (65, .putfield 132, 3, 0, [1, 0, 1148], 0, 0, zM0) ::
  (68, .goto 23, 3, 91, [], 0, 0, zM0) :: tkX10_set_71
def tkX10_set_49 : List mE := (49, .aload 5, 2, 5, [], 0, 0, zM0) ::
  (51, .ifnonnull 6, 3, 57, [], 0, 0, zM0) ::
  (54, .bipush (-2), 2, 54, [], (-2), 0, zM0) ::
  (56, .ireturn, 1, 56, [], 0, 0, zM0) :: tkX10_set_57
def tkX10_set_22 : List mE := (22, .aload_n 0, 1, 0, [], 0, 0, zM0) ::
  (23, .iload_n 2, 1, 2, [], 0, 0, zM0) ::
  (24, .iload_n 1, 1, 1, [], 0, 0, zM0) ::
  (25, .invokevirtual 120, 3, 10, [3091, 2, 1], 0, 0, kX10_told) ::
  (28, .istore 4, 2, 4, [], 0, 0, zM0) ::
  (30, .aload_n 0, 1, 0, [], 0, 0, zM0) ::
  (31, .iload_n 2, 1, 2, [], 0, 0, zM0) ::
  (32, .invokevirtual 124, 3, 10, [3103, 1, 1], 0, 0, kX10_henAt) ::
  (35, .astore 5, 2, 5, [], 0, 0, zM0) ::
  (37, .iload_n 1, 1, 1, [], 0, 0, zM0) ::
  (38, .ifCond .ne 11, 3, 49, [], 0, 0, zM0) ::
  (41, .aload_n 0, 1, 0, [], 0, 0, zM0) ::
  (42, .iload_n 3, 1, 3, [], 0, 0, zM0) ::
  (43, .putfield 128, 3, 10, [10, 0, 3028], 0, 0, zM0) ::
  (46, .goto 45, 3, 91, [], 0, 0, zM0) :: tkX10_set_49
def tkX10_set_19 : List mE := (19, .bipush (-2), 2, 19, [], (-2), 0, zM0) ::
  (21, .ireturn, 1, 21, [], 0, 0, zM0) :: tkX10_set_22
def tkX10_set_0 : List mE := (0, .iload_n 1, 1, 1, [], 0, 0, zM0) ::
  (1, .iconst 3, 1, 1, [], 3, 0, zM0) ::
  (2, .invokestatic 102, 3, 0, [3069, 2, 1], 0, 0, kX10_isFrom0To) ::
  (5, .ifCond .eq 14, 3, 19, [], 0, 0, zM0) ::
  (8, .iload_n 3, 1, 3, [], 0, 0, zM0) ::
  (9, .iload_n 1, 1, 1, [], 0, 0, zM0) ::
  (10, .invokestatic 117, 3, 0, [3088, 1, 1], 0, 0, kX10_mostOf) ::
  (13, .invokestatic 102, 3, 0, [3069, 2, 1], 0, 0, kX10_isFrom0To) ::
  (16, .ifCond .ne 6, 3, 22, [], 0, 0, zM0) :: tkX10_set_19
def tkX10_set : List mE := tkX10_set_0
theorem zkX10_set : zat 0 tkX10_set = tkX10_set_0 ∧ zat 19 tkX10_set = tkX10_set_19 ∧ zat 22 tkX10_set = tkX10_set_22 ∧ zat 49 tkX10_set = tkX10_set_49 ∧ zat 57 tkX10_set = tkX10_set_57 ∧ zat 71 tkX10_set = tkX10_set_71 ∧ zat 85 tkX10_set = tkX10_set_85 ∧ zat 91 tkX10_set = tkX10_set_91 := ⟨rfl, rfl, rfl, rfl, rfl, rfl, rfl, rfl⟩
theorem okX10_set : zok kX10_set.2.1 kX10_set.2.2.1 kX10_set.2.2.2.1 tkX10_set = true := by decide +kernel
def tkX10_mostOf_39 : List mE := (39, .sipush 999, 3, 39, [], 999, 0, zM0) ::
  (42, .ireturn, 1, 42, [], 0, 0, zM0) :: []
def tkX10_mostOf_35 : List mE := (35, .sipush 1023, 3, 35, [], 1023, 0, zM0) ::
  (38, .ireturn, 1, 38, [], 0, 0, zM0) :: tkX10_mostOf_39
def tkX10_mostOf_32 : List mE := (32, .bipush 9, 2, 32, [], 9, 0, zM0) ::
  (34, .ireturn, 1, 34, [], 0, 0, zM0) :: tkX10_mostOf_35
def tkX10_mostOf_28 : List mE := (28, .sipush 999, 3, 28, [], 999, 0, zM0) ::
  (31, .ireturn, 1, 31, [], 0, 0, zM0) :: tkX10_mostOf_32
def tkX10_mostOf_0 : List mE := (0, .iload_n 0, 1, 0, [], 0, 0, zM0) ::
  (1, .tableswitch 38 0 2 #[27, 31, 34], 27, 39, [28, 32, 35], 0, 0, zM0) :: tkX10_mostOf_28
def tkX10_mostOf : List mE := tkX10_mostOf_0
theorem zkX10_mostOf : zat 0 tkX10_mostOf = tkX10_mostOf_0 ∧ zat 28 tkX10_mostOf = tkX10_mostOf_28 ∧ zat 32 tkX10_mostOf = tkX10_mostOf_32 ∧ zat 35 tkX10_mostOf = tkX10_mostOf_35 ∧ zat 39 tkX10_mostOf = tkX10_mostOf_39 := ⟨rfl, rfl, rfl, rfl, rfl⟩
theorem okX10_mostOf : zok kX10_mostOf.2.1 kX10_mostOf.2.2.1 kX10_mostOf.2.2.2.1 tkX10_mostOf = true := by decide +kernel
def tkX10_told_113 : List mE := (113, .bipush (-2), 2, 113, [], (-2), 0, zM0) ::
  (115, .ireturn, 1, 115, [], 0, 0, zM0) :: []
def tkX10_told_96 : List mE := (96, .aload_n 0, 1, 0, [], 0, 0, zM0) ::
  (97, .getfield 21, 3, 10, [1, 2, 3019], 0, 0, zM0) ::
  (100, .aload_n 3, 1, 3, [], 0, 0, zM0) ::
  (101, .aload_n 0, 1, 0, [], 0, 0, zM0) ::
  (102, .getfield 128, 3, 10, [10, 0, 3028], 0, 0, zM0) ::
  (105, .aload_n 0, 1, 0, [], 0, 0, zM0) ::
  (106, .invokevirtual 157, 3, 10, [3107, 0, 1], 0, 0, kX10_rule) ::
  (109, .invokevirtual 161, 3, 2, [3111, 3, 1], 0, 0, kX2_droppedBy) ::
  (112, .ireturn, 1, 112, [], 0, 0, zM0) :: tkX10_told_113
def tkX10_told_91 : List mE := (91, .aload_n 3, 1, 3, [], 0, 0, zM0) ::
  (92, .getfield 154, 3, 0, [0, 0, 1146], 0, 0, zM0) ::
  (95, .ireturn, 1, 95, [], 0, 0, zM0) :: tkX10_told_96
def tkX10_told_86 : List mE := (86, .aload_n 3, 1, 3, [], 0, 0, zM0) ::
  (87, .getfield 138, 3, 0, [3, 0, 1156], 0, 0, zM0) ::
  (90, .ireturn, 1, 90, [], 0, 0, zM0) :: tkX10_told_91
def tkX10_told_81 : List mE := (81, .aload_n 3, 1, 3, [], 0, 0, zM0) ::
  (82, .getfield 135, 3, 0, [2, 0, 1153], 0, 0, zM0) ::
  (85, .ireturn, 1, 85, [], 0, 0, zM0) :: tkX10_told_86
def tkX10_told_76 : List mE := (76, .aload_n 3, 1, 3, [], 0, 0, zM0) ::
  (77, .getfield 132, 3, 0, [1, 0, 1148], 0, 0, zM0) ::
  (80, .ireturn, 1, 80, [], 0, 0, zM0) :: tkX10_told_81
def tkX10_told_41 : List mE := (41, .iload_n 2, 1, 2, [], 0, 0, zM0) ::
  (42, .tableswitch 71 1 5 #[34, 39, 44, 49, 54], 34, 113, [76, 81, 86, 91, 96], 0, 0, zM0) :: tkX10_told_76
def tkX10_told_28 : List mE := (28, .aload_n 0, 1, 0, [], 0, 0, zM0) ::
  (29, .iload_n 1, 1, 1, [], 0, 0, zM0) ::
  (30, .invokevirtual 124, 3, 10, [3103, 1, 1], 0, 0, kX10_henAt) ::
  (33, .astore_n 3, 1, 3, [], 0, 0, zM0) ::
  (34, .aload_n 3, 1, 3, [], 0, 0, zM0) ::
  (35, .ifnonnull 6, 3, 41, [], 0, 0, zM0) ::
  (38, .bipush (-2), 2, 38, [], (-2), 0, zM0) ::
  (40, .ireturn, 1, 40, [], 0, 0, zM0) :: tkX10_told_41
def tkX10_told_21 : List mE := (21, .aload_n 0, 1, 0, [], 0, 0, zM0) ::
  (22, .iload_n 1, 1, 1, [], 0, 0, zM0) ::
  (23, .iload_n 2, 1, 2, [], 0, 0, zM0) ::
  (24, .invokevirtual 151, 3, 10, [3095, 2, 1], 0, 0, kX10_toldOfArgument) ::
  (27, .ireturn, 1, 27, [], 0, 0, zM0) :: tkX10_told_28
def tkX10_told_9 : List mE := (9, .iload_n 2, 1, 2, [], 0, 0, zM0) ::
  (10, .bipush 6, 2, 10, [], 6, 0, zM0) ::
  (12, .if_icmp .eq 9, 3, 21, [], 0, 0, zM0) ::
  (15, .iload_n 2, 1, 2, [], 0, 0, zM0) ::
  (16, .bipush 7, 2, 16, [], 7, 0, zM0) ::
  (18, .if_icmp .ne 10, 3, 28, [], 0, 0, zM0) :: tkX10_told_21
def tkX10_told_0 : List mE := (0, .iload_n 2, 1, 2, [], 0, 0, zM0) ::
  (1, .ifCond .ne 8, 3, 9, [], 0, 0, zM0) ::
  (4, .aload_n 0, 1, 0, [], 0, 0, zM0) ::
  (5, .getfield 128, 3, 10, [10, 0, 3028], 0, 0, zM0) ::
  (8, .ireturn, 1, 8, [], 0, 0, zM0) :: tkX10_told_9
def tkX10_told : List mE := tkX10_told_0
theorem zkX10_told : zat 0 tkX10_told = tkX10_told_0 ∧ zat 9 tkX10_told = tkX10_told_9 ∧ zat 21 tkX10_told = tkX10_told_21 ∧ zat 28 tkX10_told = tkX10_told_28 ∧ zat 41 tkX10_told = tkX10_told_41 ∧ zat 76 tkX10_told = tkX10_told_76 ∧ zat 81 tkX10_told = tkX10_told_81 ∧ zat 86 tkX10_told = tkX10_told_86 ∧ zat 91 tkX10_told = tkX10_told_91 ∧ zat 96 tkX10_told = tkX10_told_96 ∧ zat 113 tkX10_told = tkX10_told_113 := ⟨rfl, rfl, rfl, rfl, rfl, rfl, rfl, rfl, rfl, rfl, rfl⟩
theorem okX10_told : zok kX10_told.2.1 kX10_told.2.2.1 kX10_told.2.2.2.1 tkX10_told = true := by decide +kernel
def tkX10_toldOfArgument_35 : List mE := (35, .ireturn, 1, 35, [], 0, 0, zM0) :: []
def tkX10_toldOfArgument_27 : List mE := (27, .aload_n 0, 1, 0, [], 0, 0, zM0) ::
  (28, .getfield 10, 3, 10, [0, 2, 3018], 0, 0, zM0) ::
  (31, .iload_n 1, 1, 1, [], 0, 0, zM0) ::
  (32, .invokevirtual 106, 3, 6, [3072, 1, 1], 0, 0, kX6_struckBy) :: tkX10_toldOfArgument_35
def tkX10_toldOfArgument_10 : List mE := (10, .iload_n 2, 1, 2, [], 0, 0, zM0) ::
  (11, .bipush 6, 2, 11, [], 6, 0, zM0) ::
  (13, .if_icmp .ne 14, 3, 27, [], 0, 0, zM0) ::
  (16, .aload_n 0, 1, 0, [], 0, 0, zM0) ::
  (17, .getfield 10, 3, 10, [0, 2, 3018], 0, 0, zM0) ::
  (20, .iload_n 1, 1, 1, [], 0, 0, zM0) ::
  (21, .invokevirtual 165, 3, 6, [3099, 1, 1], 0, 0, kX6_strikersOf) ::
  (24, .goto 11, 3, 35, [], 0, 0, zM0) :: tkX10_toldOfArgument_27
def tkX10_toldOfArgument_0 : List mE := (0, .iload_n 1, 1, 1, [], 0, 0, zM0) ::
  (1, .invokestatic 99, 3, 0, [3066, 1, 1], 0, 0, kX10_isArgument) ::
  (4, .ifCond .ne 6, 3, 10, [], 0, 0, zM0) ::
  (7, .bipush (-2), 2, 7, [], (-2), 0, zM0) ::
  (9, .ireturn, 1, 9, [], 0, 0, zM0) :: tkX10_toldOfArgument_10
def tkX10_toldOfArgument : List mE := tkX10_toldOfArgument_0
theorem zkX10_toldOfArgument : zat 0 tkX10_toldOfArgument = tkX10_toldOfArgument_0 ∧ zat 10 tkX10_toldOfArgument = tkX10_toldOfArgument_10 ∧ zat 27 tkX10_toldOfArgument = tkX10_toldOfArgument_27 ∧ zat 35 tkX10_toldOfArgument = tkX10_toldOfArgument_35 := ⟨rfl, rfl, rfl, rfl⟩
theorem okX10_toldOfArgument : zok kX10_toldOfArgument.2.1 kX10_toldOfArgument.2.2.1 kX10_toldOfArgument.2.2.2.1 tkX10_toldOfArgument = true := by decide +kernel
def tkX10_henAt_31 : List mE := (31, .areturn, 1, 31, [], 0, 0, zM0) :: []
def tkX10_henAt_30 : List mE := (30, .aconst_null, 1, 30, [], 0, 0, zM0) :: tkX10_henAt_31
def tkX10_henAt_0 : List mE := (0, .iload_n 1, 1, 1, [], 0, 0, zM0) ::
  (1, .ifCond .lt 29, 3, 30, [], 0, 0, zM0) ::
  (4, .iload_n 1, 1, 1, [], 0, 0, zM0) ::
  (5, .aload_n 0, 1, 0, [], 0, 0, zM0) ::
  (6, .getfield 144, 3, 10, [11, 0, 3029], 0, 0, zM0) ::
  (9, .if_icmp .ge 21, 3, 30, [], 0, 0, zM0) ::
  (12, .iload_n 1, 1, 1, [], 0, 0, zM0) ::
  (13, .aload_n 0, 1, 0, [], 0, 0, zM0) ::
  (14, .getfield 27, 3, 10, [2, 2, 3020], 0, 0, zM0) ::
  (17, .arraylength, 1, 2, [], 0, 0, zM0) ::
  (18, .if_icmp .ge 12, 3, 30, [], 0, 0, zM0) ::
  (21, .aload_n 0, 1, 0, [], 0, 0, zM0) ::
  (22, .getfield 27, 3, 10, [2, 2, 3020], 0, 0, zM0) ::
  (25, .iload_n 1, 1, 1, [], 0, 0, zM0) ::
  (26, .aaload, 1, 2, [], 0, 0, zM0) ::
  (27, .goto 4, 3, 31, [], 0, 0, zM0) :: tkX10_henAt_30
def tkX10_henAt : List mE := tkX10_henAt_0
theorem zkX10_henAt : zat 0 tkX10_henAt = tkX10_henAt_0 ∧ zat 30 tkX10_henAt = tkX10_henAt_30 ∧ zat 31 tkX10_henAt = tkX10_henAt_31 := ⟨rfl, rfl, rfl⟩
theorem okX10_henAt : zok kX10_henAt.2.1 kX10_henAt.2.2.1 kX10_henAt.2.2.2.1 tkX10_henAt = true := by decide +kernel
def tkX10_rule_37 : List mE := (37, .areturn, 1, 37, [], 0, 0, zM0) :: []
def tkX10_rule_31 : List mE := (31, .aload_n 0, 1, 0, [], 0, 0, zM0) ::
  (32, .getfield 47, 3, 10, [5, 2, 3023], 0, 0, zM0) ::
  (35, .iconst 0, 1, 35, [], 0, 0, zM0) ::
  (36, .aaload, 1, 4, [], 0, 0, zM0) :: tkX10_rule_37
def tkX10_rule_0 : List mE := (0, .aload_n 0, 1, 0, [], 0, 0, zM0) ::
  (1, .getfield 203, 3, 10, [13, 0, 3031], 0, 0, zM0) ::
  (4, .ifCond .lt 27, 3, 31, [], 0, 0, zM0) ::
  (7, .aload_n 0, 1, 0, [], 0, 0, zM0) ::
  (8, .getfield 203, 3, 10, [13, 0, 3031], 0, 0, zM0) ::
  (11, .aload_n 0, 1, 0, [], 0, 0, zM0) ::
  (12, .getfield 47, 3, 10, [5, 2, 3023], 0, 0, zM0) ::
  (15, .arraylength, 1, 4, [], 0, 0, zM0) ::
  (16, .if_icmp .ge 15, 3, 31, [], 0, 0, zM0) ::
  (19, .aload_n 0, 1, 0, [], 0, 0, zM0) ::
  (20, .getfield 47, 3, 10, [5, 2, 3023], 0, 0, zM0) ::
  (23, .aload_n 0, 1, 0, [], 0, 0, zM0) ::
  (24, .getfield 203, 3, 10, [13, 0, 3031], 0, 0, zM0) ::
  (27, .aaload, 1, 4, [], 0, 0, zM0) ::
  (28, .goto 9, 3, 37, [], 0, 0, zM0) :: tkX10_rule_31
def tkX10_rule : List mE := tkX10_rule_0
theorem zkX10_rule : zat 0 tkX10_rule = tkX10_rule_0 ∧ zat 31 tkX10_rule = tkX10_rule_31 ∧ zat 37 tkX10_rule = tkX10_rule_37 := ⟨rfl, rfl, rfl⟩
theorem okX10_rule : zok kX10_rule.2.1 kX10_rule.2.2.1 kX10_rule.2.2.2.1 tkX10_rule = true := by decide +kernel
def tkX10_hen_34 : List mE := (34, .aload_n 0, 1, 0, [], 0, 0, zM0) ::
  (35, .getfield 27, 3, 10, [2, 2, 3020], 0, 0, zM0) ::
  (38, .aload_n 0, 1, 0, [], 0, 0, zM0) ::
  (39, .getfield 144, 3, 10, [11, 0, 3029], 0, 0, zM0) ::
  (42, .aaload, 1, 2, [], 0, 0, zM0) ::
  (43, .iload_n 1, 1, 1, [], 0, 0, zM0) ::
  (44, .iload_n 2, 1, 2, [], 0, 0, zM0) ::
  (45, .invokevirtual 147, 3, 0, [3158, 2, 0], 0, 0, kX0_come) ::
  (48, .aload_n 0, 1, 0, [], 0, 0, zM0) ::
  (49, .dup, 1, 49, [], 0, 0, zM0) ::
  (50, .getfield 144, 3, 10, [11, 0, 3029], 0, 0, zM0) ::
  (53, .iconst 1, 1, 53, [], 1, 0, zM0) ::
  (54, .iadd, 1, 54, [], 0, 0, zM0) ::
  (55, .putfield 144, 3, 10, [11, 0, 3029], 0, 0, zM0) ::
  (58, .aload_n 0, 1, 0, [], 0, 0, zM0) ::
  (59, .getfield 144, 3, 10, [11, 0, 3029], 0, 0, zM0) ::
  (62, .iconst 1, 1, 62, [], 1, 0, zM0) ::
  (63, .isub, 1, 63, [], 0, 0, zM0) ::
  (64, .ireturn, 1, 64, [], 0, 0, zM0) :: []
def tkX10_hen_19 : List mE := (19, .aload_n 0, 1, 0, [], 0, 0, zM0) ::
  (20, .getfield 144, 3, 10, [11, 0, 3029], 0, 0, zM0) ::
  (23, .aload_n 0, 1, 0, [], 0, 0, zM0) ::
  (24, .getfield 27, 3, 10, [2, 2, 3020], 0, 0, zM0) ::
  (27, .arraylength, 1, 2, [], 0, 0, zM0) ::
  (28, .if_icmp .lt 6, 3, 34, [], 0, 0, zM0) ::
  (31, .bipush (-4), 2, 31, [], (-4), 0, zM0) ::
  (33, .ireturn, 1, 33, [], 0, 0, zM0) :: tkX10_hen_34
def tkX10_hen_16 : List mE := (16, .bipush (-2), 2, 16, [], (-2), 0, zM0) ::
  (18, .ireturn, 1, 18, [], 0, 0, zM0) :: tkX10_hen_19
def tkX10_hen_0 : List mE := (0, .iload_n 1, 1, 1, [], 0, 0, zM0) ::
  (1, .invokestatic 141, 3, 0, [3155, 1, 1], 0, 0, kX10_isKind) ::
  (4, .ifCond .eq 12, 3, 16, [], 0, 0, zM0) ::
  (7, .iload_n 2, 1, 2, [], 0, 0, zM0) ::
  (8, .bipush 9, 2, 8, [], 9, 0, zM0) ::
  (10, .invokestatic 102, 3, 0, [3069, 2, 1], 0, 0, kX10_isFrom0To) ::
  (13, .ifCond .ne 6, 3, 19, [], 0, 0, zM0) :: tkX10_hen_16
def tkX10_hen : List mE := tkX10_hen_0
theorem zkX10_hen : zat 0 tkX10_hen = tkX10_hen_0 ∧ zat 16 tkX10_hen = tkX10_hen_16 ∧ zat 19 tkX10_hen = tkX10_hen_19 ∧ zat 34 tkX10_hen = tkX10_hen_34 := ⟨rfl, rfl, rfl, rfl⟩
theorem okX10_hen : zok kX10_hen.2.1 kX10_hen.2.2.1 kX10_hen.2.2.2.1 tkX10_hen = true := by decide +kernel
def tkX10_isKind_15 : List mE := (15, .ireturn, 1, 15, [], 0, 0, zM0) :: []
def tkX10_isKind_14 : List mE := (14, .iconst 0, 1, 14, [], 0, 0, zM0) :: tkX10_isKind_15
def tkX10_isKind_0 : List mE := (0, .iload_n 0, 1, 0, [], 0, 0, zM0) ::
  (1, .ifCond .lt 13, 3, 14, [], 0, 0, zM0) ::
  (4, .iload_n 0, 1, 0, [], 0, 0, zM0) ::
  (5, .bipush 6, 2, 5, [], 6, 0, zM0) ::
  (7, .if_icmp .ge 7, 3, 14, [], 0, 0, zM0) ::
  (10, .iconst 1, 1, 10, [], 1, 0, zM0) ::
  (11, .goto 4, 3, 15, [], 0, 0, zM0) :: tkX10_isKind_14
def tkX10_isKind : List mE := tkX10_isKind_0
theorem zkX10_isKind : zat 0 tkX10_isKind = tkX10_isKind_0 ∧ zat 14 tkX10_isKind = tkX10_isKind_14 ∧ zat 15 tkX10_isKind = tkX10_isKind_15 := ⟨rfl, rfl, rfl⟩
theorem okX10_isKind : zok kX10_isKind.2.1 kX10_isKind.2.2.1 kX10_isKind.2.2.2.1 tkX10_isKind = true := by decide +kernel
def tkX10_asks_136 : List mE := (136, .bipush (-2), 2, 136, [], (-2), 0, zM0) ::
  (138, .ireturn, 1, 138, [], 0, 0, zM0) :: []
def tkX10_asks_135 : List mE := (135, .ireturn, 1, 135, [], 0, 0, zM0) :: tkX10_asks_136
def tkX10_asks_134 : List mE := (134, .iconst 0, 1, 134, [], 0, 0, zM0) :: tkX10_asks_135
def tkX10_asks_109 : List mE := (109, .aload_n 0, 1, 0, [], 0, 0, zM0) ::
  (110, .getfield 21, 3, 10, [1, 2, 3019], 0, 0, zM0) ::
  (113, .aload 4, 2, 4, [], 0, 0, zM0) ::
  (115, .iload_n 2, 1, 2, [], 0, 0, zM0) ::
  (116, .aload_n 0, 1, 0, [], 0, 0, zM0) ::
  (117, .getfield 128, 3, 10, [10, 0, 3028], 0, 0, zM0) ::
  (120, .aload_n 0, 1, 0, [], 0, 0, zM0) ::
  (121, .invokevirtual 157, 3, 10, [3107, 0, 1], 0, 0, kX10_rule) ::
  (124, .invokevirtual 180, 3, 2, [3181, 4, 1], 0, 0, kX2_isDropping) ::
  (127, .ifCond .eq 7, 3, 134, [], 0, 0, zM0) ::
  (130, .iconst 1, 1, 130, [], 1, 0, zM0) ::
  (131, .goto 4, 3, 135, [], 0, 0, zM0) :: tkX10_asks_134
def tkX10_asks_108 : List mE := (108, .ireturn, 1, 108, [], 0, 0, zM0) :: tkX10_asks_109
def tkX10_asks_107 : List mE := (107, .iconst 0, 1, 107, [], 0, 0, zM0) :: tkX10_asks_108
def tkX10_asks_82 : List mE := (82, .aload_n 0, 1, 0, [], 0, 0, zM0) ::
  (83, .getfield 21, 3, 10, [1, 2, 3019], 0, 0, zM0) ::
  (86, .aload 4, 2, 4, [], 0, 0, zM0) ::
  (88, .iload_n 2, 1, 2, [], 0, 0, zM0) ::
  (89, .aload_n 0, 1, 0, [], 0, 0, zM0) ::
  (90, .getfield 128, 3, 10, [10, 0, 3028], 0, 0, zM0) ::
  (93, .aload_n 0, 1, 0, [], 0, 0, zM0) ::
  (94, .invokevirtual 157, 3, 10, [3107, 0, 1], 0, 0, kX10_rule) ::
  (97, .invokevirtual 176, 3, 2, [3177, 4, 1], 0, 0, kX2_isYielding) ::
  (100, .ifCond .eq 7, 3, 107, [], 0, 0, zM0) ::
  (103, .iconst 1, 1, 103, [], 1, 0, zM0) ::
  (104, .goto 4, 3, 108, [], 0, 0, zM0) :: tkX10_asks_107
def tkX10_asks_63 : List mE := (63, .aload_n 0, 1, 0, [], 0, 0, zM0) ::
  (64, .getfield 21, 3, 10, [1, 2, 3019], 0, 0, zM0) ::
  (67, .aload 4, 2, 4, [], 0, 0, zM0) ::
  (69, .iload_n 2, 1, 2, [], 0, 0, zM0) ::
  (70, .aload_n 0, 1, 0, [], 0, 0, zM0) ::
  (71, .getfield 128, 3, 10, [10, 0, 3028], 0, 0, zM0) ::
  (74, .aload_n 0, 1, 0, [], 0, 0, zM0) ::
  (75, .invokevirtual 157, 3, 10, [3107, 0, 1], 0, 0, kX10_rule) ::
  (78, .invokevirtual 172, 3, 2, [3168, 4, 1], 0, 0, kX2_laidBy) ::
  (81, .ireturn, 1, 81, [], 0, 0, zM0) :: tkX10_asks_82
def tkX10_asks_52 : List mE := (52, .aload_n 0, 1, 0, [], 0, 0, zM0) ::
  (53, .getfield 21, 3, 10, [1, 2, 3019], 0, 0, zM0) ::
  (56, .aload 4, 2, 4, [], 0, 0, zM0) ::
  (58, .iload_n 2, 1, 2, [], 0, 0, zM0) ::
  (59, .invokevirtual 168, 3, 2, [3167, 2, 1], 0, 0, kX2_objectors) ::
  (62, .ireturn, 1, 62, [], 0, 0, zM0) :: tkX10_asks_63
def tkX10_asks_22 : List mE := (22, .iload_n 3, 1, 3, [], 0, 0, zM0) ::
  (23, .tableswitch 113 0 3 #[29, 40, 59, 86], 29, 136, [52, 63, 82, 109], 0, 0, zM0) :: tkX10_asks_52
def tkX10_asks_19 : List mE := (19, .bipush (-2), 2, 19, [], (-2), 0, zM0) ::
  (21, .ireturn, 1, 21, [], 0, 0, zM0) :: tkX10_asks_22
def tkX10_asks_0 : List mE := (0, .aload_n 0, 1, 0, [], 0, 0, zM0) ::
  (1, .iload_n 1, 1, 1, [], 0, 0, zM0) ::
  (2, .invokevirtual 124, 3, 10, [3103, 1, 1], 0, 0, kX10_henAt) ::
  (5, .astore 4, 2, 4, [], 0, 0, zM0) ::
  (7, .aload 4, 2, 4, [], 0, 0, zM0) ::
  (9, .ifnull 10, 3, 19, [], 0, 0, zM0) ::
  (12, .iload_n 2, 1, 2, [], 0, 0, zM0) ::
  (13, .invokestatic 99, 3, 0, [3066, 1, 1], 0, 0, kX10_isArgument) ::
  (16, .ifCond .ne 6, 3, 22, [], 0, 0, zM0) :: tkX10_asks_19
def tkX10_asks : List mE := tkX10_asks_0
theorem zkX10_asks : zat 0 tkX10_asks = tkX10_asks_0 ∧ zat 19 tkX10_asks = tkX10_asks_19 ∧ zat 22 tkX10_asks = tkX10_asks_22 ∧ zat 52 tkX10_asks = tkX10_asks_52 ∧ zat 63 tkX10_asks = tkX10_asks_63 ∧ zat 82 tkX10_asks = tkX10_asks_82 ∧ zat 107 tkX10_asks = tkX10_asks_107 ∧ zat 108 tkX10_asks = tkX10_asks_108 ∧ zat 109 tkX10_asks = tkX10_asks_109 ∧ zat 134 tkX10_asks = tkX10_asks_134 ∧ zat 135 tkX10_asks = tkX10_asks_135 ∧ zat 136 tkX10_asks = tkX10_asks_136 := ⟨rfl, rfl, rfl, rfl, rfl, rfl, rfl, rfl, rfl, rfl, rfl, rfl⟩
theorem okX10_asks : zok kX10_asks.2.1 kX10_asks.2.2.1 kX10_asks.2.2.2.1 tkX10_asks = true := by decide +kernel
def tkX10_feed_36 : List mE := (36, .ireturn, 1, 36, [], 0, 0, zM0) :: []
def tkX10_feed_34 : List mE := (34, .bipush (-4), 2, 34, [], (-4), 0, zM0) :: tkX10_feed_36
def tkX10_feed_13 : List mE := (13, .aload_n 0, 1, 0, [], 0, 0, zM0) ::
  (14, .getfield 34, 3, 10, [3, 2, 3021], 0, 0, zM0) ::
  (17, .iload_n 1, 1, 1, [], 0, 0, zM0) ::
  (18, .invokevirtual 92, 3, 7, [2040, 1, 1], 0, 0, kX7_add) ::
  (21, .ifCond .eq 13, 3, 34, [], 0, 0, zM0) ::
  (24, .aload_n 0, 1, 0, [], 0, 0, zM0) ::
  (25, .getfield 34, 3, 10, [3, 2, 3021], 0, 0, zM0) ::
  (28, .invokevirtual 183, 3, 7, [3186, 0, 1], 0, 0, kX7_size) ::
  (31, .goto 5, 3, 36, [], 0, 0, zM0) :: tkX10_feed_34
def tkX10_feed_0 : List mE := (0, .iload_n 1, 1, 1, [], 0, 0, zM0) ::
  (1, .sipush 255, 3, 1, [], 255, 0, zM0) ::
  (4, .invokestatic 102, 3, 0, [3069, 2, 1], 0, 0, kX10_isFrom0To) ::
  (7, .ifCond .ne 6, 3, 13, [], 0, 0, zM0) ::
  (10, .bipush (-2), 2, 10, [], (-2), 0, zM0) ::
  (12, .ireturn, 1, 12, [], 0, 0, zM0) :: tkX10_feed_13
def tkX10_feed : List mE := tkX10_feed_0
theorem zkX10_feed : zat 0 tkX10_feed = tkX10_feed_0 ∧ zat 13 tkX10_feed = tkX10_feed_13 ∧ zat 34 tkX10_feed = tkX10_feed_34 ∧ zat 36 tkX10_feed = tkX10_feed_36 := ⟨rfl, rfl, rfl, rfl⟩
theorem okX10_feed : zok kX10_feed.2.1 kX10_feed.2.2.1 kX10_feed.2.2.2.1 tkX10_feed = true := by decide +kernel
def tkX10_force_15 : List mE := (15, .aload_n 0, 1, 0, [], 0, 0, zM0) ::
  (16, .getfield 203, 3, 10, [13, 0, 3031], 0, 0, zM0) ::
  (19, .istore_n 2, 1, 2, [], 0, 0, zM0) ::
  (20, .aload_n 0, 1, 0, [], 0, 0, zM0) ::
  (21, .iload_n 1, 1, 1, [], 0, 0, zM0) ::
  (22, .putfield 203, 3, 10, [13, 0, 3031], 0, 0, zM0) ::
  (25, .iload_n 2, 1, 2, [], 0, 0, zM0) ::
  (26, .ireturn, 1, 26, [], 0, 0, zM0) :: []
def tkX10_force_12 : List mE := (12, .bipush (-2), 2, 12, [], (-2), 0, zM0) ::
  (14, .ireturn, 1, 14, [], 0, 0, zM0) :: tkX10_force_15
def tkX10_force_0 : List mE := (0, .iload_n 1, 1, 1, [], 0, 0, zM0) ::
  (1, .ifCond .lt 11, 3, 12, [], 0, 0, zM0) ::
  (4, .iload_n 1, 1, 1, [], 0, 0, zM0) ::
  (5, .aload_n 0, 1, 0, [], 0, 0, zM0) ::
  (6, .getfield 186, 3, 10, [12, 0, 3030], 0, 0, zM0) ::
  (9, .if_icmp .lt 6, 3, 15, [], 0, 0, zM0) :: tkX10_force_12
def tkX10_force : List mE := tkX10_force_0
theorem zkX10_force : zat 0 tkX10_force = tkX10_force_0 ∧ zat 12 tkX10_force = tkX10_force_12 ∧ zat 15 tkX10_force = tkX10_force_15 := ⟨rfl, rfl, rfl⟩
theorem okX10_force : zok kX10_force.2.1 kX10_force.2.2.1 kX10_force.2.2.2.1 tkX10_force = true := by decide +kernel
def tkX10_argue_20 : List mE := (20, .aload_n 0, 1, 0, [], 0, 0, zM0) ::
  (21, .getfield 21, 3, 10, [1, 2, 3019], 0, 0, zM0) ::
  (24, .aload_n 3, 1, 3, [], 0, 0, zM0) ::
  (25, .iload_n 2, 1, 2, [], 0, 0, zM0) ::
  (26, .aload_n 0, 1, 0, [], 0, 0, zM0) ::
  (27, .getfield 128, 3, 10, [10, 0, 3028], 0, 0, zM0) ::
  (30, .aload_n 0, 1, 0, [], 0, 0, zM0) ::
  (31, .invokevirtual 157, 3, 10, [3107, 0, 1], 0, 0, kX10_rule) ::
  (34, .invokevirtual 206, 3, 2, [3196, 4, 1], 0, 0, kX2_put) ::
  (37, .ireturn, 1, 37, [], 0, 0, zM0) :: []
def tkX10_argue_17 : List mE := (17, .bipush (-2), 2, 17, [], (-2), 0, zM0) ::
  (19, .ireturn, 1, 19, [], 0, 0, zM0) :: tkX10_argue_20
def tkX10_argue_0 : List mE := (0, .aload_n 0, 1, 0, [], 0, 0, zM0) ::
  (1, .iload_n 1, 1, 1, [], 0, 0, zM0) ::
  (2, .invokevirtual 124, 3, 10, [3103, 1, 1], 0, 0, kX10_henAt) ::
  (5, .astore_n 3, 1, 3, [], 0, 0, zM0) ::
  (6, .aload_n 3, 1, 3, [], 0, 0, zM0) ::
  (7, .ifnull 10, 3, 17, [], 0, 0, zM0) ::
  (10, .iload_n 2, 1, 2, [], 0, 0, zM0) ::
  (11, .invokestatic 99, 3, 0, [3066, 1, 1], 0, 0, kX10_isArgument) ::
  (14, .ifCond .ne 6, 3, 20, [], 0, 0, zM0) :: tkX10_argue_17
def tkX10_argue : List mE := tkX10_argue_0
theorem zkX10_argue : zat 0 tkX10_argue = tkX10_argue_0 ∧ zat 17 tkX10_argue = tkX10_argue_17 ∧ zat 20 tkX10_argue = tkX10_argue_20 := ⟨rfl, rfl, rfl⟩
theorem okX10_argue : zok kX10_argue.2.1 kX10_argue.2.2.1 kX10_argue.2.2.2.1 tkX10_argue = true := by decide +kernel
def tkX10_night_76 : List mE := (76, .aload_n 0, 1, 0, [], 0, 0, zM0) ::
  (77, .dup, 1, 77, [], 0, 0, zM0) ::
  (78, .getfield 128, 3, 10, [10, 0, 3028], 0, 0, zM0) ::
  (81, .iconst 1, 1, 81, [], 1, 0, zM0) ::
  (82, .iadd, 1, 82, [], 0, 0, zM0) ::
  (83, .putfield 128, 3, 10, [10, 0, 3028], 0, 0, zM0) ::
  (86, .iload_n 1, 1, 1, [], 0, 0, zM0) ::
  (87, .ireturn, 1, 87, [], 0, 0, zM0) :: []
def tkX10_night_17 : List mE := (17, .iload_n 2, 1, 2, [], 0, 0, zM0) ::
  (18, .aload_n 0, 1, 0, [], 0, 0, zM0) ::
  (19, .getfield 144, 3, 10, [11, 0, 3029], 0, 0, zM0) ::
  (22, .if_icmp .ge 54, 3, 76, [], 0, 0, zM0) ::
  (25, .iload_n 2, 1, 2, [], 0, 0, zM0) ::
  (26, .aload_n 0, 1, 0, [], 0, 0, zM0) ::
  (27, .getfield 27, 3, 10, [2, 2, 3020], 0, 0, zM0) ::
  (30, .arraylength, 1, 2, [], 0, 0, zM0) ::
  (31, .if_icmp .ge 45, 3, 76, [], 0, 0, zM0) ::
  (34, .aload_n 0, 1, 0, [], 0, 0, zM0) ::
  (35, .getfield 21, 3, 10, [1, 2, 3019], 0, 0, zM0) ::
  (38, .aload_n 0, 1, 0, [], 0, 0, zM0) ::
  (39, .getfield 27, 3, 10, [2, 2, 3020], 0, 0, zM0) ::
  (42, .iload_n 2, 1, 2, [], 0, 0, zM0) ::
  (43, .aaload, 1, 2, [], 0, 0, zM0) ::
  (44, .aload_n 0, 1, 0, [], 0, 0, zM0) ::
  (45, .getfield 128, 3, 10, [10, 0, 3028], 0, 0, zM0) ::
  (48, .aload_n 0, 1, 0, [], 0, 0, zM0) ::
  (49, .invokevirtual 157, 3, 10, [3107, 0, 1], 0, 0, kX10_rule) ::
  (52, .invokevirtual 209, 3, 2, [3207, 3, 0], 0, 0, kX2_sleep) ::
  (55, .iload_n 1, 1, 1, [], 0, 0, zM0) ::
  (56, .aload_n 0, 1, 0, [], 0, 0, zM0) ::
  (57, .getfield 27, 3, 10, [2, 2, 3020], 0, 0, zM0) ::
  (60, .iload_n 2, 1, 2, [], 0, 0, zM0) ::
  (61, .aaload, 1, 2, [], 0, 0, zM0) ::
  (62, .getfield 135, 3, 0, [2, 0, 1153], 0, 0, zM0) ::
  (65, .invokestatic 213, 3, 0, [3212, 1, 1], 0, 0, kJ6_bitCount_0f7a4) ::
  (68, .iadd, 1, 68, [], 0, 0, zM0) ::
  (69, .istore_n 1, 1, 1, [], 0, 0, zM0) ::
  (70, .iinc 2 1, 3, 2, [], 1, 0, zM0) ::
  (73, .goto (-56), 3, 17, [], 0, 0, zM0) :: tkX10_night_76
def tkX10_night_13 : List mE := (13, .iconst 0, 1, 13, [], 0, 0, zM0) ::
  (14, .istore_n 1, 1, 1, [], 0, 0, zM0) ::
  (15, .iconst 0, 1, 15, [], 0, 0, zM0) ::
  (16, .istore_n 2, 1, 2, [], 0, 0, zM0) :: tkX10_night_17
def tkX10_night_0 : List mE := (0, .aload_n 0, 1, 0, [], 0, 0, zM0) ::
  (1, .getfield 128, 3, 10, [10, 0, 3028], 0, 0, zM0) ::
  (4, .sipush 999, 3, 4, [], 999, 0, zM0) ::
  (7, .if_icmp .lt 6, 3, 13, [], 0, 0, zM0) ::
  (10, .bipush (-3), 2, 10, [], (-3), 0, zM0) ::
  (12, .ireturn, 1, 12, [], 0, 0, zM0) :: tkX10_night_13
def tkX10_night : List mE := tkX10_night_0
theorem zkX10_night : zat 0 tkX10_night = tkX10_night_0 ∧ zat 13 tkX10_night = tkX10_night_13 ∧ zat 17 tkX10_night = tkX10_night_17 ∧ zat 76 tkX10_night = tkX10_night_76 := ⟨rfl, rfl, rfl, rfl⟩
theorem okX10_night : zok kX10_night.2.1 kX10_night.2.2.1 kX10_night.2.2.2.1 tkX10_night = true := by decide +kernel
def tkX10_morning_80 : List mE := (80, .ireturn, 1, 80, [], 0, 0, zM0) :: []
def tkX10_morning_73 : List mE := (73, .aload_n 0, 1, 0, [], 0, 0, zM0) ::
  (74, .aload 4, 2, 4, [], 0, 0, zM0) ::
  (76, .iload_n 3, 1, 3, [], 0, 0, zM0) ::
  (77, .invokevirtual 232, 3, 10, [4008, 2, 1], 0, 0, kX10_onMorning) :: tkX10_morning_80
def tkX10_morning_50 : List mE := (50, .aload_n 0, 1, 0, [], 0, 0, zM0) ::
  (51, .getfield 74, 3, 10, [9, 2, 3027], 0, 0, zM0) ::
  (54, .aload 5, 2, 5, [], 0, 0, zM0) ::
  (56, .invokevirtual 226, 3, 0, [4000, 1, 0], 0, 0, kX0_become) ::
  (59, .iload_n 3, 1, 3, [], 0, 0, zM0) ::
  (60, .iconst 3, 1, 60, [], 3, 0, zM0) ::
  (61, .if_icmp .ne 12, 3, 73, [], 0, 0, zM0) ::
  (64, .aload_n 0, 1, 0, [], 0, 0, zM0) ::
  (65, .aload 4, 2, 4, [], 0, 0, zM0) ::
  (67, .invokevirtual 229, 3, 10, [4004, 1, 1], 0, 0, kX10_yieldsOnMorning) ::
  (70, .goto 10, 3, 80, [], 0, 0, zM0) :: tkX10_morning_73
def tkX10_morning_35 : List mE := (35, .aload 4, 2, 4, [], 0, 0, zM0) ::
  (37, .invokestatic 222, 3, 0, [3221, 1, 1], 0, 0, kX10_refusalOfMorning) ::
  (40, .istore 6, 2, 6, [], 0, 0, zM0) ::
  (42, .iload 6, 2, 6, [], 0, 0, zM0) ::
  (44, .ifCond .eq 6, 3, 50, [], 0, 0, zM0) ::
  (47, .iload 6, 2, 6, [], 0, 0, zM0) ::
  (49, .ireturn, 1, 49, [], 0, 0, zM0) :: tkX10_morning_50
def tkX10_morning_32 : List mE := (32, .bipush (-2), 2, 32, [], (-2), 0, zM0) ::
  (34, .ireturn, 1, 34, [], 0, 0, zM0) :: tkX10_morning_35
def tkX10_morning_0 : List mE := (0, .aload_n 0, 1, 0, [], 0, 0, zM0) ::
  (1, .iload_n 1, 1, 1, [], 0, 0, zM0) ::
  (2, .invokevirtual 218, 3, 10, [3217, 1, 1], 0, 0, kX10_sheetAt) ::
  (5, .astore 4, 2, 4, [], 0, 0, zM0) ::
  (7, .aload_n 0, 1, 0, [], 0, 0, zM0) ::
  (8, .iload_n 2, 1, 2, [], 0, 0, zM0) ::
  (9, .invokevirtual 124, 3, 10, [3103, 1, 1], 0, 0, kX10_henAt) ::
  (12, .astore 5, 2, 5, [], 0, 0, zM0) ::
  (14, .aload 4, 2, 4, [], 0, 0, zM0) ::
  (16, .ifnull 16, 3, 32, [], 0, 0, zM0) ::
  (19, .aload 5, 2, 5, [], 0, 0, zM0) ::
  (21, .ifnull 11, 3, 32, [], 0, 0, zM0) ::
  (24, .iload_n 3, 1, 3, [], 0, 0, zM0) ::
  (25, .iconst 3, 1, 25, [], 3, 0, zM0) ::
  (26, .invokestatic 102, 3, 0, [3069, 2, 1], 0, 0, kX10_isFrom0To) ::
  (29, .ifCond .ne 6, 3, 35, [], 0, 0, zM0) :: tkX10_morning_32
def tkX10_morning : List mE := tkX10_morning_0
theorem zkX10_morning : zat 0 tkX10_morning = tkX10_morning_0 ∧ zat 32 tkX10_morning = tkX10_morning_32 ∧ zat 35 tkX10_morning = tkX10_morning_35 ∧ zat 50 tkX10_morning = tkX10_morning_50 ∧ zat 73 tkX10_morning = tkX10_morning_73 ∧ zat 80 tkX10_morning = tkX10_morning_80 := ⟨rfl, rfl, rfl, rfl, rfl, rfl⟩
theorem okX10_morning : zok kX10_morning.2.1 kX10_morning.2.2.1 kX10_morning.2.2.2.1 tkX10_morning = true := by decide +kernel
def tkX10_sheetAt_23 : List mE := (23, .areturn, 1, 23, [], 0, 0, zM0) :: []
def tkX10_sheetAt_22 : List mE := (22, .aconst_null, 1, 22, [], 0, 0, zM0) :: tkX10_sheetAt_23
def tkX10_sheetAt_0 : List mE := (0, .iload_n 1, 1, 1, [], 0, 0, zM0) ::
  (1, .ifCond .lt 21, 3, 22, [], 0, 0, zM0) ::
  (4, .iload_n 1, 1, 1, [], 0, 0, zM0) ::
  (5, .aload_n 0, 1, 0, [], 0, 0, zM0) ::
  (6, .getfield 53, 3, 10, [6, 2, 3024], 0, 0, zM0) ::
  (9, .arraylength, 1, 3, [], 0, 0, zM0) ::
  (10, .if_icmp .ge 12, 3, 22, [], 0, 0, zM0) ::
  (13, .aload_n 0, 1, 0, [], 0, 0, zM0) ::
  (14, .getfield 53, 3, 10, [6, 2, 3024], 0, 0, zM0) ::
  (17, .iload_n 1, 1, 1, [], 0, 0, zM0) ::
  (18, .aaload, 1, 3, [], 0, 0, zM0) ::
  (19, .goto 4, 3, 23, [], 0, 0, zM0) :: tkX10_sheetAt_22
def tkX10_sheetAt : List mE := tkX10_sheetAt_0
theorem zkX10_sheetAt : zat 0 tkX10_sheetAt = tkX10_sheetAt_0 ∧ zat 22 tkX10_sheetAt = tkX10_sheetAt_22 ∧ zat 23 tkX10_sheetAt = tkX10_sheetAt_23 := ⟨rfl, rfl, rfl⟩
theorem okX10_sheetAt : zok kX10_sheetAt.2.1 kX10_sheetAt.2.2.1 kX10_sheetAt.2.2.2.1 tkX10_sheetAt = true := by decide +kernel
def tkX10_refusalOfMorning_40 : List mE := (40, .iconst 0, 1, 40, [], 0, 0, zM0) ::
  (41, .ireturn, 1, 41, [], 0, 0, zM0) :: []
def tkX10_refusalOfMorning_34 : List mE := (34, .iinc 1 1, 3, 1, [], 1, 0, zM0) ::
  (37, .goto (-25), 3, 12, [], 0, 0, zM0) :: tkX10_refusalOfMorning_40
def tkX10_refusalOfMorning_12 : List mE := (12, .iload_n 1, 1, 1, [], 0, 0, zM0) ::
  (13, .aload_n 0, 1, 0, [], 0, 0, zM0) ::
  (14, .invokevirtual 236, 3, 5, [3228, 0, 1], 0, 0, kX5_size) ::
  (17, .if_icmp .ge 23, 3, 40, [], 0, 0, zM0) ::
  (20, .aload_n 0, 1, 0, [], 0, 0, zM0) ::
  (21, .iload_n 1, 1, 1, [], 0, 0, zM0) ::
  (22, .invokevirtual 237, 3, 5, [3232, 1, 1], 0, 0, kX5_item) ::
  (25, .invokestatic 99, 3, 0, [3066, 1, 1], 0, 0, kX10_isArgument) ::
  (28, .ifCond .ne 6, 3, 34, [], 0, 0, zM0) ::
  (31, .bipush (-2), 2, 31, [], (-2), 0, zM0) ::
  (33, .ireturn, 1, 33, [], 0, 0, zM0) :: tkX10_refusalOfMorning_34
def tkX10_refusalOfMorning_10 : List mE := (10, .iconst 0, 1, 10, [], 0, 0, zM0) ::
  (11, .istore_n 1, 1, 1, [], 0, 0, zM0) :: tkX10_refusalOfMorning_12
def tkX10_refusalOfMorning_0 : List mE := (0, .aload_n 0, 1, 0, [], 0, 0, zM0) ::
  (1, .invokevirtual 240, 3, 5, [3224, 0, 1], 0, 0, kX5_isMissing) ::
  (4, .ifCond .eq 6, 3, 10, [], 0, 0, zM0) ::
  (7, .bipush (-11), 2, 7, [], (-11), 0, zM0) ::
  (9, .ireturn, 1, 9, [], 0, 0, zM0) :: tkX10_refusalOfMorning_10
def tkX10_refusalOfMorning : List mE := tkX10_refusalOfMorning_0
theorem zkX10_refusalOfMorning : zat 0 tkX10_refusalOfMorning = tkX10_refusalOfMorning_0 ∧ zat 10 tkX10_refusalOfMorning = tkX10_refusalOfMorning_10 ∧ zat 12 tkX10_refusalOfMorning = tkX10_refusalOfMorning_12 ∧ zat 34 tkX10_refusalOfMorning = tkX10_refusalOfMorning_34 ∧ zat 40 tkX10_refusalOfMorning = tkX10_refusalOfMorning_40 := ⟨rfl, rfl, rfl, rfl, rfl⟩
theorem okX10_refusalOfMorning : zok kX10_refusalOfMorning.2.1 kX10_refusalOfMorning.2.2.1 kX10_refusalOfMorning.2.2.2.1 tkX10_refusalOfMorning = true := by decide +kernel
def tkX10_yieldsOnMorning_73 : List mE := (73, .iload_n 2, 1, 2, [], 0, 0, zM0) ::
  (74, .ireturn, 1, 74, [], 0, 0, zM0) :: []
def tkX10_yieldsOnMorning_42 : List mE := (42, .aload_n 0, 1, 0, [], 0, 0, zM0) ::
  (43, .getfield 21, 3, 10, [1, 2, 3019], 0, 0, zM0) ::
  (46, .aload_n 0, 1, 0, [], 0, 0, zM0) ::
  (47, .getfield 74, 3, 10, [9, 2, 3027], 0, 0, zM0) ::
  (50, .aload_n 1, 1, 1, [], 0, 0, zM0) ::
  (51, .iload_n 3, 1, 3, [], 0, 0, zM0) ::
  (52, .invokevirtual 237, 3, 5, [3232, 1, 1], 0, 0, kX5_item) ::
  (55, .aload_n 0, 1, 0, [], 0, 0, zM0) ::
  (56, .getfield 128, 3, 10, [10, 0, 3028], 0, 0, zM0) ::
  (59, .aload_n 0, 1, 0, [], 0, 0, zM0) ::
  (60, .invokevirtual 157, 3, 10, [3107, 0, 1], 0, 0, kX10_rule) ::
  (63, .invokevirtual 206, 3, 2, [3196, 4, 1], 0, 0, kX2_put) ::
  (66, .pop, 1, 66, [], 0, 0, zM0) ::
  (67, .iinc 3 1, 3, 3, [], 1, 0, zM0) ::
  (70, .goto (-66), 3, 4, [], 0, 0, zM0) :: tkX10_yieldsOnMorning_73
def tkX10_yieldsOnMorning_4 : List mE := (4, .iload_n 3, 1, 3, [], 0, 0, zM0) ::
  (5, .aload_n 1, 1, 1, [], 0, 0, zM0) ::
  (6, .invokevirtual 236, 3, 5, [3228, 0, 1], 0, 0, kX5_size) ::
  (9, .if_icmp .ge 64, 3, 73, [], 0, 0, zM0) ::
  (12, .aload_n 0, 1, 0, [], 0, 0, zM0) ::
  (13, .getfield 21, 3, 10, [1, 2, 3019], 0, 0, zM0) ::
  (16, .aload_n 0, 1, 0, [], 0, 0, zM0) ::
  (17, .getfield 74, 3, 10, [9, 2, 3027], 0, 0, zM0) ::
  (20, .aload_n 1, 1, 1, [], 0, 0, zM0) ::
  (21, .iload_n 3, 1, 3, [], 0, 0, zM0) ::
  (22, .invokevirtual 237, 3, 5, [3232, 1, 1], 0, 0, kX5_item) ::
  (25, .aload_n 0, 1, 0, [], 0, 0, zM0) ::
  (26, .getfield 128, 3, 10, [10, 0, 3028], 0, 0, zM0) ::
  (29, .aload_n 0, 1, 0, [], 0, 0, zM0) ::
  (30, .invokevirtual 157, 3, 10, [3107, 0, 1], 0, 0, kX10_rule) ::
  (33, .invokevirtual 176, 3, 2, [3177, 4, 1], 0, 0, kX2_isYielding) ::
  (36, .ifCond .eq 6, 3, 42, [], 0, 0, zM0) ::
  (39, .iinc 2 1, 3, 2, [], 1, 0, zM0) :: tkX10_yieldsOnMorning_42
def tkX10_yieldsOnMorning_0 : List mE := (0, .iconst 0, 1, 0, [], 0, 0, zM0) ::
  (1, .istore_n 2, 1, 2, [], 0, 0, zM0) ::
  (2, .iconst 0, 1, 2, [], 0, 0, zM0) ::
  (3, .istore_n 3, 1, 3, [], 0, 0, zM0) :: tkX10_yieldsOnMorning_4
def tkX10_yieldsOnMorning : List mE := tkX10_yieldsOnMorning_0
theorem zkX10_yieldsOnMorning : zat 0 tkX10_yieldsOnMorning = tkX10_yieldsOnMorning_0 ∧ zat 4 tkX10_yieldsOnMorning = tkX10_yieldsOnMorning_4 ∧ zat 42 tkX10_yieldsOnMorning = tkX10_yieldsOnMorning_42 ∧ zat 73 tkX10_yieldsOnMorning = tkX10_yieldsOnMorning_73 := ⟨rfl, rfl, rfl, rfl⟩
theorem okX10_yieldsOnMorning : zok kX10_yieldsOnMorning.2.1 kX10_yieldsOnMorning.2.2.1 kX10_yieldsOnMorning.2.2.2.1 tkX10_yieldsOnMorning = true := by decide +kernel
def tkX10_onMorning_86 : List mE := (86, .ireturn, 1, 86, [], 0, 0, zM0) :: []
def tkX10_onMorning_84 : List mE := (84, .iload 4, 2, 4, [], 0, 0, zM0) :: tkX10_onMorning_86
def tkX10_onMorning_76 : List mE := (76, .iload_n 2, 1, 2, [], 0, 0, zM0) ::
  (77, .ifCond .ne 7, 3, 84, [], 0, 0, zM0) ::
  (80, .iload_n 3, 1, 3, [], 0, 0, zM0) ::
  (81, .goto 5, 3, 86, [], 0, 0, zM0) :: tkX10_onMorning_84
def tkX10_onMorning_63 : List mE := (63, .iload_n 2, 1, 2, [], 0, 0, zM0) ::
  (64, .iconst 1, 1, 64, [], 1, 0, zM0) ::
  (65, .if_icmp .ne 11, 3, 76, [], 0, 0, zM0) ::
  (68, .aload_n 0, 1, 0, [], 0, 0, zM0) ::
  (69, .getfield 74, 3, 10, [9, 2, 3027], 0, 0, zM0) ::
  (72, .getfield 135, 3, 0, [2, 0, 1153], 0, 0, zM0) ::
  (75, .ireturn, 1, 75, [], 0, 0, zM0) :: tkX10_onMorning_76
def tkX10_onMorning_57 : List mE := (57, .iinc 5 1, 3, 5, [], 1, 0, zM0) ::
  (60, .goto (-52), 3, 8, [], 0, 0, zM0) :: tkX10_onMorning_63
def tkX10_onMorning_8 : List mE := (8, .iload 5, 2, 5, [], 0, 0, zM0) ::
  (10, .aload_n 1, 1, 1, [], 0, 0, zM0) ::
  (11, .invokevirtual 236, 3, 5, [3228, 0, 1], 0, 0, kX5_size) ::
  (14, .if_icmp .ge 49, 3, 63, [], 0, 0, zM0) ::
  (17, .aload_n 0, 1, 0, [], 0, 0, zM0) ::
  (18, .getfield 21, 3, 10, [1, 2, 3019], 0, 0, zM0) ::
  (21, .aload_n 0, 1, 0, [], 0, 0, zM0) ::
  (22, .getfield 74, 3, 10, [9, 2, 3027], 0, 0, zM0) ::
  (25, .aload_n 1, 1, 1, [], 0, 0, zM0) ::
  (26, .iload 5, 2, 5, [], 0, 0, zM0) ::
  (28, .invokevirtual 237, 3, 5, [3232, 1, 1], 0, 0, kX5_item) ::
  (31, .aload_n 0, 1, 0, [], 0, 0, zM0) ::
  (32, .getfield 128, 3, 10, [10, 0, 3028], 0, 0, zM0) ::
  (35, .aload_n 0, 1, 0, [], 0, 0, zM0) ::
  (36, .invokevirtual 157, 3, 10, [3107, 0, 1], 0, 0, kX10_rule) ::
  (39, .invokevirtual 206, 3, 2, [3196, 4, 1], 0, 0, kX2_put) ::
  (42, .istore 6, 2, 6, [], 0, 0, zM0) ::
  (44, .iload_n 3, 1, 3, [], 0, 0, zM0) ::
  (45, .iload 6, 2, 6, [], 0, 0, zM0) ::
  (47, .iadd, 1, 47, [], 0, 0, zM0) ::
  (48, .istore_n 3, 1, 3, [], 0, 0, zM0) ::
  (49, .iload 6, 2, 6, [], 0, 0, zM0) ::
  (51, .ifCond .ne 6, 3, 57, [], 0, 0, zM0) ::
  (54, .iinc 4 1, 3, 4, [], 1, 0, zM0) :: tkX10_onMorning_57
def tkX10_onMorning_0 : List mE := (0, .iconst 0, 1, 0, [], 0, 0, zM0) ::
  (1, .istore_n 3, 1, 3, [], 0, 0, zM0) ::
  (2, .iconst 0, 1, 2, [], 0, 0, zM0) ::
  (3, .istore 4, 2, 4, [], 0, 0, zM0) ::
  (5, .iconst 0, 1, 5, [], 0, 0, zM0) ::
  (6, .istore 5, 2, 5, [], 0, 0, zM0) :: tkX10_onMorning_8
def tkX10_onMorning : List mE := tkX10_onMorning_0
theorem zkX10_onMorning : zat 0 tkX10_onMorning = tkX10_onMorning_0 ∧ zat 8 tkX10_onMorning = tkX10_onMorning_8 ∧ zat 57 tkX10_onMorning = tkX10_onMorning_57 ∧ zat 63 tkX10_onMorning = tkX10_onMorning_63 ∧ zat 76 tkX10_onMorning = tkX10_onMorning_76 ∧ zat 84 tkX10_onMorning = tkX10_onMorning_84 ∧ zat 86 tkX10_onMorning = tkX10_onMorning_86 := ⟨rfl, rfl, rfl, rfl, rfl, rfl, rfl⟩
theorem okX10_onMorning : zok kX10_onMorning.2.1 kX10_onMorning.2.2.1 kX10_onMorning.2.2.2.1 tkX10_onMorning = true := by decide +kernel
def tkX10_teach_88 : List mE := (88, .iload 6, 2, 6, [], 0, 0, zM0) ::
  (90, .ireturn, 1, 90, [], 0, 0, zM0) :: []
def tkX10_teach_45 : List mE := (45, .iload 7, 2, 7, [], 0, 0, zM0) ::
  (47, .aload_n 3, 1, 3, [], 0, 0, zM0) ::
  (48, .invokevirtual 236, 3, 5, [3228, 0, 1], 0, 0, kX5_size) ::
  (51, .if_icmp .ge 37, 3, 88, [], 0, 0, zM0) ::
  (54, .iload 6, 2, 6, [], 0, 0, zM0) ::
  (56, .aload_n 0, 1, 0, [], 0, 0, zM0) ::
  (57, .getfield 21, 3, 10, [1, 2, 3019], 0, 0, zM0) ::
  (60, .aload 4, 2, 4, [], 0, 0, zM0) ::
  (62, .aload_n 3, 1, 3, [], 0, 0, zM0) ::
  (63, .iload 7, 2, 7, [], 0, 0, zM0) ::
  (65, .invokevirtual 237, 3, 5, [3232, 1, 1], 0, 0, kX5_item) ::
  (68, .aload_n 0, 1, 0, [], 0, 0, zM0) ::
  (69, .getfield 128, 3, 10, [10, 0, 3028], 0, 0, zM0) ::
  (72, .aload_n 0, 1, 0, [], 0, 0, zM0) ::
  (73, .invokevirtual 157, 3, 10, [3107, 0, 1], 0, 0, kX10_rule) ::
  (76, .invokevirtual 206, 3, 2, [3196, 4, 1], 0, 0, kX2_put) ::
  (79, .iadd, 1, 79, [], 0, 0, zM0) ::
  (80, .istore 6, 2, 6, [], 0, 0, zM0) ::
  (82, .iinc 7 1, 3, 7, [], 1, 0, zM0) ::
  (85, .goto (-40), 3, 45, [], 0, 0, zM0) :: tkX10_teach_88
def tkX10_teach_39 : List mE := (39, .iconst 0, 1, 39, [], 0, 0, zM0) ::
  (40, .istore 6, 2, 6, [], 0, 0, zM0) ::
  (42, .iconst 0, 1, 42, [], 0, 0, zM0) ::
  (43, .istore 7, 2, 7, [], 0, 0, zM0) :: tkX10_teach_45
def tkX10_teach_25 : List mE := (25, .aload_n 3, 1, 3, [], 0, 0, zM0) ::
  (26, .invokestatic 222, 3, 0, [3221, 1, 1], 0, 0, kX10_refusalOfMorning) ::
  (29, .istore 5, 2, 5, [], 0, 0, zM0) ::
  (31, .iload 5, 2, 5, [], 0, 0, zM0) ::
  (33, .ifCond .eq 6, 3, 39, [], 0, 0, zM0) ::
  (36, .iload 5, 2, 5, [], 0, 0, zM0) ::
  (38, .ireturn, 1, 38, [], 0, 0, zM0) :: tkX10_teach_39
def tkX10_teach_22 : List mE := (22, .bipush (-2), 2, 22, [], (-2), 0, zM0) ::
  (24, .ireturn, 1, 24, [], 0, 0, zM0) :: tkX10_teach_25
def tkX10_teach_0 : List mE := (0, .aload_n 0, 1, 0, [], 0, 0, zM0) ::
  (1, .iload_n 1, 1, 1, [], 0, 0, zM0) ::
  (2, .invokevirtual 218, 3, 10, [3217, 1, 1], 0, 0, kX10_sheetAt) ::
  (5, .astore_n 3, 1, 3, [], 0, 0, zM0) ::
  (6, .aload_n 0, 1, 0, [], 0, 0, zM0) ::
  (7, .iload_n 2, 1, 2, [], 0, 0, zM0) ::
  (8, .invokevirtual 124, 3, 10, [3103, 1, 1], 0, 0, kX10_henAt) ::
  (11, .astore 4, 2, 4, [], 0, 0, zM0) ::
  (13, .aload_n 3, 1, 3, [], 0, 0, zM0) ::
  (14, .ifnull 8, 3, 22, [], 0, 0, zM0) ::
  (17, .aload 4, 2, 4, [], 0, 0, zM0) ::
  (19, .ifnonnull 6, 3, 25, [], 0, 0, zM0) :: tkX10_teach_22
def tkX10_teach : List mE := tkX10_teach_0
theorem zkX10_teach : zat 0 tkX10_teach = tkX10_teach_0 ∧ zat 22 tkX10_teach = tkX10_teach_22 ∧ zat 25 tkX10_teach = tkX10_teach_25 ∧ zat 39 tkX10_teach = tkX10_teach_39 ∧ zat 45 tkX10_teach = tkX10_teach_45 ∧ zat 88 tkX10_teach = tkX10_teach_88 := ⟨rfl, rfl, rfl, rfl, rfl, rfl⟩
theorem okX10_teach : zok kX10_teach.2.1 kX10_teach.2.2.1 kX10_teach.2.2.2.1 tkX10_teach = true := by decide +kernel
def tkX10_nights_134 : List mE := (134, .ireturn, 1, 134, [], 0, 0, zM0) :: []
def tkX10_nights_132 : List mE := (132, .iload 6, 2, 6, [], 0, 0, zM0) :: tkX10_nights_134
def tkX10_nights_117 : List mE := (117, .iload 4, 2, 4, [], 0, 0, zM0) ::
  (119, .ifCond .ne 13, 3, 132, [], 0, 0, zM0) ::
  (122, .aload_n 0, 1, 0, [], 0, 0, zM0) ::
  (123, .getfield 74, 3, 10, [9, 2, 3027], 0, 0, zM0) ::
  (126, .getfield 135, 3, 0, [2, 0, 1153], 0, 0, zM0) ::
  (129, .goto 5, 3, 134, [], 0, 0, zM0) :: tkX10_nights_132
def tkX10_nights_55 : List mE := (55, .iload 7, 2, 7, [], 0, 0, zM0) ::
  (57, .iload_n 3, 1, 3, [], 0, 0, zM0) ::
  (58, .if_icmp .ge 59, 3, 117, [], 0, 0, zM0) ::
  (61, .iload 6, 2, 6, [], 0, 0, zM0) ::
  (63, .aload_n 0, 1, 0, [], 0, 0, zM0) ::
  (64, .getfield 21, 3, 10, [1, 2, 3019], 0, 0, zM0) ::
  (67, .aload_n 0, 1, 0, [], 0, 0, zM0) ::
  (68, .getfield 74, 3, 10, [9, 2, 3027], 0, 0, zM0) ::
  (71, .iload_n 2, 1, 2, [], 0, 0, zM0) ::
  (72, .aload_n 0, 1, 0, [], 0, 0, zM0) ::
  (73, .getfield 128, 3, 10, [10, 0, 3028], 0, 0, zM0) ::
  (76, .iload 7, 2, 7, [], 0, 0, zM0) ::
  (78, .iadd, 1, 78, [], 0, 0, zM0) ::
  (79, .aload_n 0, 1, 0, [], 0, 0, zM0) ::
  (80, .invokevirtual 157, 3, 10, [3107, 0, 1], 0, 0, kX10_rule) ::
  (83, .invokevirtual 206, 3, 2, [3196, 4, 1], 0, 0, kX2_put) ::
  (86, .iadd, 1, 86, [], 0, 0, zM0) ::
  (87, .istore 6, 2, 6, [], 0, 0, zM0) ::
  (89, .aload_n 0, 1, 0, [], 0, 0, zM0) ::
  (90, .getfield 21, 3, 10, [1, 2, 3019], 0, 0, zM0) ::
  (93, .aload_n 0, 1, 0, [], 0, 0, zM0) ::
  (94, .getfield 74, 3, 10, [9, 2, 3027], 0, 0, zM0) ::
  (97, .aload_n 0, 1, 0, [], 0, 0, zM0) ::
  (98, .getfield 128, 3, 10, [10, 0, 3028], 0, 0, zM0) ::
  (101, .iload 7, 2, 7, [], 0, 0, zM0) ::
  (103, .iadd, 1, 103, [], 0, 0, zM0) ::
  (104, .aload_n 0, 1, 0, [], 0, 0, zM0) ::
  (105, .invokevirtual 157, 3, 10, [3107, 0, 1], 0, 0, kX10_rule) ::
  (108, .invokevirtual 209, 3, 2, [3207, 3, 0], 0, 0, kX2_sleep) ::
  (111, .iinc 7 1, 3, 7, [], 1, 0, zM0) ::
  (114, .goto (-59), 3, 55, [], 0, 0, zM0) :: tkX10_nights_117
def tkX10_nights_40 : List mE := (40, .aload_n 0, 1, 0, [], 0, 0, zM0) ::
  (41, .getfield 74, 3, 10, [9, 2, 3027], 0, 0, zM0) ::
  (44, .aload 5, 2, 5, [], 0, 0, zM0) ::
  (46, .invokevirtual 226, 3, 0, [4000, 1, 0], 0, 0, kX0_become) ::
  (49, .iconst 0, 1, 49, [], 0, 0, zM0) ::
  (50, .istore 6, 2, 6, [], 0, 0, zM0) ::
  (52, .iconst 0, 1, 52, [], 0, 0, zM0) ::
  (53, .istore 7, 2, 7, [], 0, 0, zM0) :: tkX10_nights_55
def tkX10_nights_37 : List mE := (37, .bipush (-2), 2, 37, [], (-2), 0, zM0) ::
  (39, .ireturn, 1, 39, [], 0, 0, zM0) :: tkX10_nights_40
def tkX10_nights_0 : List mE := (0, .aload_n 0, 1, 0, [], 0, 0, zM0) ::
  (1, .iload_n 1, 1, 1, [], 0, 0, zM0) ::
  (2, .invokevirtual 124, 3, 10, [3103, 1, 1], 0, 0, kX10_henAt) ::
  (5, .astore 5, 2, 5, [], 0, 0, zM0) ::
  (7, .aload 5, 2, 5, [], 0, 0, zM0) ::
  (9, .ifnull 28, 3, 37, [], 0, 0, zM0) ::
  (12, .iload_n 2, 1, 2, [], 0, 0, zM0) ::
  (13, .invokestatic 99, 3, 0, [3066, 1, 1], 0, 0, kX10_isArgument) ::
  (16, .ifCond .eq 21, 3, 37, [], 0, 0, zM0) ::
  (19, .iload_n 3, 1, 3, [], 0, 0, zM0) ::
  (20, .bipush 30, 2, 20, [], 30, 0, zM0) ::
  (22, .invokestatic 102, 3, 0, [3069, 2, 1], 0, 0, kX10_isFrom0To) ::
  (25, .ifCond .eq 12, 3, 37, [], 0, 0, zM0) ::
  (28, .iload 4, 2, 4, [], 0, 0, zM0) ::
  (30, .iconst 1, 1, 30, [], 1, 0, zM0) ::
  (31, .invokestatic 102, 3, 0, [3069, 2, 1], 0, 0, kX10_isFrom0To) ::
  (34, .ifCond .ne 6, 3, 40, [], 0, 0, zM0) :: tkX10_nights_37
def tkX10_nights : List mE := tkX10_nights_0
theorem zkX10_nights : zat 0 tkX10_nights = tkX10_nights_0 ∧ zat 37 tkX10_nights = tkX10_nights_37 ∧ zat 40 tkX10_nights = tkX10_nights_40 ∧ zat 55 tkX10_nights = tkX10_nights_55 ∧ zat 117 tkX10_nights = tkX10_nights_117 ∧ zat 132 tkX10_nights = tkX10_nights_132 ∧ zat 134 tkX10_nights = tkX10_nights_134 := ⟨rfl, rfl, rfl, rfl, rfl, rfl, rfl⟩
theorem okX10_nights : zok kX10_nights.2.1 kX10_nights.2.2.1 kX10_nights.2.2.2.1 tkX10_nights = true := by decide +kernel
def tkX10_field_95 : List mE := (95, .bipush (-2), 2, 95, [], (-2), 0, zM0) ::
  (97, .ireturn, 1, 97, [], 0, 0, zM0) :: []
def tkX10_field_87 : List mE := (87, .aload_n 0, 1, 0, [], 0, 0, zM0) ::
  (88, .getfield 10, 3, 10, [0, 2, 3018], 0, 0, zM0) ::
  (91, .invokevirtual 259, 3, 6, [4058, 0, 1], 0, 0, kX6_vain) ::
  (94, .ireturn, 1, 94, [], 0, 0, zM0) :: tkX10_field_95
def tkX10_field_79 : List mE := (79, .aload_n 0, 1, 0, [], 0, 0, zM0) ::
  (80, .getfield 10, 3, 10, [0, 2, 3018], 0, 0, zM0) ::
  (83, .invokevirtual 256, 3, 6, [4054, 0, 1], 0, 0, kX6_leastStable) ::
  (86, .ireturn, 1, 86, [], 0, 0, zM0) :: tkX10_field_87
def tkX10_field_71 : List mE := (71, .aload_n 0, 1, 0, [], 0, 0, zM0) ::
  (72, .getfield 10, 3, 10, [0, 2, 3018], 0, 0, zM0) ::
  (75, .invokevirtual 253, 3, 6, [4046, 0, 1], 0, 0, kX6_stableSets) ::
  (78, .ireturn, 1, 78, [], 0, 0, zM0) :: tkX10_field_79
def tkX10_field_63 : List mE := (63, .aload_n 0, 1, 0, [], 0, 0, zM0) ::
  (64, .getfield 10, 3, 10, [0, 2, 3018], 0, 0, zM0) ::
  (67, .invokevirtual 250, 3, 6, [4038, 0, 1], 0, 0, kX6_freeSets) ::
  (70, .ireturn, 1, 70, [], 0, 0, zM0) :: tkX10_field_71
def tkX10_field_48 : List mE := (48, .aload_n 0, 1, 0, [], 0, 0, zM0) ::
  (49, .getfield 10, 3, 10, [0, 2, 3018], 0, 0, zM0) ::
  (52, .aload_n 0, 1, 0, [], 0, 0, zM0) ::
  (53, .getfield 10, 3, 10, [0, 2, 3018], 0, 0, zM0) ::
  (56, .invokevirtual 244, 3, 6, [4024, 0, 1], 0, 0, kX6_standing) ::
  (59, .invokevirtual 247, 3, 6, [4037, 1, 1], 0, 0, kX6_struckByAll) ::
  (62, .ireturn, 1, 62, [], 0, 0, zM0) :: tkX10_field_63
def tkX10_field_40 : List mE := (40, .aload_n 0, 1, 0, [], 0, 0, zM0) ::
  (41, .getfield 10, 3, 10, [0, 2, 3018], 0, 0, zM0) ::
  (44, .invokevirtual 244, 3, 6, [4024, 0, 1], 0, 0, kX6_standing) ::
  (47, .ireturn, 1, 47, [], 0, 0, zM0) :: tkX10_field_48
def tkX10_field_0 : List mE := (0, .iload_n 1, 1, 1, [], 0, 0, zM0) ::
  (1, .tableswitch 94 0 5 #[39, 47, 62, 70, 78, 86], 39, 95, [40, 48, 63, 71, 79, 87], 0, 0, zM0) :: tkX10_field_40
def tkX10_field : List mE := tkX10_field_0
theorem zkX10_field : zat 0 tkX10_field = tkX10_field_0 ∧ zat 40 tkX10_field = tkX10_field_40 ∧ zat 48 tkX10_field = tkX10_field_48 ∧ zat 63 tkX10_field = tkX10_field_63 ∧ zat 71 tkX10_field = tkX10_field_71 ∧ zat 79 tkX10_field = tkX10_field_79 ∧ zat 87 tkX10_field = tkX10_field_87 ∧ zat 95 tkX10_field = tkX10_field_95 := ⟨rfl, rfl, rfl, rfl, rfl, rfl, rfl, rfl⟩
theorem okX10_field : zok kX10_field.2.1 kX10_field.2.2.1 kX10_field.2.2.2.1 tkX10_field = true := by decide +kernel
def tkX10_sets_83 : List mE := (83, .bipush (-2), 2, 83, [], (-2), 0, zM0) ::
  (85, .ireturn, 1, 85, [], 0, 0, zM0) :: []
def tkX10_sets_74 : List mE := (74, .aload_n 0, 1, 0, [], 0, 0, zM0) ::
  (75, .getfield 10, 3, 10, [0, 2, 3018], 0, 0, zM0) ::
  (78, .iload_n 1, 1, 1, [], 0, 0, zM0) ::
  (79, .invokevirtual 268, 3, 6, [4070, 1, 1], 0, 0, kX6_defendedBy) ::
  (82, .ireturn, 1, 82, [], 0, 0, zM0) :: tkX10_sets_83
def tkX10_sets_73 : List mE := (73, .ireturn, 1, 73, [], 0, 0, zM0) :: tkX10_sets_74
def tkX10_sets_72 : List mE := (72, .iconst 0, 1, 72, [], 0, 0, zM0) :: tkX10_sets_73
def tkX10_sets_57 : List mE := (57, .aload_n 0, 1, 0, [], 0, 0, zM0) ::
  (58, .getfield 10, 3, 10, [0, 2, 3018], 0, 0, zM0) ::
  (61, .iload_n 1, 1, 1, [], 0, 0, zM0) ::
  (62, .invokevirtual 265, 3, 6, [4069, 1, 1], 0, 0, kX6_isStable) ::
  (65, .ifCond .eq 7, 3, 72, [], 0, 0, zM0) ::
  (68, .iconst 1, 1, 68, [], 1, 0, zM0) ::
  (69, .goto 4, 3, 73, [], 0, 0, zM0) :: tkX10_sets_72
def tkX10_sets_56 : List mE := (56, .ireturn, 1, 56, [], 0, 0, zM0) :: tkX10_sets_57
def tkX10_sets_55 : List mE := (55, .iconst 0, 1, 55, [], 0, 0, zM0) :: tkX10_sets_56
def tkX10_sets_40 : List mE := (40, .aload_n 0, 1, 0, [], 0, 0, zM0) ::
  (41, .getfield 10, 3, 10, [0, 2, 3018], 0, 0, zM0) ::
  (44, .iload_n 1, 1, 1, [], 0, 0, zM0) ::
  (45, .invokevirtual 262, 3, 6, [4068, 1, 1], 0, 0, kX6_isFree) ::
  (48, .ifCond .eq 7, 3, 55, [], 0, 0, zM0) ::
  (51, .iconst 1, 1, 51, [], 1, 0, zM0) ::
  (52, .goto 4, 3, 56, [], 0, 0, zM0) :: tkX10_sets_55
def tkX10_sets_13 : List mE := (13, .iload_n 2, 1, 2, [], 0, 0, zM0) ::
  (14, .tableswitch 69 0 2 #[26, 43, 60], 26, 83, [40, 57, 74], 0, 0, zM0) :: tkX10_sets_40
def tkX10_sets_0 : List mE := (0, .iload_n 1, 1, 1, [], 0, 0, zM0) ::
  (1, .sipush 1023, 3, 1, [], 1023, 0, zM0) ::
  (4, .invokestatic 102, 3, 0, [3069, 2, 1], 0, 0, kX10_isFrom0To) ::
  (7, .ifCond .ne 6, 3, 13, [], 0, 0, zM0) ::
  (10, .bipush (-2), 2, 10, [], (-2), 0, zM0) ::
  (12, .ireturn, 1, 12, [], 0, 0, zM0) :: tkX10_sets_13
def tkX10_sets : List mE := tkX10_sets_0
theorem zkX10_sets : zat 0 tkX10_sets = tkX10_sets_0 ∧ zat 13 tkX10_sets = tkX10_sets_13 ∧ zat 40 tkX10_sets = tkX10_sets_40 ∧ zat 55 tkX10_sets = tkX10_sets_55 ∧ zat 56 tkX10_sets = tkX10_sets_56 ∧ zat 57 tkX10_sets = tkX10_sets_57 ∧ zat 72 tkX10_sets = tkX10_sets_72 ∧ zat 73 tkX10_sets = tkX10_sets_73 ∧ zat 74 tkX10_sets = tkX10_sets_74 ∧ zat 83 tkX10_sets = tkX10_sets_83 := ⟨rfl, rfl, rfl, rfl, rfl, rfl, rfl, rfl, rfl, rfl⟩
theorem okX10_sets : zok kX10_sets.2.1 kX10_sets.2.2.1 kX10_sets.2.2.2.1 tkX10_sets = true := by decide +kernel
def tkX10_share_12 : List mE := (12, .aload_n 0, 1, 0, [], 0, 0, zM0) ::
  (13, .getfield 10, 3, 10, [0, 2, 3018], 0, 0, zM0) ::
  (16, .invokevirtual 244, 3, 6, [4024, 0, 1], 0, 0, kX6_standing) ::
  (19, .invokestatic 213, 3, 0, [3212, 1, 1], 0, 0, kJ6_bitCount_0f7a4) ::
  (22, .bipush 10, 2, 22, [], 10, 0, zM0) ::
  (24, .iload_n 1, 1, 1, [], 0, 0, zM0) ::
  (25, .invokestatic 273, 3, 0, [4076, 3, 1], 0, 0, kX10_partOfLowest) ::
  (28, .i2l, 1, 28, [], 0, 0, zM0) ::
  (29, .lreturn, 1, 29, [], 0, 0, zM0) :: []
def tkX10_share_0 : List mE := (0, .iload_n 1, 1, 1, [], 0, 0, zM0) ::
  (1, .iconst 1, 1, 1, [], 1, 0, zM0) ::
  (2, .invokestatic 102, 3, 0, [3069, 2, 1], 0, 0, kX10_isFrom0To) ::
  (5, .ifCond .ne 7, 3, 12, [], 0, 0, zM0) ::
  (8, .ldc2_w 271, 3, 8, [4075], 0, (-4611686018427387904), zM0) ::
  (11, .lreturn, 1, 11, [], 0, 0, zM0) :: tkX10_share_12
def tkX10_share : List mE := tkX10_share_0
theorem zkX10_share : zat 0 tkX10_share = tkX10_share_0 ∧ zat 12 tkX10_share = tkX10_share_12 := ⟨rfl, rfl⟩
theorem okX10_share : zok kX10_share.2.1 kX10_share.2.2.1 kX10_share.2.2.2.1 tkX10_share = true := by decide +kernel
def tkX10_partOfLowest_61 : List mE := (61, .ireturn, 1, 61, [], 0, 0, zM0) :: []
def tkX10_partOfLowest_57 : List mE := (57, .iload_n 1, 1, 1, [], 0, 0, zM0) ::
  (58, .iload 5, 2, 5, [], 0, 0, zM0) ::
  (60, .idiv, 1, 60, [], 0, 0, zM0) :: tkX10_partOfLowest_61
def tkX10_partOfLowest_39 : List mE := (39, .iconst 1, 1, 39, [], 1, 0, zM0) ::
  (40, .iload_n 3, 1, 3, [], 0, 0, zM0) ::
  (41, .invokestatic 382, 3, 7, [4079], 0, 0, zM0) ::
  (44, .istore 5, 2, 5, [], 0, 0, zM0) ::
  (46, .iload_n 2, 1, 2, [], 0, 0, zM0) ::
  (47, .ifCond .ne 10, 3, 57, [], 0, 0, zM0) ::
  (50, .iload_n 0, 1, 0, [], 0, 0, zM0) ::
  (51, .iload 5, 2, 5, [], 0, 0, zM0) ::
  (53, .idiv, 1, 53, [], 0, 0, zM0) ::
  (54, .goto 7, 3, 61, [], 0, 0, zM0) :: tkX10_partOfLowest_57
def tkX10_partOfLowest_8 : List mE := (8, .iload 5, 2, 5, [], 0, 0, zM0) ::
  (10, .bipush 64, 2, 10, [], 64, 0, zM0) ::
  (12, .if_icmp .ge 27, 3, 39, [], 0, 0, zM0) ::
  (15, .iload 4, 2, 4, [], 0, 0, zM0) ::
  (17, .ifCond .eq 22, 3, 39, [], 0, 0, zM0) ::
  (20, .iload_n 3, 1, 3, [], 0, 0, zM0) ::
  (21, .iload 4, 2, 4, [], 0, 0, zM0) ::
  (23, .irem, 1, 23, [], 0, 0, zM0) ::
  (24, .istore 6, 2, 6, [], 0, 0, zM0) ::
  (26, .iload 4, 2, 4, [], 0, 0, zM0) ::
  (28, .istore_n 3, 1, 3, [], 0, 0, zM0) ::
  (29, .iload 6, 2, 6, [], 0, 0, zM0) ::
  (31, .istore 4, 2, 4, [], 0, 0, zM0) ::
  (33, .iinc 5 1, 3, 5, [], 1, 0, zM0) ::
  (36, .goto (-28), 3, 8, [], 0, 0, zM0) :: tkX10_partOfLowest_39
def tkX10_partOfLowest_0 : List mE := (0, .iload_n 1, 1, 1, [], 0, 0, zM0) ::
  (1, .istore_n 3, 1, 3, [], 0, 0, zM0) ::
  (2, .iload_n 0, 1, 0, [], 0, 0, zM0) ::
  (3, .istore 4, 2, 4, [], 0, 0, zM0) ::
  (5, .iconst 0, 1, 5, [], 0, 0, zM0) ::
  (6, .istore 5, 2, 5, [], 0, 0, zM0) :: tkX10_partOfLowest_8
def tkX10_partOfLowest : List mE := tkX10_partOfLowest_0
theorem zkX10_partOfLowest : zat 0 tkX10_partOfLowest = tkX10_partOfLowest_0 ∧ zat 8 tkX10_partOfLowest = tkX10_partOfLowest_8 ∧ zat 39 tkX10_partOfLowest = tkX10_partOfLowest_39 ∧ zat 57 tkX10_partOfLowest = tkX10_partOfLowest_57 ∧ zat 61 tkX10_partOfLowest = tkX10_partOfLowest_61 := ⟨rfl, rfl, rfl, rfl, rfl⟩
theorem okX10_partOfLowest : zok kX10_partOfLowest.2.1 kX10_partOfLowest.2.2.1 kX10_partOfLowest.2.2.2.1 tkX10_partOfLowest = true := by decide +kernel
def tkX10_best_105 : List mE := (105, .bipush (-2), 2, 105, [], (-2), 0, zM0) ::
  (107, .ireturn, 1, 107, [], 0, 0, zM0) :: []
def tkX10_best_104 : List mE := (104, .ireturn, 1, 104, [], 0, 0, zM0) :: tkX10_best_105
def tkX10_best_94 : List mE := (94, .aload_n 0, 1, 0, [], 0, 0, zM0) ::
  (95, .iload_n 1, 1, 1, [], 0, 0, zM0) ::
  (96, .aload_n 0, 1, 0, [], 0, 0, zM0) ::
  (97, .iload_n 1, 1, 1, [], 0, 0, zM0) ::
  (98, .invokevirtual 281, 3, 10, [4088, 1, 1], 0, 0, kX10_nearestTo) ::
  (101, .invokevirtual 284, 3, 10, [4092, 2, 1], 0, 0, kX10_agree) :: tkX10_best_104
def tkX10_best_78 : List mE := (78, .aload_n 0, 1, 0, [], 0, 0, zM0) ::
  (79, .aload_n 0, 1, 0, [], 0, 0, zM0) ::
  (80, .iload_n 1, 1, 1, [], 0, 0, zM0) ::
  (81, .invokevirtual 281, 3, 10, [4088, 1, 1], 0, 0, kX10_nearestTo) ::
  (84, .invokevirtual 124, 3, 10, [3103, 1, 1], 0, 0, kX10_henAt) ::
  (87, .ifnonnull 7, 3, 94, [], 0, 0, zM0) ::
  (90, .iconst (-1), 1, 90, [], (-1), 0, zM0) ::
  (91, .goto 13, 3, 104, [], 0, 0, zM0) :: tkX10_best_94
def tkX10_best_72 : List mE := (72, .aload_n 0, 1, 0, [], 0, 0, zM0) ::
  (73, .iload_n 1, 1, 1, [], 0, 0, zM0) ::
  (74, .invokevirtual 281, 3, 10, [4088, 1, 1], 0, 0, kX10_nearestTo) ::
  (77, .ireturn, 1, 77, [], 0, 0, zM0) :: tkX10_best_78
def tkX10_best_50 : List mE := (50, .aload_n 0, 1, 0, [], 0, 0, zM0) ::
  (51, .getfield 21, 3, 10, [1, 2, 3019], 0, 0, zM0) ::
  (54, .aload_n 3, 1, 3, [], 0, 0, zM0) ::
  (55, .aload_n 0, 1, 0, [], 0, 0, zM0) ::
  (56, .aload_n 3, 1, 3, [], 0, 0, zM0) ::
  (57, .invokevirtual 277, 3, 10, [4084, 1, 1], 0, 0, kX10_bestPoint) ::
  (60, .aload_n 0, 1, 0, [], 0, 0, zM0) ::
  (61, .getfield 128, 3, 10, [10, 0, 3028], 0, 0, zM0) ::
  (64, .aload_n 0, 1, 0, [], 0, 0, zM0) ::
  (65, .invokevirtual 157, 3, 10, [3107, 0, 1], 0, 0, kX10_rule) ::
  (68, .invokevirtual 172, 3, 2, [3168, 4, 1], 0, 0, kX2_laidBy) ::
  (71, .ireturn, 1, 71, [], 0, 0, zM0) :: tkX10_best_72
def tkX10_best_44 : List mE := (44, .aload_n 0, 1, 0, [], 0, 0, zM0) ::
  (45, .aload_n 3, 1, 3, [], 0, 0, zM0) ::
  (46, .invokevirtual 277, 3, 10, [4084, 1, 1], 0, 0, kX10_bestPoint) ::
  (49, .ireturn, 1, 49, [], 0, 0, zM0) :: tkX10_best_50
def tkX10_best_13 : List mE := (13, .iload_n 2, 1, 2, [], 0, 0, zM0) ::
  (14, .tableswitch 91 0 3 #[30, 36, 58, 64], 30, 105, [44, 50, 72, 78], 0, 0, zM0) :: tkX10_best_44
def tkX10_best_0 : List mE := (0, .aload_n 0, 1, 0, [], 0, 0, zM0) ::
  (1, .iload_n 1, 1, 1, [], 0, 0, zM0) ::
  (2, .invokevirtual 124, 3, 10, [3103, 1, 1], 0, 0, kX10_henAt) ::
  (5, .astore_n 3, 1, 3, [], 0, 0, zM0) ::
  (6, .aload_n 3, 1, 3, [], 0, 0, zM0) ::
  (7, .ifnonnull 6, 3, 13, [], 0, 0, zM0) ::
  (10, .bipush (-2), 2, 10, [], (-2), 0, zM0) ::
  (12, .ireturn, 1, 12, [], 0, 0, zM0) :: tkX10_best_13
def tkX10_best : List mE := tkX10_best_0
theorem zkX10_best : zat 0 tkX10_best = tkX10_best_0 ∧ zat 13 tkX10_best = tkX10_best_13 ∧ zat 44 tkX10_best = tkX10_best_44 ∧ zat 50 tkX10_best = tkX10_best_50 ∧ zat 72 tkX10_best = tkX10_best_72 ∧ zat 78 tkX10_best = tkX10_best_78 ∧ zat 94 tkX10_best = tkX10_best_94 ∧ zat 104 tkX10_best = tkX10_best_104 ∧ zat 105 tkX10_best = tkX10_best_105 := ⟨rfl, rfl, rfl, rfl, rfl, rfl, rfl, rfl, rfl⟩
theorem okX10_best : zok kX10_best.2.1 kX10_best.2.2.1 kX10_best.2.2.2.1 tkX10_best = true := by decide +kernel
def tkX10_bestPoint_52 : List mE := (52, .iload_n 2, 1, 2, [], 0, 0, zM0) ::
  (53, .ireturn, 1, 53, [], 0, 0, zM0) :: []
def tkX10_bestPoint_46 : List mE := (46, .iinc 4 1, 3, 4, [], 1, 0, zM0) ::
  (49, .goto (-42), 3, 7, [], 0, 0, zM0) :: tkX10_bestPoint_52
def tkX10_bestPoint_7 : List mE := (7, .iload 4, 2, 4, [], 0, 0, zM0) ::
  (9, .bipush 10, 2, 9, [], 10, 0, zM0) ::
  (11, .if_icmp .ge 41, 3, 52, [], 0, 0, zM0) ::
  (14, .aload_n 0, 1, 0, [], 0, 0, zM0) ::
  (15, .getfield 21, 3, 10, [1, 2, 3019], 0, 0, zM0) ::
  (18, .aload_n 1, 1, 1, [], 0, 0, zM0) ::
  (19, .iload 4, 2, 4, [], 0, 0, zM0) ::
  (21, .aload_n 0, 1, 0, [], 0, 0, zM0) ::
  (22, .getfield 128, 3, 10, [10, 0, 3028], 0, 0, zM0) ::
  (25, .aload_n 0, 1, 0, [], 0, 0, zM0) ::
  (26, .invokevirtual 157, 3, 10, [3107, 0, 1], 0, 0, kX10_rule) ::
  (29, .invokevirtual 172, 3, 2, [3168, 4, 1], 0, 0, kX2_laidBy) ::
  (32, .istore 5, 2, 5, [], 0, 0, zM0) ::
  (34, .iload 5, 2, 5, [], 0, 0, zM0) ::
  (36, .iload_n 3, 1, 3, [], 0, 0, zM0) ::
  (37, .if_icmp .le 9, 3, 46, [], 0, 0, zM0) ::
  (40, .iload 5, 2, 5, [], 0, 0, zM0) ::
  (42, .istore_n 3, 1, 3, [], 0, 0, zM0) ::
  (43, .iload 4, 2, 4, [], 0, 0, zM0) ::
  (45, .istore_n 2, 1, 2, [], 0, 0, zM0) :: tkX10_bestPoint_46
def tkX10_bestPoint_0 : List mE := (0, .iconst 0, 1, 0, [], 0, 0, zM0) ::
  (1, .istore_n 2, 1, 2, [], 0, 0, zM0) ::
  (2, .iconst (-1), 1, 2, [], (-1), 0, zM0) ::
  (3, .istore_n 3, 1, 3, [], 0, 0, zM0) ::
  (4, .iconst 0, 1, 4, [], 0, 0, zM0) ::
  (5, .istore 4, 2, 4, [], 0, 0, zM0) :: tkX10_bestPoint_7
def tkX10_bestPoint : List mE := tkX10_bestPoint_0
theorem zkX10_bestPoint : zat 0 tkX10_bestPoint = tkX10_bestPoint_0 ∧ zat 7 tkX10_bestPoint = tkX10_bestPoint_7 ∧ zat 46 tkX10_bestPoint = tkX10_bestPoint_46 ∧ zat 52 tkX10_bestPoint = tkX10_bestPoint_52 := ⟨rfl, rfl, rfl, rfl⟩
theorem okX10_bestPoint : zok kX10_bestPoint.2.1 kX10_bestPoint.2.2.1 kX10_bestPoint.2.2.2.1 tkX10_bestPoint = true := by decide +kernel
def tkX10_nearestTo_53 : List mE := (53, .iload_n 2, 1, 2, [], 0, 0, zM0) ::
  (54, .ireturn, 1, 54, [], 0, 0, zM0) :: []
def tkX10_nearestTo_47 : List mE := (47, .iinc 4 1, 3, 4, [], 1, 0, zM0) ::
  (50, .goto (-43), 3, 7, [], 0, 0, zM0) :: tkX10_nearestTo_53
def tkX10_nearestTo_33 : List mE := (33, .istore 5, 2, 5, [], 0, 0, zM0) ::
  (35, .iload 5, 2, 5, [], 0, 0, zM0) ::
  (37, .iload_n 3, 1, 3, [], 0, 0, zM0) ::
  (38, .if_icmp .le 9, 3, 47, [], 0, 0, zM0) ::
  (41, .iload 5, 2, 5, [], 0, 0, zM0) ::
  (43, .istore_n 3, 1, 3, [], 0, 0, zM0) ::
  (44, .iload 4, 2, 4, [], 0, 0, zM0) ::
  (46, .istore_n 2, 1, 2, [], 0, 0, zM0) :: tkX10_nearestTo_47
def tkX10_nearestTo_26 : List mE := (26, .aload_n 0, 1, 0, [], 0, 0, zM0) ::
  (27, .iload_n 1, 1, 1, [], 0, 0, zM0) ::
  (28, .iload 4, 2, 4, [], 0, 0, zM0) ::
  (30, .invokevirtual 284, 3, 10, [4092, 2, 1], 0, 0, kX10_agree) :: tkX10_nearestTo_33
def tkX10_nearestTo_7 : List mE := (7, .iload 4, 2, 4, [], 0, 0, zM0) ::
  (9, .aload_n 0, 1, 0, [], 0, 0, zM0) ::
  (10, .getfield 144, 3, 10, [11, 0, 3029], 0, 0, zM0) ::
  (13, .if_icmp .ge 40, 3, 53, [], 0, 0, zM0) ::
  (16, .iload 4, 2, 4, [], 0, 0, zM0) ::
  (18, .iload_n 1, 1, 1, [], 0, 0, zM0) ::
  (19, .if_icmp .ne 7, 3, 26, [], 0, 0, zM0) ::
  (22, .iconst (-1), 1, 22, [], (-1), 0, zM0) ::
  (23, .goto 10, 3, 33, [], 0, 0, zM0) :: tkX10_nearestTo_26
def tkX10_nearestTo_0 : List mE := (0, .iconst (-1), 1, 0, [], (-1), 0, zM0) ::
  (1, .istore_n 2, 1, 2, [], 0, 0, zM0) ::
  (2, .iconst (-1), 1, 2, [], (-1), 0, zM0) ::
  (3, .istore_n 3, 1, 3, [], 0, 0, zM0) ::
  (4, .iconst 0, 1, 4, [], 0, 0, zM0) ::
  (5, .istore 4, 2, 4, [], 0, 0, zM0) :: tkX10_nearestTo_7
def tkX10_nearestTo : List mE := tkX10_nearestTo_0
theorem zkX10_nearestTo : zat 0 tkX10_nearestTo = tkX10_nearestTo_0 ∧ zat 7 tkX10_nearestTo = tkX10_nearestTo_7 ∧ zat 26 tkX10_nearestTo = tkX10_nearestTo_26 ∧ zat 33 tkX10_nearestTo = tkX10_nearestTo_33 ∧ zat 47 tkX10_nearestTo = tkX10_nearestTo_47 ∧ zat 53 tkX10_nearestTo = tkX10_nearestTo_53 := ⟨rfl, rfl, rfl, rfl, rfl, rfl⟩
theorem okX10_nearestTo : zok kX10_nearestTo.2.1 kX10_nearestTo.2.2.1 kX10_nearestTo.2.2.2.1 tkX10_nearestTo = true := by decide +kernel
def tkX10_agree_30 : List mE := (30, .bipush 10, 2, 30, [], 10, 0, zM0) ::
  (32, .aload_n 3, 1, 3, [], 0, 0, zM0) ::
  (33, .getfield 135, 3, 0, [2, 0, 1153], 0, 0, zM0) ::
  (36, .aload 4, 2, 4, [], 0, 0, zM0) ::
  (38, .getfield 135, 3, 0, [2, 0, 1153], 0, 0, zM0) ::
  (41, .ixor, 1, 41, [], 0, 0, zM0) ::
  (42, .invokestatic 213, 3, 0, [3212, 1, 1], 0, 0, kJ6_bitCount_0f7a4) ::
  (45, .isub, 1, 45, [], 0, 0, zM0) ::
  (46, .ireturn, 1, 46, [], 0, 0, zM0) :: []
def tkX10_agree_27 : List mE := (27, .bipush (-2), 2, 27, [], (-2), 0, zM0) ::
  (29, .ireturn, 1, 29, [], 0, 0, zM0) :: tkX10_agree_30
def tkX10_agree_0 : List mE := (0, .aload_n 0, 1, 0, [], 0, 0, zM0) ::
  (1, .iload_n 1, 1, 1, [], 0, 0, zM0) ::
  (2, .invokevirtual 124, 3, 10, [3103, 1, 1], 0, 0, kX10_henAt) ::
  (5, .astore_n 3, 1, 3, [], 0, 0, zM0) ::
  (6, .aload_n 0, 1, 0, [], 0, 0, zM0) ::
  (7, .iload_n 2, 1, 2, [], 0, 0, zM0) ::
  (8, .invokevirtual 124, 3, 10, [3103, 1, 1], 0, 0, kX10_henAt) ::
  (11, .astore 4, 2, 4, [], 0, 0, zM0) ::
  (13, .aload_n 3, 1, 3, [], 0, 0, zM0) ::
  (14, .ifnull 13, 3, 27, [], 0, 0, zM0) ::
  (17, .aload 4, 2, 4, [], 0, 0, zM0) ::
  (19, .ifnull 8, 3, 27, [], 0, 0, zM0) ::
  (22, .iload_n 1, 1, 1, [], 0, 0, zM0) ::
  (23, .iload_n 2, 1, 2, [], 0, 0, zM0) ::
  (24, .if_icmp .ne 6, 3, 30, [], 0, 0, zM0) :: tkX10_agree_27
def tkX10_agree : List mE := tkX10_agree_0
theorem zkX10_agree : zat 0 tkX10_agree = tkX10_agree_0 ∧ zat 27 tkX10_agree = tkX10_agree_27 ∧ zat 30 tkX10_agree = tkX10_agree_30 := ⟨rfl, rfl, rfl⟩
theorem okX10_agree : zok kX10_agree.2.1 kX10_agree.2.2.1 kX10_agree.2.2.2.1 tkX10_agree = true := by decide +kernel
def tkX10_three_107 : List mE := (107, .ireturn, 1, 107, [], 0, 0, zM0) :: []
def tkX10_three_98 : List mE := (98, .aload_n 0, 1, 0, [], 0, 0, zM0) ::
  (99, .getfield 62, 3, 10, [7, 2, 3025], 0, 0, zM0) ::
  (102, .iload 5, 2, 5, [], 0, 0, zM0) ::
  (104, .invokevirtual 300, 3, 3, [4122, 1, 1], 0, 0, kX3_laidOn) :: tkX10_three_107
def tkX10_three_72 : List mE := (72, .aload_n 0, 1, 0, [], 0, 0, zM0) ::
  (73, .getfield 62, 3, 10, [7, 2, 3025], 0, 0, zM0) ::
  (76, .iload_n 2, 1, 2, [], 0, 0, zM0) ::
  (77, .invokevirtual 294, 3, 3, [4114, 1, 1], 0, 0, kX3_bestOf) ::
  (80, .istore 5, 2, 5, [], 0, 0, zM0) ::
  (82, .iload_n 3, 1, 3, [], 0, 0, zM0) ::
  (83, .ifCond .ne 15, 3, 98, [], 0, 0, zM0) ::
  (86, .aload_n 0, 1, 0, [], 0, 0, zM0) ::
  (87, .getfield 62, 3, 10, [7, 2, 3025], 0, 0, zM0) ::
  (90, .iload 5, 2, 5, [], 0, 0, zM0) ::
  (92, .invokevirtual 297, 3, 3, [4118, 1, 1], 0, 0, kX3_numberOf) ::
  (95, .goto 12, 3, 107, [], 0, 0, zM0) :: tkX10_three_98
def tkX10_three_43 : List mE := (43, .iload 5, 2, 5, [], 0, 0, zM0) ::
  (45, .iload_n 2, 1, 2, [], 0, 0, zM0) ::
  (46, .if_icmp .gt 26, 3, 72, [], 0, 0, zM0) ::
  (49, .aload_n 0, 1, 0, [], 0, 0, zM0) ::
  (50, .getfield 62, 3, 10, [7, 2, 3025], 0, 0, zM0) ::
  (53, .iload 5, 2, 5, [], 0, 0, zM0) ::
  (55, .aload_n 0, 1, 0, [], 0, 0, zM0) ::
  (56, .getfield 128, 3, 10, [10, 0, 3028], 0, 0, zM0) ::
  (59, .aload_n 0, 1, 0, [], 0, 0, zM0) ::
  (60, .invokevirtual 157, 3, 10, [3107, 0, 1], 0, 0, kX10_rule) ::
  (63, .invokevirtual 290, 3, 3, [4105, 3, 0], 0, 0, kX3_tryAll) ::
  (66, .iinc 5 1, 3, 5, [], 1, 0, zM0) ::
  (69, .goto (-26), 3, 43, [], 0, 0, zM0) :: tkX10_three_72
def tkX10_three_31 : List mE := (31, .aload_n 0, 1, 0, [], 0, 0, zM0) ::
  (32, .getfield 62, 3, 10, [7, 2, 3025], 0, 0, zM0) ::
  (35, .aload 4, 2, 4, [], 0, 0, zM0) ::
  (37, .invokevirtual 287, 3, 3, [4100, 1, 0], 0, 0, kX3_begin) ::
  (40, .iconst 1, 1, 40, [], 1, 0, zM0) ::
  (41, .istore 5, 2, 5, [], 0, 0, zM0) :: tkX10_three_43
def tkX10_three_28 : List mE := (28, .bipush (-2), 2, 28, [], (-2), 0, zM0) ::
  (30, .ireturn, 1, 30, [], 0, 0, zM0) :: tkX10_three_31
def tkX10_three_0 : List mE := (0, .aload_n 0, 1, 0, [], 0, 0, zM0) ::
  (1, .iload_n 1, 1, 1, [], 0, 0, zM0) ::
  (2, .invokevirtual 124, 3, 10, [3103, 1, 1], 0, 0, kX10_henAt) ::
  (5, .astore 4, 2, 4, [], 0, 0, zM0) ::
  (7, .aload 4, 2, 4, [], 0, 0, zM0) ::
  (9, .ifnull 19, 3, 28, [], 0, 0, zM0) ::
  (12, .iload_n 2, 1, 2, [], 0, 0, zM0) ::
  (13, .iconst 3, 1, 13, [], 3, 0, zM0) ::
  (14, .invokestatic 102, 3, 0, [3069, 2, 1], 0, 0, kX10_isFrom0To) ::
  (17, .ifCond .eq 11, 3, 28, [], 0, 0, zM0) ::
  (20, .iload_n 3, 1, 3, [], 0, 0, zM0) ::
  (21, .iconst 1, 1, 21, [], 1, 0, zM0) ::
  (22, .invokestatic 102, 3, 0, [3069, 2, 1], 0, 0, kX10_isFrom0To) ::
  (25, .ifCond .ne 6, 3, 31, [], 0, 0, zM0) :: tkX10_three_28
def tkX10_three : List mE := tkX10_three_0
theorem zkX10_three : zat 0 tkX10_three = tkX10_three_0 ∧ zat 28 tkX10_three = tkX10_three_28 ∧ zat 31 tkX10_three = tkX10_three_31 ∧ zat 43 tkX10_three = tkX10_three_43 ∧ zat 72 tkX10_three = tkX10_three_72 ∧ zat 98 tkX10_three = tkX10_three_98 ∧ zat 107 tkX10_three = tkX10_three_107 := ⟨rfl, rfl, rfl, rfl, rfl, rfl, rfl⟩
theorem okX10_three : zok kX10_three.2.1 kX10_three.2.2.1 kX10_three.2.2.2.1 tkX10_three = true := by decide +kernel
def tkX10_whom_100 : List mE := (100, .ireturn, 1, 100, [], 0, 0, zM0) :: []
def tkX10_whom_98 : List mE := (98, .iload 4, 2, 4, [], 0, 0, zM0) :: tkX10_whom_100
def tkX10_whom_90 : List mE := (90, .iload_n 2, 1, 2, [], 0, 0, zM0) ::
  (91, .ifCond .ne 7, 3, 98, [], 0, 0, zM0) ::
  (94, .iload_n 3, 1, 3, [], 0, 0, zM0) ::
  (95, .goto 5, 3, 100, [], 0, 0, zM0) :: tkX10_whom_98
def tkX10_whom_84 : List mE := (84, .iinc 5 1, 3, 5, [], 1, 0, zM0) ::
  (87, .goto (-61), 3, 26, [], 0, 0, zM0) :: tkX10_whom_90
def tkX10_whom_26 : List mE := (26, .iload 5, 2, 5, [], 0, 0, zM0) ::
  (28, .aload_n 0, 1, 0, [], 0, 0, zM0) ::
  (29, .getfield 144, 3, 10, [11, 0, 3029], 0, 0, zM0) ::
  (32, .if_icmp .ge 58, 3, 90, [], 0, 0, zM0) ::
  (35, .iload 5, 2, 5, [], 0, 0, zM0) ::
  (37, .aload_n 0, 1, 0, [], 0, 0, zM0) ::
  (38, .getfield 27, 3, 10, [2, 2, 3020], 0, 0, zM0) ::
  (41, .arraylength, 1, 2, [], 0, 0, zM0) ::
  (42, .if_icmp .ge 48, 3, 90, [], 0, 0, zM0) ::
  (45, .aload_n 0, 1, 0, [], 0, 0, zM0) ::
  (46, .getfield 21, 3, 10, [1, 2, 3019], 0, 0, zM0) ::
  (49, .aload_n 0, 1, 0, [], 0, 0, zM0) ::
  (50, .getfield 27, 3, 10, [2, 2, 3020], 0, 0, zM0) ::
  (53, .iload 5, 2, 5, [], 0, 0, zM0) ::
  (55, .aaload, 1, 2, [], 0, 0, zM0) ::
  (56, .iload_n 1, 1, 1, [], 0, 0, zM0) ::
  (57, .aload_n 0, 1, 0, [], 0, 0, zM0) ::
  (58, .getfield 128, 3, 10, [10, 0, 3028], 0, 0, zM0) ::
  (61, .aload_n 0, 1, 0, [], 0, 0, zM0) ::
  (62, .invokevirtual 157, 3, 10, [3107, 0, 1], 0, 0, kX10_rule) ::
  (65, .invokevirtual 172, 3, 2, [3168, 4, 1], 0, 0, kX2_laidBy) ::
  (68, .istore 6, 2, 6, [], 0, 0, zM0) ::
  (70, .iload 6, 2, 6, [], 0, 0, zM0) ::
  (72, .iload 4, 2, 4, [], 0, 0, zM0) ::
  (74, .if_icmp .le 10, 3, 84, [], 0, 0, zM0) ::
  (77, .iload 6, 2, 6, [], 0, 0, zM0) ::
  (79, .istore 4, 2, 4, [], 0, 0, zM0) ::
  (81, .iload 5, 2, 5, [], 0, 0, zM0) ::
  (83, .istore_n 3, 1, 3, [], 0, 0, zM0) :: tkX10_whom_84
def tkX10_whom_18 : List mE := (18, .iconst (-1), 1, 18, [], (-1), 0, zM0) ::
  (19, .istore_n 3, 1, 3, [], 0, 0, zM0) ::
  (20, .iconst (-1), 1, 20, [], (-1), 0, zM0) ::
  (21, .istore 4, 2, 4, [], 0, 0, zM0) ::
  (23, .iconst 0, 1, 23, [], 0, 0, zM0) ::
  (24, .istore 5, 2, 5, [], 0, 0, zM0) :: tkX10_whom_26
def tkX10_whom_15 : List mE := (15, .bipush (-2), 2, 15, [], (-2), 0, zM0) ::
  (17, .ireturn, 1, 17, [], 0, 0, zM0) :: tkX10_whom_18
def tkX10_whom_0 : List mE := (0, .iload_n 1, 1, 1, [], 0, 0, zM0) ::
  (1, .invokestatic 99, 3, 0, [3066, 1, 1], 0, 0, kX10_isArgument) ::
  (4, .ifCond .eq 11, 3, 15, [], 0, 0, zM0) ::
  (7, .iload_n 2, 1, 2, [], 0, 0, zM0) ::
  (8, .iconst 1, 1, 8, [], 1, 0, zM0) ::
  (9, .invokestatic 102, 3, 0, [3069, 2, 1], 0, 0, kX10_isFrom0To) ::
  (12, .ifCond .ne 6, 3, 18, [], 0, 0, zM0) :: tkX10_whom_15
def tkX10_whom : List mE := tkX10_whom_0
theorem zkX10_whom : zat 0 tkX10_whom = tkX10_whom_0 ∧ zat 15 tkX10_whom = tkX10_whom_15 ∧ zat 18 tkX10_whom = tkX10_whom_18 ∧ zat 26 tkX10_whom = tkX10_whom_26 ∧ zat 84 tkX10_whom = tkX10_whom_84 ∧ zat 90 tkX10_whom = tkX10_whom_90 ∧ zat 98 tkX10_whom = tkX10_whom_98 ∧ zat 100 tkX10_whom = tkX10_whom_100 := ⟨rfl, rfl, rfl, rfl, rfl, rfl, rfl, rfl⟩
theorem okX10_whom : zok kX10_whom.2.1 kX10_whom.2.2.1 kX10_whom.2.2.2.1 tkX10_whom = true := by decide +kernel
def tkX10_win_76 : List mE := (76, .iconst (-1), 1, 76, [], (-1), 0, zM0) ::
  (77, .ireturn, 1, 77, [], 0, 0, zM0) :: []
def tkX10_win_70 : List mE := (70, .iinc 4 1, 3, 4, [], 1, 0, zM0) ::
  (73, .goto (-42), 3, 31, [], 0, 0, zM0) :: tkX10_win_76
def tkX10_win_31 : List mE := (31, .iload 4, 2, 4, [], 0, 0, zM0) ::
  (33, .iconst 3, 1, 33, [], 3, 0, zM0) ::
  (34, .if_icmp .gt 42, 3, 76, [], 0, 0, zM0) ::
  (37, .aload_n 0, 1, 0, [], 0, 0, zM0) ::
  (38, .getfield 62, 3, 10, [7, 2, 3025], 0, 0, zM0) ::
  (41, .iload 4, 2, 4, [], 0, 0, zM0) ::
  (43, .aload_n 0, 1, 0, [], 0, 0, zM0) ::
  (44, .getfield 128, 3, 10, [10, 0, 3028], 0, 0, zM0) ::
  (47, .aload_n 0, 1, 0, [], 0, 0, zM0) ::
  (48, .invokevirtual 157, 3, 10, [3107, 0, 1], 0, 0, kX10_rule) ::
  (51, .invokevirtual 290, 3, 3, [4105, 3, 0], 0, 0, kX3_tryAll) ::
  (54, .aload_n 0, 1, 0, [], 0, 0, zM0) ::
  (55, .getfield 62, 3, 10, [7, 2, 3025], 0, 0, zM0) ::
  (58, .iload 4, 2, 4, [], 0, 0, zM0) ::
  (60, .iload_n 2, 1, 2, [], 0, 0, zM0) ::
  (61, .invokevirtual 303, 3, 3, [4134, 2, 1], 0, 0, kX3_isHeldBehind) ::
  (64, .ifCond .eq 6, 3, 70, [], 0, 0, zM0) ::
  (67, .iload 4, 2, 4, [], 0, 0, zM0) ::
  (69, .ireturn, 1, 69, [], 0, 0, zM0) :: tkX10_win_70
def tkX10_win_20 : List mE := (20, .aload_n 0, 1, 0, [], 0, 0, zM0) ::
  (21, .getfield 62, 3, 10, [7, 2, 3025], 0, 0, zM0) ::
  (24, .aload_n 3, 1, 3, [], 0, 0, zM0) ::
  (25, .invokevirtual 287, 3, 3, [4100, 1, 0], 0, 0, kX3_begin) ::
  (28, .iconst 0, 1, 28, [], 0, 0, zM0) ::
  (29, .istore 4, 2, 4, [], 0, 0, zM0) :: tkX10_win_31
def tkX10_win_17 : List mE := (17, .bipush (-2), 2, 17, [], (-2), 0, zM0) ::
  (19, .ireturn, 1, 19, [], 0, 0, zM0) :: tkX10_win_20
def tkX10_win_0 : List mE := (0, .aload_n 0, 1, 0, [], 0, 0, zM0) ::
  (1, .iload_n 1, 1, 1, [], 0, 0, zM0) ::
  (2, .invokevirtual 124, 3, 10, [3103, 1, 1], 0, 0, kX10_henAt) ::
  (5, .astore_n 3, 1, 3, [], 0, 0, zM0) ::
  (6, .aload_n 3, 1, 3, [], 0, 0, zM0) ::
  (7, .ifnull 10, 3, 17, [], 0, 0, zM0) ::
  (10, .iload_n 2, 1, 2, [], 0, 0, zM0) ::
  (11, .invokestatic 99, 3, 0, [3066, 1, 1], 0, 0, kX10_isArgument) ::
  (14, .ifCond .ne 6, 3, 20, [], 0, 0, zM0) :: tkX10_win_17
def tkX10_win : List mE := tkX10_win_0
theorem zkX10_win : zat 0 tkX10_win = tkX10_win_0 ∧ zat 17 tkX10_win = tkX10_win_17 ∧ zat 20 tkX10_win = tkX10_win_20 ∧ zat 31 tkX10_win = tkX10_win_31 ∧ zat 70 tkX10_win = tkX10_win_70 ∧ zat 76 tkX10_win = tkX10_win_76 := ⟨rfl, rfl, rfl, rfl, rfl, rfl⟩
theorem okX10_win : zok kX10_win.2.1 kX10_win.2.2.1 kX10_win.2.2.2.1 tkX10_win = true := by decide +kernel
def tkX10_tells_175 : List mE := (175, .aload_n 0, 1, 0, [], 0, 0, zM0) ::
  (176, .aload 4, 2, 4, [], 0, 0, zM0) ::
  (178, .invokevirtual 329, 3, 10, [4172, 1, 1], 0, 0, kX10_hensTold) ::
  (181, .ireturn, 1, 181, [], 0, 0, zM0) :: []
def tkX10_tells_166 : List mE := (166, .aload_n 0, 1, 0, [], 0, 0, zM0) ::
  (167, .aload 4, 2, 4, [], 0, 0, zM0) ::
  (169, .aload 5, 2, 5, [], 0, 0, zM0) ::
  (171, .invokevirtual 326, 3, 10, [4168, 2, 1], 0, 0, kX10_textsTold) ::
  (174, .ireturn, 1, 174, [], 0, 0, zM0) :: tkX10_tells_175
def tkX10_tells_157 : List mE := (157, .aload_n 0, 1, 0, [], 0, 0, zM0) ::
  (158, .aload 4, 2, 4, [], 0, 0, zM0) ::
  (160, .aload 5, 2, 5, [], 0, 0, zM0) ::
  (162, .invokevirtual 323, 3, 10, [4164, 2, 1], 0, 0, kX10_argumentsTold) ::
  (165, .ireturn, 1, 165, [], 0, 0, zM0) :: tkX10_tells_166
def tkX10_tells_148 : List mE := (148, .aload_n 0, 1, 0, [], 0, 0, zM0) ::
  (149, .aload 4, 2, 4, [], 0, 0, zM0) ::
  (151, .aload 5, 2, 5, [], 0, 0, zM0) ::
  (153, .invokevirtual 320, 3, 10, [4160, 2, 1], 0, 0, kX10_firstDayTold) ::
  (156, .ireturn, 1, 156, [], 0, 0, zM0) :: tkX10_tells_157
def tkX10_tells_139 : List mE := (139, .aload_n 0, 1, 0, [], 0, 0, zM0) ::
  (140, .aload 4, 2, 4, [], 0, 0, zM0) ::
  (142, .aload 5, 2, 5, [], 0, 0, zM0) ::
  (144, .invokevirtual 317, 3, 10, [4156, 2, 1], 0, 0, kX10_daysTold) ::
  (147, .ireturn, 1, 147, [], 0, 0, zM0) :: tkX10_tells_148
def tkX10_tells_130 : List mE := (130, .aload_n 0, 1, 0, [], 0, 0, zM0) ::
  (131, .aload 4, 2, 4, [], 0, 0, zM0) ::
  (133, .aload 5, 2, 5, [], 0, 0, zM0) ::
  (135, .invokevirtual 314, 3, 10, [4152, 2, 1], 0, 0, kX10_numbersTold) ::
  (138, .ireturn, 1, 138, [], 0, 0, zM0) :: tkX10_tells_139
def tkX10_tells_121 : List mE := (121, .aload_n 0, 1, 0, [], 0, 0, zM0) ::
  (122, .aload 4, 2, 4, [], 0, 0, zM0) ::
  (124, .aload 5, 2, 5, [], 0, 0, zM0) ::
  (126, .invokevirtual 310, 3, 10, [4148, 2, 1], 0, 0, kX10_kindsTold) ::
  (129, .ireturn, 1, 129, [], 0, 0, zM0) :: tkX10_tells_130
def tkX10_tells_104 : List mE := (104, .aload_n 0, 1, 0, [], 0, 0, zM0) ::
  (105, .aload 4, 2, 4, [], 0, 0, zM0) ::
  (107, .aload 5, 2, 5, [], 0, 0, zM0) ::
  (109, .aload_n 0, 1, 0, [], 0, 0, zM0) ::
  (110, .getfield 128, 3, 10, [10, 0, 3028], 0, 0, zM0) ::
  (113, .aload_n 0, 1, 0, [], 0, 0, zM0) ::
  (114, .invokevirtual 157, 3, 10, [3107, 0, 1], 0, 0, kX10_rule) ::
  (117, .invokevirtual 306, 3, 10, [4144, 4, 1], 0, 0, kX10_firstOtherwise) ::
  (120, .ireturn, 1, 120, [], 0, 0, zM0) :: tkX10_tells_121
def tkX10_tells_60 : List mE := (60, .iload_n 3, 1, 3, [], 0, 0, zM0) ::
  (61, .tableswitch 114 0 6 #[43, 60, 69, 78, 87, 96, 105], 43, 175, [104, 121, 130, 139, 148, 157, 166], 0, 0, zM0) :: tkX10_tells_104
def tkX10_tells_47 : List mE := (47, .aload 4, 2, 4, [], 0, 0, zM0) ::
  (49, .invokevirtual 236, 3, 5, [3228, 0, 1], 0, 0, kX5_size) ::
  (52, .bipush 10, 2, 52, [], 10, 0, zM0) ::
  (54, .if_icmp .le 6, 3, 60, [], 0, 0, zM0) ::
  (57, .bipush (-2), 2, 57, [], (-2), 0, zM0) ::
  (59, .ireturn, 1, 59, [], 0, 0, zM0) :: tkX10_tells_60
def tkX10_tells_36 : List mE := (36, .aload 4, 2, 4, [], 0, 0, zM0) ::
  (38, .invokevirtual 240, 3, 5, [3224, 0, 1], 0, 0, kX5_isMissing) ::
  (41, .ifCond .eq 6, 3, 47, [], 0, 0, zM0) ::
  (44, .bipush (-11), 2, 44, [], (-11), 0, zM0) ::
  (46, .ireturn, 1, 46, [], 0, 0, zM0) :: tkX10_tells_47
def tkX10_tells_33 : List mE := (33, .bipush (-2), 2, 33, [], (-2), 0, zM0) ::
  (35, .ireturn, 1, 35, [], 0, 0, zM0) :: tkX10_tells_36
def tkX10_tells_0 : List mE := (0, .aload_n 0, 1, 0, [], 0, 0, zM0) ::
  (1, .iload_n 1, 1, 1, [], 0, 0, zM0) ::
  (2, .invokevirtual 218, 3, 10, [3217, 1, 1], 0, 0, kX10_sheetAt) ::
  (5, .astore 4, 2, 4, [], 0, 0, zM0) ::
  (7, .aload_n 0, 1, 0, [], 0, 0, zM0) ::
  (8, .iload_n 2, 1, 2, [], 0, 0, zM0) ::
  (9, .invokevirtual 124, 3, 10, [3103, 1, 1], 0, 0, kX10_henAt) ::
  (12, .astore 5, 2, 5, [], 0, 0, zM0) ::
  (14, .aload 4, 2, 4, [], 0, 0, zM0) ::
  (16, .ifnull 17, 3, 33, [], 0, 0, zM0) ::
  (19, .aload 5, 2, 5, [], 0, 0, zM0) ::
  (21, .ifnull 12, 3, 33, [], 0, 0, zM0) ::
  (24, .iload_n 3, 1, 3, [], 0, 0, zM0) ::
  (25, .bipush 7, 2, 25, [], 7, 0, zM0) ::
  (27, .invokestatic 102, 3, 0, [3069, 2, 1], 0, 0, kX10_isFrom0To) ::
  (30, .ifCond .ne 6, 3, 36, [], 0, 0, zM0) :: tkX10_tells_33
def tkX10_tells : List mE := tkX10_tells_0
set_option maxRecDepth 100000 in
theorem zkX10_tells : zat 0 tkX10_tells = tkX10_tells_0 ∧ zat 33 tkX10_tells = tkX10_tells_33 ∧ zat 36 tkX10_tells = tkX10_tells_36 ∧ zat 47 tkX10_tells = tkX10_tells_47 ∧ zat 60 tkX10_tells = tkX10_tells_60 ∧ zat 104 tkX10_tells = tkX10_tells_104 ∧ zat 121 tkX10_tells = tkX10_tells_121 ∧ zat 130 tkX10_tells = tkX10_tells_130 ∧ zat 139 tkX10_tells = tkX10_tells_139 ∧ zat 148 tkX10_tells = tkX10_tells_148 ∧ zat 157 tkX10_tells = tkX10_tells_157 ∧ zat 166 tkX10_tells = tkX10_tells_166 ∧ zat 175 tkX10_tells = tkX10_tells_175 := ⟨rfl, rfl, rfl, rfl, rfl, rfl, rfl, rfl, rfl, rfl, rfl, rfl, rfl⟩
theorem okX10_tells : zok kX10_tells.2.1 kX10_tells.2.2.1 kX10_tells.2.2.2.1 tkX10_tells = true := by decide +kernel
def tkX10_firstOtherwise_43 : List mE := (43, .iconst (-1), 1, 43, [], (-1), 0, zM0) ::
  (44, .ireturn, 1, 44, [], 0, 0, zM0) :: []
def tkX10_firstOtherwise_37 : List mE := (37, .iinc 5 1, 3, 5, [], 1, 0, zM0) ::
  (40, .goto (-37), 3, 3, [], 0, 0, zM0) :: tkX10_firstOtherwise_43
def tkX10_firstOtherwise_3 : List mE := (3, .iload 5, 2, 5, [], 0, 0, zM0) ::
  (5, .aload_n 1, 1, 1, [], 0, 0, zM0) ::
  (6, .invokevirtual 236, 3, 5, [3228, 0, 1], 0, 0, kX5_size) ::
  (9, .if_icmp .ge 34, 3, 43, [], 0, 0, zM0) ::
  (12, .aload_n 1, 1, 1, [], 0, 0, zM0) ::
  (13, .iload 5, 2, 5, [], 0, 0, zM0) ::
  (15, .invokevirtual 237, 3, 5, [3232, 1, 1], 0, 0, kX5_item) ::
  (18, .aload_n 0, 1, 0, [], 0, 0, zM0) ::
  (19, .getfield 21, 3, 10, [1, 2, 3019], 0, 0, zM0) ::
  (22, .aload_n 2, 1, 2, [], 0, 0, zM0) ::
  (23, .iload 5, 2, 5, [], 0, 0, zM0) ::
  (25, .iload_n 3, 1, 3, [], 0, 0, zM0) ::
  (26, .aload 4, 2, 4, [], 0, 0, zM0) ::
  (28, .invokevirtual 172, 3, 2, [3168, 4, 1], 0, 0, kX2_laidBy) ::
  (31, .if_icmp .eq 6, 3, 37, [], 0, 0, zM0) ::
  (34, .iload 5, 2, 5, [], 0, 0, zM0) ::
  (36, .ireturn, 1, 36, [], 0, 0, zM0) :: tkX10_firstOtherwise_37
def tkX10_firstOtherwise_0 : List mE := (0, .iconst 0, 1, 0, [], 0, 0, zM0) ::
  (1, .istore 5, 2, 5, [], 0, 0, zM0) :: tkX10_firstOtherwise_3
def tkX10_firstOtherwise : List mE := tkX10_firstOtherwise_0
theorem zkX10_firstOtherwise : zat 0 tkX10_firstOtherwise = tkX10_firstOtherwise_0 ∧ zat 3 tkX10_firstOtherwise = tkX10_firstOtherwise_3 ∧ zat 37 tkX10_firstOtherwise = tkX10_firstOtherwise_37 ∧ zat 43 tkX10_firstOtherwise = tkX10_firstOtherwise_43 := ⟨rfl, rfl, rfl, rfl⟩
theorem okX10_firstOtherwise : zok kX10_firstOtherwise.2.1 kX10_firstOtherwise.2.2.1 kX10_firstOtherwise.2.2.2.1 tkX10_firstOtherwise = true := by decide +kernel
def tkX10_kindsTold_63 : List mE := (63, .iload_n 3, 1, 3, [], 0, 0, zM0) ::
  (64, .ireturn, 1, 64, [], 0, 0, zM0) :: []
def tkX10_kindsTold_57 : List mE := (57, .iinc 4 1, 3, 4, [], 1, 0, zM0) ::
  (60, .goto (-47), 3, 13, [], 0, 0, zM0) :: tkX10_kindsTold_63
def tkX10_kindsTold_13 : List mE := (13, .iload 4, 2, 4, [], 0, 0, zM0) ::
  (15, .bipush 6, 2, 15, [], 6, 0, zM0) ::
  (17, .if_icmp .ge 46, 3, 63, [], 0, 0, zM0) ::
  (20, .aload_n 0, 1, 0, [], 0, 0, zM0) ::
  (21, .getfield 74, 3, 10, [9, 2, 3027], 0, 0, zM0) ::
  (24, .iload 4, 2, 4, [], 0, 0, zM0) ::
  (26, .putfield 154, 3, 0, [0, 0, 1146], 0, 0, zM0) ::
  (29, .aload_n 0, 1, 0, [], 0, 0, zM0) ::
  (30, .aload_n 1, 1, 1, [], 0, 0, zM0) ::
  (31, .aload_n 0, 1, 0, [], 0, 0, zM0) ::
  (32, .getfield 74, 3, 10, [9, 2, 3027], 0, 0, zM0) ::
  (35, .aload_n 0, 1, 0, [], 0, 0, zM0) ::
  (36, .getfield 128, 3, 10, [10, 0, 3028], 0, 0, zM0) ::
  (39, .aload_n 0, 1, 0, [], 0, 0, zM0) ::
  (40, .invokevirtual 157, 3, 10, [3107, 0, 1], 0, 0, kX10_rule) ::
  (43, .invokevirtual 306, 3, 10, [4144, 4, 1], 0, 0, kX10_firstOtherwise) ::
  (46, .iconst (-1), 1, 46, [], (-1), 0, zM0) ::
  (47, .if_icmp .ne 10, 3, 57, [], 0, 0, zM0) ::
  (50, .iload_n 3, 1, 3, [], 0, 0, zM0) ::
  (51, .iconst 1, 1, 51, [], 1, 0, zM0) ::
  (52, .iload 4, 2, 4, [], 0, 0, zM0) ::
  (54, .ishl, 1, 54, [], 0, 0, zM0) ::
  (55, .ior, 1, 55, [], 0, 0, zM0) ::
  (56, .istore_n 3, 1, 3, [], 0, 0, zM0) :: tkX10_kindsTold_57
def tkX10_kindsTold_0 : List mE := (0, .iconst 0, 1, 0, [], 0, 0, zM0) ::
  (1, .istore_n 3, 1, 3, [], 0, 0, zM0) ::
  (2, .aload_n 0, 1, 0, [], 0, 0, zM0) ::
  (3, .getfield 74, 3, 10, [9, 2, 3027], 0, 0, zM0) ::
  (6, .aload_n 2, 1, 2, [], 0, 0, zM0) ::
  (7, .invokevirtual 226, 3, 0, [4000, 1, 0], 0, 0, kX0_become) ::
  (10, .iconst 0, 1, 10, [], 0, 0, zM0) ::
  (11, .istore 4, 2, 4, [], 0, 0, zM0) :: tkX10_kindsTold_13
def tkX10_kindsTold : List mE := tkX10_kindsTold_0
theorem zkX10_kindsTold : zat 0 tkX10_kindsTold = tkX10_kindsTold_0 ∧ zat 13 tkX10_kindsTold = tkX10_kindsTold_13 ∧ zat 57 tkX10_kindsTold = tkX10_kindsTold_57 ∧ zat 63 tkX10_kindsTold = tkX10_kindsTold_63 := ⟨rfl, rfl, rfl, rfl⟩
theorem okX10_kindsTold : zok kX10_kindsTold.2.1 kX10_kindsTold.2.2.1 kX10_kindsTold.2.2.2.1 tkX10_kindsTold = true := by decide +kernel
def tkX10_numbersTold_63 : List mE := (63, .iload_n 3, 1, 3, [], 0, 0, zM0) ::
  (64, .ireturn, 1, 64, [], 0, 0, zM0) :: []
def tkX10_numbersTold_57 : List mE := (57, .iinc 4 1, 3, 4, [], 1, 0, zM0) ::
  (60, .goto (-47), 3, 13, [], 0, 0, zM0) :: tkX10_numbersTold_63
def tkX10_numbersTold_13 : List mE := (13, .iload 4, 2, 4, [], 0, 0, zM0) ::
  (15, .bipush 9, 2, 15, [], 9, 0, zM0) ::
  (17, .if_icmp .gt 46, 3, 63, [], 0, 0, zM0) ::
  (20, .aload_n 0, 1, 0, [], 0, 0, zM0) ::
  (21, .getfield 74, 3, 10, [9, 2, 3027], 0, 0, zM0) ::
  (24, .iload 4, 2, 4, [], 0, 0, zM0) ::
  (26, .putfield 132, 3, 0, [1, 0, 1148], 0, 0, zM0) ::
  (29, .aload_n 0, 1, 0, [], 0, 0, zM0) ::
  (30, .aload_n 1, 1, 1, [], 0, 0, zM0) ::
  (31, .aload_n 0, 1, 0, [], 0, 0, zM0) ::
  (32, .getfield 74, 3, 10, [9, 2, 3027], 0, 0, zM0) ::
  (35, .aload_n 0, 1, 0, [], 0, 0, zM0) ::
  (36, .getfield 128, 3, 10, [10, 0, 3028], 0, 0, zM0) ::
  (39, .aload_n 0, 1, 0, [], 0, 0, zM0) ::
  (40, .invokevirtual 157, 3, 10, [3107, 0, 1], 0, 0, kX10_rule) ::
  (43, .invokevirtual 306, 3, 10, [4144, 4, 1], 0, 0, kX10_firstOtherwise) ::
  (46, .iconst (-1), 1, 46, [], (-1), 0, zM0) ::
  (47, .if_icmp .ne 10, 3, 57, [], 0, 0, zM0) ::
  (50, .iload_n 3, 1, 3, [], 0, 0, zM0) ::
  (51, .iconst 1, 1, 51, [], 1, 0, zM0) ::
  (52, .iload 4, 2, 4, [], 0, 0, zM0) ::
  (54, .ishl, 1, 54, [], 0, 0, zM0) ::
  (55, .ior, 1, 55, [], 0, 0, zM0) ::
  (56, .istore_n 3, 1, 3, [], 0, 0, zM0) :: tkX10_numbersTold_57
def tkX10_numbersTold_0 : List mE := (0, .iconst 0, 1, 0, [], 0, 0, zM0) ::
  (1, .istore_n 3, 1, 3, [], 0, 0, zM0) ::
  (2, .aload_n 0, 1, 0, [], 0, 0, zM0) ::
  (3, .getfield 74, 3, 10, [9, 2, 3027], 0, 0, zM0) ::
  (6, .aload_n 2, 1, 2, [], 0, 0, zM0) ::
  (7, .invokevirtual 226, 3, 0, [4000, 1, 0], 0, 0, kX0_become) ::
  (10, .iconst 0, 1, 10, [], 0, 0, zM0) ::
  (11, .istore 4, 2, 4, [], 0, 0, zM0) :: tkX10_numbersTold_13
def tkX10_numbersTold : List mE := tkX10_numbersTold_0
theorem zkX10_numbersTold : zat 0 tkX10_numbersTold = tkX10_numbersTold_0 ∧ zat 13 tkX10_numbersTold = tkX10_numbersTold_13 ∧ zat 57 tkX10_numbersTold = tkX10_numbersTold_57 ∧ zat 63 tkX10_numbersTold = tkX10_numbersTold_63 := ⟨rfl, rfl, rfl, rfl⟩
theorem okX10_numbersTold : zok kX10_numbersTold.2.1 kX10_numbersTold.2.2.1 kX10_numbersTold.2.2.2.1 tkX10_numbersTold = true := by decide +kernel
def tkX10_daysTold_37 : List mE := (37, .iload_n 3, 1, 3, [], 0, 0, zM0) ::
  (38, .ireturn, 1, 38, [], 0, 0, zM0) :: []
def tkX10_daysTold_31 : List mE := (31, .iinc 4 1, 3, 4, [], 1, 0, zM0) ::
  (34, .goto (-29), 3, 5, [], 0, 0, zM0) :: tkX10_daysTold_37
def tkX10_daysTold_5 : List mE := (5, .iload 4, 2, 4, [], 0, 0, zM0) ::
  (7, .bipush 100, 2, 7, [], 100, 0, zM0) ::
  (9, .if_icmp .ge 28, 3, 37, [], 0, 0, zM0) ::
  (12, .aload_n 0, 1, 0, [], 0, 0, zM0) ::
  (13, .aload_n 1, 1, 1, [], 0, 0, zM0) ::
  (14, .aload_n 2, 1, 2, [], 0, 0, zM0) ::
  (15, .iload 4, 2, 4, [], 0, 0, zM0) ::
  (17, .aload_n 0, 1, 0, [], 0, 0, zM0) ::
  (18, .invokevirtual 157, 3, 10, [3107, 0, 1], 0, 0, kX10_rule) ::
  (21, .invokevirtual 306, 3, 10, [4144, 4, 1], 0, 0, kX10_firstOtherwise) ::
  (24, .iconst (-1), 1, 24, [], (-1), 0, zM0) ::
  (25, .if_icmp .ne 6, 3, 31, [], 0, 0, zM0) ::
  (28, .iinc 3 1, 3, 3, [], 1, 0, zM0) :: tkX10_daysTold_31
def tkX10_daysTold_0 : List mE := (0, .iconst 0, 1, 0, [], 0, 0, zM0) ::
  (1, .istore_n 3, 1, 3, [], 0, 0, zM0) ::
  (2, .iconst 0, 1, 2, [], 0, 0, zM0) ::
  (3, .istore 4, 2, 4, [], 0, 0, zM0) :: tkX10_daysTold_5
def tkX10_daysTold : List mE := tkX10_daysTold_0
theorem zkX10_daysTold : zat 0 tkX10_daysTold = tkX10_daysTold_0 ∧ zat 5 tkX10_daysTold = tkX10_daysTold_5 ∧ zat 31 tkX10_daysTold = tkX10_daysTold_31 ∧ zat 37 tkX10_daysTold = tkX10_daysTold_37 := ⟨rfl, rfl, rfl, rfl⟩
theorem okX10_daysTold : zok kX10_daysTold.2.1 kX10_daysTold.2.2.1 kX10_daysTold.2.2.2.1 tkX10_daysTold = true := by decide +kernel
def tkX10_firstDayTold_31 : List mE := (31, .iconst (-1), 1, 31, [], (-1), 0, zM0) ::
  (32, .ireturn, 1, 32, [], 0, 0, zM0) :: []
def tkX10_firstDayTold_25 : List mE := (25, .iinc 3 1, 3, 3, [], 1, 0, zM0) ::
  (28, .goto (-26), 3, 2, [], 0, 0, zM0) :: tkX10_firstDayTold_31
def tkX10_firstDayTold_2 : List mE := (2, .iload_n 3, 1, 3, [], 0, 0, zM0) ::
  (3, .bipush 100, 2, 3, [], 100, 0, zM0) ::
  (5, .if_icmp .ge 26, 3, 31, [], 0, 0, zM0) ::
  (8, .aload_n 0, 1, 0, [], 0, 0, zM0) ::
  (9, .aload_n 1, 1, 1, [], 0, 0, zM0) ::
  (10, .aload_n 2, 1, 2, [], 0, 0, zM0) ::
  (11, .iload_n 3, 1, 3, [], 0, 0, zM0) ::
  (12, .aload_n 0, 1, 0, [], 0, 0, zM0) ::
  (13, .invokevirtual 157, 3, 10, [3107, 0, 1], 0, 0, kX10_rule) ::
  (16, .invokevirtual 306, 3, 10, [4144, 4, 1], 0, 0, kX10_firstOtherwise) ::
  (19, .iconst (-1), 1, 19, [], (-1), 0, zM0) ::
  (20, .if_icmp .ne 5, 3, 25, [], 0, 0, zM0) ::
  (23, .iload_n 3, 1, 3, [], 0, 0, zM0) ::
  (24, .ireturn, 1, 24, [], 0, 0, zM0) :: tkX10_firstDayTold_25
def tkX10_firstDayTold_0 : List mE := (0, .iconst 0, 1, 0, [], 0, 0, zM0) ::
  (1, .istore_n 3, 1, 3, [], 0, 0, zM0) :: tkX10_firstDayTold_2
def tkX10_firstDayTold : List mE := tkX10_firstDayTold_0
theorem zkX10_firstDayTold : zat 0 tkX10_firstDayTold = tkX10_firstDayTold_0 ∧ zat 2 tkX10_firstDayTold = tkX10_firstDayTold_2 ∧ zat 25 tkX10_firstDayTold = tkX10_firstDayTold_25 ∧ zat 31 tkX10_firstDayTold = tkX10_firstDayTold_31 := ⟨rfl, rfl, rfl, rfl⟩
theorem okX10_firstDayTold : zok kX10_firstDayTold.2.1 kX10_firstDayTold.2.2.1 kX10_firstDayTold.2.2.2.1 tkX10_firstDayTold = true := by decide +kernel
def tkX10_argumentsTold_70 : List mE := (70, .iload_n 3, 1, 3, [], 0, 0, zM0) ::
  (71, .ireturn, 1, 71, [], 0, 0, zM0) :: []
def tkX10_argumentsTold_64 : List mE := (64, .iinc 4 1, 3, 4, [], 1, 0, zM0) ::
  (67, .goto (-54), 3, 13, [], 0, 0, zM0) :: tkX10_argumentsTold_70
def tkX10_argumentsTold_13 : List mE := (13, .iload 4, 2, 4, [], 0, 0, zM0) ::
  (15, .bipush 10, 2, 15, [], 10, 0, zM0) ::
  (17, .if_icmp .ge 53, 3, 70, [], 0, 0, zM0) ::
  (20, .aload_n 0, 1, 0, [], 0, 0, zM0) ::
  (21, .getfield 74, 3, 10, [9, 2, 3027], 0, 0, zM0) ::
  (24, .aload_n 2, 1, 2, [], 0, 0, zM0) ::
  (25, .getfield 135, 3, 0, [2, 0, 1153], 0, 0, zM0) ::
  (28, .iconst 1, 1, 28, [], 1, 0, zM0) ::
  (29, .iload 4, 2, 4, [], 0, 0, zM0) ::
  (31, .ishl, 1, 31, [], 0, 0, zM0) ::
  (32, .ixor, 1, 32, [], 0, 0, zM0) ::
  (33, .putfield 135, 3, 0, [2, 0, 1153], 0, 0, zM0) ::
  (36, .aload_n 0, 1, 0, [], 0, 0, zM0) ::
  (37, .aload_n 1, 1, 1, [], 0, 0, zM0) ::
  (38, .aload_n 0, 1, 0, [], 0, 0, zM0) ::
  (39, .getfield 74, 3, 10, [9, 2, 3027], 0, 0, zM0) ::
  (42, .aload_n 0, 1, 0, [], 0, 0, zM0) ::
  (43, .getfield 128, 3, 10, [10, 0, 3028], 0, 0, zM0) ::
  (46, .aload_n 0, 1, 0, [], 0, 0, zM0) ::
  (47, .invokevirtual 157, 3, 10, [3107, 0, 1], 0, 0, kX10_rule) ::
  (50, .invokevirtual 306, 3, 10, [4144, 4, 1], 0, 0, kX10_firstOtherwise) ::
  (53, .iconst (-1), 1, 53, [], (-1), 0, zM0) ::
  (54, .if_icmp .ne 10, 3, 64, [], 0, 0, zM0) ::
  (57, .iload_n 3, 1, 3, [], 0, 0, zM0) ::
  (58, .iconst 1, 1, 58, [], 1, 0, zM0) ::
  (59, .iload 4, 2, 4, [], 0, 0, zM0) ::
  (61, .ishl, 1, 61, [], 0, 0, zM0) ::
  (62, .ior, 1, 62, [], 0, 0, zM0) ::
  (63, .istore_n 3, 1, 3, [], 0, 0, zM0) :: tkX10_argumentsTold_64
def tkX10_argumentsTold_0 : List mE := (0, .iconst 0, 1, 0, [], 0, 0, zM0) ::
  (1, .istore_n 3, 1, 3, [], 0, 0, zM0) ::
  (2, .aload_n 0, 1, 0, [], 0, 0, zM0) ::
  (3, .getfield 74, 3, 10, [9, 2, 3027], 0, 0, zM0) ::
  (6, .aload_n 2, 1, 2, [], 0, 0, zM0) ::
  (7, .invokevirtual 226, 3, 0, [4000, 1, 0], 0, 0, kX0_become) ::
  (10, .iconst 0, 1, 10, [], 0, 0, zM0) ::
  (11, .istore 4, 2, 4, [], 0, 0, zM0) :: tkX10_argumentsTold_13
def tkX10_argumentsTold : List mE := tkX10_argumentsTold_0
theorem zkX10_argumentsTold : zat 0 tkX10_argumentsTold = tkX10_argumentsTold_0 ∧ zat 13 tkX10_argumentsTold = tkX10_argumentsTold_13 ∧ zat 64 tkX10_argumentsTold = tkX10_argumentsTold_64 ∧ zat 70 tkX10_argumentsTold = tkX10_argumentsTold_70 := ⟨rfl, rfl, rfl, rfl⟩
theorem okX10_argumentsTold : zok kX10_argumentsTold.2.1 kX10_argumentsTold.2.2.1 kX10_argumentsTold.2.2.2.1 tkX10_argumentsTold = true := by decide +kernel
def tkX10_textsTold_58 : List mE := (58, .iload_n 3, 1, 3, [], 0, 0, zM0) ::
  (59, .ireturn, 1, 59, [], 0, 0, zM0) :: []
def tkX10_textsTold_52 : List mE := (52, .iinc 4 1, 3, 4, [], 1, 0, zM0) ::
  (55, .goto (-50), 3, 5, [], 0, 0, zM0) :: tkX10_textsTold_58
def tkX10_textsTold_5 : List mE := (5, .iload 4, 2, 4, [], 0, 0, zM0) ::
  (7, .aload_n 0, 1, 0, [], 0, 0, zM0) ::
  (8, .getfield 186, 3, 10, [12, 0, 3030], 0, 0, zM0) ::
  (11, .if_icmp .ge 47, 3, 58, [], 0, 0, zM0) ::
  (14, .iload 4, 2, 4, [], 0, 0, zM0) ::
  (16, .aload_n 0, 1, 0, [], 0, 0, zM0) ::
  (17, .getfield 47, 3, 10, [5, 2, 3023], 0, 0, zM0) ::
  (20, .arraylength, 1, 4, [], 0, 0, zM0) ::
  (21, .if_icmp .ge 37, 3, 58, [], 0, 0, zM0) ::
  (24, .aload_n 0, 1, 0, [], 0, 0, zM0) ::
  (25, .aload_n 1, 1, 1, [], 0, 0, zM0) ::
  (26, .aload_n 2, 1, 2, [], 0, 0, zM0) ::
  (27, .aload_n 0, 1, 0, [], 0, 0, zM0) ::
  (28, .getfield 128, 3, 10, [10, 0, 3028], 0, 0, zM0) ::
  (31, .aload_n 0, 1, 0, [], 0, 0, zM0) ::
  (32, .getfield 47, 3, 10, [5, 2, 3023], 0, 0, zM0) ::
  (35, .iload 4, 2, 4, [], 0, 0, zM0) ::
  (37, .aaload, 1, 4, [], 0, 0, zM0) ::
  (38, .invokevirtual 306, 3, 10, [4144, 4, 1], 0, 0, kX10_firstOtherwise) ::
  (41, .iconst (-1), 1, 41, [], (-1), 0, zM0) ::
  (42, .if_icmp .ne 10, 3, 52, [], 0, 0, zM0) ::
  (45, .iload_n 3, 1, 3, [], 0, 0, zM0) ::
  (46, .iconst 1, 1, 46, [], 1, 0, zM0) ::
  (47, .iload 4, 2, 4, [], 0, 0, zM0) ::
  (49, .ishl, 1, 49, [], 0, 0, zM0) ::
  (50, .ior, 1, 50, [], 0, 0, zM0) ::
  (51, .istore_n 3, 1, 3, [], 0, 0, zM0) :: tkX10_textsTold_52
def tkX10_textsTold_0 : List mE := (0, .iconst 0, 1, 0, [], 0, 0, zM0) ::
  (1, .istore_n 3, 1, 3, [], 0, 0, zM0) ::
  (2, .iconst 0, 1, 2, [], 0, 0, zM0) ::
  (3, .istore 4, 2, 4, [], 0, 0, zM0) :: tkX10_textsTold_5
def tkX10_textsTold : List mE := tkX10_textsTold_0
theorem zkX10_textsTold : zat 0 tkX10_textsTold = tkX10_textsTold_0 ∧ zat 5 tkX10_textsTold = tkX10_textsTold_5 ∧ zat 52 tkX10_textsTold = tkX10_textsTold_52 ∧ zat 58 tkX10_textsTold = tkX10_textsTold_58 := ⟨rfl, rfl, rfl, rfl⟩
theorem okX10_textsTold : zok kX10_textsTold.2.1 kX10_textsTold.2.2.1 kX10_textsTold.2.2.2.1 tkX10_textsTold = true := by decide +kernel
def tkX10_hensTold_56 : List mE := (56, .iload_n 2, 1, 2, [], 0, 0, zM0) ::
  (57, .ireturn, 1, 57, [], 0, 0, zM0) :: []
def tkX10_hensTold_50 : List mE := (50, .iinc 3 1, 3, 3, [], 1, 0, zM0) ::
  (53, .goto (-49), 3, 4, [], 0, 0, zM0) :: tkX10_hensTold_56
def tkX10_hensTold_4 : List mE := (4, .iload_n 3, 1, 3, [], 0, 0, zM0) ::
  (5, .aload_n 0, 1, 0, [], 0, 0, zM0) ::
  (6, .getfield 144, 3, 10, [11, 0, 3029], 0, 0, zM0) ::
  (9, .if_icmp .ge 47, 3, 56, [], 0, 0, zM0) ::
  (12, .iload_n 3, 1, 3, [], 0, 0, zM0) ::
  (13, .aload_n 0, 1, 0, [], 0, 0, zM0) ::
  (14, .getfield 27, 3, 10, [2, 2, 3020], 0, 0, zM0) ::
  (17, .arraylength, 1, 2, [], 0, 0, zM0) ::
  (18, .if_icmp .ge 38, 3, 56, [], 0, 0, zM0) ::
  (21, .aload_n 0, 1, 0, [], 0, 0, zM0) ::
  (22, .aload_n 1, 1, 1, [], 0, 0, zM0) ::
  (23, .aload_n 0, 1, 0, [], 0, 0, zM0) ::
  (24, .getfield 27, 3, 10, [2, 2, 3020], 0, 0, zM0) ::
  (27, .iload_n 3, 1, 3, [], 0, 0, zM0) ::
  (28, .aaload, 1, 2, [], 0, 0, zM0) ::
  (29, .aload_n 0, 1, 0, [], 0, 0, zM0) ::
  (30, .getfield 128, 3, 10, [10, 0, 3028], 0, 0, zM0) ::
  (33, .aload_n 0, 1, 0, [], 0, 0, zM0) ::
  (34, .invokevirtual 157, 3, 10, [3107, 0, 1], 0, 0, kX10_rule) ::
  (37, .invokevirtual 306, 3, 10, [4144, 4, 1], 0, 0, kX10_firstOtherwise) ::
  (40, .iconst (-1), 1, 40, [], (-1), 0, zM0) ::
  (41, .if_icmp .ne 9, 3, 50, [], 0, 0, zM0) ::
  (44, .iload_n 2, 1, 2, [], 0, 0, zM0) ::
  (45, .iconst 1, 1, 45, [], 1, 0, zM0) ::
  (46, .iload_n 3, 1, 3, [], 0, 0, zM0) ::
  (47, .ishl, 1, 47, [], 0, 0, zM0) ::
  (48, .ior, 1, 48, [], 0, 0, zM0) ::
  (49, .istore_n 2, 1, 2, [], 0, 0, zM0) :: tkX10_hensTold_50
def tkX10_hensTold_0 : List mE := (0, .iconst 0, 1, 0, [], 0, 0, zM0) ::
  (1, .istore_n 2, 1, 2, [], 0, 0, zM0) ::
  (2, .iconst 0, 1, 2, [], 0, 0, zM0) ::
  (3, .istore_n 3, 1, 3, [], 0, 0, zM0) :: tkX10_hensTold_4
def tkX10_hensTold : List mE := tkX10_hensTold_0
theorem zkX10_hensTold : zat 0 tkX10_hensTold = tkX10_hensTold_0 ∧ zat 4 tkX10_hensTold = tkX10_hensTold_4 ∧ zat 50 tkX10_hensTold = tkX10_hensTold_50 ∧ zat 56 tkX10_hensTold = tkX10_hensTold_56 := ⟨rfl, rfl, rfl, rfl⟩
theorem okX10_hensTold : zok kX10_hensTold.2.1 kX10_hensTold.2.2.1 kX10_hensTold.2.2.2.1 tkX10_hensTold = true := by decide +kernel
def tkX10_film_87 : List mE := (87, .iload 5, 2, 5, [], 0, 0, zM0) ::
  (89, .ireturn, 1, 89, [], 0, 0, zM0) :: []
def tkX10_film_38 : List mE := (38, .iload 6, 2, 6, [], 0, 0, zM0) ::
  (40, .bipush 10, 2, 40, [], 10, 0, zM0) ::
  (42, .if_icmp .ge 45, 3, 87, [], 0, 0, zM0) ::
  (45, .aload_n 0, 1, 0, [], 0, 0, zM0) ::
  (46, .getfield 21, 3, 10, [1, 2, 3019], 0, 0, zM0) ::
  (49, .aload 4, 2, 4, [], 0, 0, zM0) ::
  (51, .iload 6, 2, 6, [], 0, 0, zM0) ::
  (53, .aload_n 0, 1, 0, [], 0, 0, zM0) ::
  (54, .getfield 128, 3, 10, [10, 0, 3028], 0, 0, zM0) ::
  (57, .aload_n 0, 1, 0, [], 0, 0, zM0) ::
  (58, .invokevirtual 157, 3, 10, [3107, 0, 1], 0, 0, kX10_rule) ::
  (61, .invokevirtual 172, 3, 2, [3168, 4, 1], 0, 0, kX2_laidBy) ::
  (64, .istore 7, 2, 7, [], 0, 0, zM0) ::
  (66, .aload_n 3, 1, 3, [], 0, 0, zM0) ::
  (67, .iload 6, 2, 6, [], 0, 0, zM0) ::
  (69, .iload 7, 2, 7, [], 0, 0, zM0) ::
  (71, .invokevirtual 334, 3, 5, [4186, 2, 0], 0, 0, kX5_write) ::
  (74, .iload 5, 2, 5, [], 0, 0, zM0) ::
  (76, .iload 7, 2, 7, [], 0, 0, zM0) ::
  (78, .iadd, 1, 78, [], 0, 0, zM0) ::
  (79, .istore 5, 2, 5, [], 0, 0, zM0) ::
  (81, .iinc 6 1, 3, 6, [], 1, 0, zM0) ::
  (84, .goto (-46), 3, 38, [], 0, 0, zM0) :: tkX10_film_87
def tkX10_film_25 : List mE := (25, .aload_n 3, 1, 3, [], 0, 0, zM0) ::
  (26, .iconst 0, 1, 26, [], 0, 0, zM0) ::
  (27, .bipush 10, 2, 27, [], 10, 0, zM0) ::
  (29, .invokevirtual 332, 3, 5, [4180, 2, 0], 0, 0, kX5_become) ::
  (32, .iconst 0, 1, 32, [], 0, 0, zM0) ::
  (33, .istore 5, 2, 5, [], 0, 0, zM0) ::
  (35, .iconst 0, 1, 35, [], 0, 0, zM0) ::
  (36, .istore 6, 2, 6, [], 0, 0, zM0) :: tkX10_film_38
def tkX10_film_22 : List mE := (22, .bipush (-2), 2, 22, [], (-2), 0, zM0) ::
  (24, .ireturn, 1, 24, [], 0, 0, zM0) :: tkX10_film_25
def tkX10_film_0 : List mE := (0, .aload_n 0, 1, 0, [], 0, 0, zM0) ::
  (1, .iload_n 1, 1, 1, [], 0, 0, zM0) ::
  (2, .invokevirtual 218, 3, 10, [3217, 1, 1], 0, 0, kX10_sheetAt) ::
  (5, .astore_n 3, 1, 3, [], 0, 0, zM0) ::
  (6, .aload_n 0, 1, 0, [], 0, 0, zM0) ::
  (7, .iload_n 2, 1, 2, [], 0, 0, zM0) ::
  (8, .invokevirtual 124, 3, 10, [3103, 1, 1], 0, 0, kX10_henAt) ::
  (11, .astore 4, 2, 4, [], 0, 0, zM0) ::
  (13, .aload_n 3, 1, 3, [], 0, 0, zM0) ::
  (14, .ifnull 8, 3, 22, [], 0, 0, zM0) ::
  (17, .aload 4, 2, 4, [], 0, 0, zM0) ::
  (19, .ifnonnull 6, 3, 25, [], 0, 0, zM0) :: tkX10_film_22
def tkX10_film : List mE := tkX10_film_0
theorem zkX10_film : zat 0 tkX10_film = tkX10_film_0 ∧ zat 22 tkX10_film = tkX10_film_22 ∧ zat 25 tkX10_film = tkX10_film_25 ∧ zat 38 tkX10_film = tkX10_film_38 ∧ zat 87 tkX10_film = tkX10_film_87 := ⟨rfl, rfl, rfl, rfl, rfl⟩
theorem okX10_film : zok kX10_film.2.1 kX10_film.2.2.1 kX10_film.2.2.2.1 tkX10_film = true := by decide +kernel
def tkX10_drawn_24 : List mE := (24, .aload_n 0, 1, 0, [], 0, 0, zM0) ::
  (25, .iload_n 1, 1, 1, [], 0, 0, zM0) ::
  (26, .aload 4, 2, 4, [], 0, 0, zM0) ::
  (28, .iload_n 3, 1, 3, [], 0, 0, zM0) ::
  (29, .invokevirtual 337, 3, 10, [4194, 3, 1], 0, 0, kX10_laidOnDrawn) ::
  (32, .ireturn, 1, 32, [], 0, 0, zM0) :: []
def tkX10_drawn_21 : List mE := (21, .bipush (-2), 2, 21, [], (-2), 0, zM0) ::
  (23, .ireturn, 1, 23, [], 0, 0, zM0) :: tkX10_drawn_24
def tkX10_drawn_0 : List mE := (0, .aload_n 0, 1, 0, [], 0, 0, zM0) ::
  (1, .iload_n 2, 1, 2, [], 0, 0, zM0) ::
  (2, .invokevirtual 124, 3, 10, [3103, 1, 1], 0, 0, kX10_henAt) ::
  (5, .astore 4, 2, 4, [], 0, 0, zM0) ::
  (7, .aload 4, 2, 4, [], 0, 0, zM0) ::
  (9, .ifnull 12, 3, 21, [], 0, 0, zM0) ::
  (12, .iload_n 3, 1, 3, [], 0, 0, zM0) ::
  (13, .bipush 60, 2, 13, [], 60, 0, zM0) ::
  (15, .invokestatic 102, 3, 0, [3069, 2, 1], 0, 0, kX10_isFrom0To) ::
  (18, .ifCond .ne 6, 3, 24, [], 0, 0, zM0) :: tkX10_drawn_21
def tkX10_drawn : List mE := tkX10_drawn_0
theorem zkX10_drawn : zat 0 tkX10_drawn = tkX10_drawn_0 ∧ zat 21 tkX10_drawn = tkX10_drawn_21 ∧ zat 24 tkX10_drawn = tkX10_drawn_24 := ⟨rfl, rfl, rfl⟩
theorem okX10_drawn : zok kX10_drawn.2.1 kX10_drawn.2.2.1 kX10_drawn.2.2.2.1 tkX10_drawn = true := by decide +kernel
def tkX10_laidOnDrawn_73 : List mE := (73, .iload 5, 2, 5, [], 0, 0, zM0) ::
  (75, .ireturn, 1, 75, [], 0, 0, zM0) :: []
def tkX10_laidOnDrawn_17 : List mE := (17, .iload 6, 2, 6, [], 0, 0, zM0) ::
  (19, .iload_n 3, 1, 3, [], 0, 0, zM0) ::
  (20, .if_icmp .ge 53, 3, 73, [], 0, 0, zM0) ::
  (23, .iload 4, 2, 4, [], 0, 0, zM0) ::
  (25, .ldc_w 341, 3, 25, [4198], 1103515245, 0, zM0) ::
  (28, .imul, 1, 28, [], 0, 0, zM0) ::
  (29, .sipush 12345, 3, 29, [], 12345, 0, zM0) ::
  (32, .iadd, 1, 32, [], 0, 0, zM0) ::
  (33, .istore 4, 2, 4, [], 0, 0, zM0) ::
  (35, .iload 5, 2, 5, [], 0, 0, zM0) ::
  (37, .aload_n 0, 1, 0, [], 0, 0, zM0) ::
  (38, .getfield 21, 3, 10, [1, 2, 3019], 0, 0, zM0) ::
  (41, .aload_n 0, 1, 0, [], 0, 0, zM0) ::
  (42, .getfield 74, 3, 10, [9, 2, 3027], 0, 0, zM0) ::
  (45, .iload 4, 2, 4, [], 0, 0, zM0) ::
  (47, .bipush 9, 2, 47, [], 9, 0, zM0) ::
  (49, .iushr, 1, 49, [], 0, 0, zM0) ::
  (50, .bipush 10, 2, 50, [], 10, 0, zM0) ::
  (52, .irem, 1, 52, [], 0, 0, zM0) ::
  (53, .aload_n 0, 1, 0, [], 0, 0, zM0) ::
  (54, .getfield 128, 3, 10, [10, 0, 3028], 0, 0, zM0) ::
  (57, .aload_n 0, 1, 0, [], 0, 0, zM0) ::
  (58, .invokevirtual 157, 3, 10, [3107, 0, 1], 0, 0, kX10_rule) ::
  (61, .invokevirtual 206, 3, 2, [3196, 4, 1], 0, 0, kX2_put) ::
  (64, .iadd, 1, 64, [], 0, 0, zM0) ::
  (65, .istore 5, 2, 5, [], 0, 0, zM0) ::
  (67, .iinc 6 1, 3, 6, [], 1, 0, zM0) ::
  (70, .goto (-53), 3, 17, [], 0, 0, zM0) :: tkX10_laidOnDrawn_73
def tkX10_laidOnDrawn_0 : List mE := (0, .aload_n 0, 1, 0, [], 0, 0, zM0) ::
  (1, .getfield 74, 3, 10, [9, 2, 3027], 0, 0, zM0) ::
  (4, .aload_n 2, 1, 2, [], 0, 0, zM0) ::
  (5, .invokevirtual 226, 3, 0, [4000, 1, 0], 0, 0, kX0_become) ::
  (8, .iload_n 1, 1, 1, [], 0, 0, zM0) ::
  (9, .istore 4, 2, 4, [], 0, 0, zM0) ::
  (11, .iconst 0, 1, 11, [], 0, 0, zM0) ::
  (12, .istore 5, 2, 5, [], 0, 0, zM0) ::
  (14, .iconst 0, 1, 14, [], 0, 0, zM0) ::
  (15, .istore 6, 2, 6, [], 0, 0, zM0) :: tkX10_laidOnDrawn_17
def tkX10_laidOnDrawn : List mE := tkX10_laidOnDrawn_0
theorem zkX10_laidOnDrawn : zat 0 tkX10_laidOnDrawn = tkX10_laidOnDrawn_0 ∧ zat 17 tkX10_laidOnDrawn = tkX10_laidOnDrawn_17 ∧ zat 73 tkX10_laidOnDrawn = tkX10_laidOnDrawn_73 := ⟨rfl, rfl, rfl⟩
theorem okX10_laidOnDrawn : zok kX10_laidOnDrawn.2.1 kX10_laidOnDrawn.2.2.1 kX10_laidOnDrawn.2.2.2.1 tkX10_laidOnDrawn = true := by decide +kernel
def tkX10_chance_85 : List mE := (85, .iload 7, 2, 7, [], 0, 0, zM0) ::
  (87, .iload_n 2, 1, 2, [], 0, 0, zM0) ::
  (88, .iload 5, 2, 5, [], 0, 0, zM0) ::
  (90, .invokestatic 273, 3, 0, [4076, 3, 1], 0, 0, kX10_partOfLowest) ::
  (93, .i2l, 1, 93, [], 0, 0, zM0) ::
  (94, .lreturn, 1, 94, [], 0, 0, zM0) :: []
def tkX10_chance_79 : List mE := (79, .iinc 8 1, 3, 8, [], 1, 0, zM0) ::
  (82, .goto (-29), 3, 53, [], 0, 0, zM0) :: tkX10_chance_85
def tkX10_chance_53 : List mE := (53, .iload 8, 2, 8, [], 0, 0, zM0) ::
  (55, .iload_n 2, 1, 2, [], 0, 0, zM0) ::
  (56, .if_icmp .ge 29, 3, 85, [], 0, 0, zM0) ::
  (59, .aload_n 0, 1, 0, [], 0, 0, zM0) ::
  (60, .iload_n 1, 1, 1, [], 0, 0, zM0) ::
  (61, .iload 8, 2, 8, [], 0, 0, zM0) ::
  (63, .iadd, 1, 63, [], 0, 0, zM0) ::
  (64, .aload 6, 2, 6, [], 0, 0, zM0) ::
  (66, .bipush 8, 2, 66, [], 8, 0, zM0) ::
  (68, .invokevirtual 337, 3, 10, [4194, 3, 1], 0, 0, kX10_laidOnDrawn) ::
  (71, .iload 4, 2, 4, [], 0, 0, zM0) ::
  (73, .if_icmp .lt 6, 3, 79, [], 0, 0, zM0) ::
  (76, .iinc 7 1, 3, 7, [], 1, 0, zM0) :: tkX10_chance_79
def tkX10_chance_47 : List mE := (47, .iconst 0, 1, 47, [], 0, 0, zM0) ::
  (48, .istore 7, 2, 7, [], 0, 0, zM0) ::
  (50, .iconst 0, 1, 50, [], 0, 0, zM0) ::
  (51, .istore 8, 2, 8, [], 0, 0, zM0) :: tkX10_chance_53
def tkX10_chance_43 : List mE := (43, .ldc2_w 271, 3, 43, [4075], 0, (-4611686018427387904), zM0) ::
  (46, .lreturn, 1, 46, [], 0, 0, zM0) :: tkX10_chance_47
def tkX10_chance_0 : List mE := (0, .aload_n 0, 1, 0, [], 0, 0, zM0) ::
  (1, .iload_n 3, 1, 3, [], 0, 0, zM0) ::
  (2, .invokevirtual 124, 3, 10, [3103, 1, 1], 0, 0, kX10_henAt) ::
  (5, .astore 6, 2, 6, [], 0, 0, zM0) ::
  (7, .iload_n 2, 1, 2, [], 0, 0, zM0) ::
  (8, .iconst 1, 1, 8, [], 1, 0, zM0) ::
  (9, .if_icmp .lt 34, 3, 43, [], 0, 0, zM0) ::
  (12, .iload_n 2, 1, 2, [], 0, 0, zM0) ::
  (13, .bipush 20, 2, 13, [], 20, 0, zM0) ::
  (15, .if_icmp .gt 28, 3, 43, [], 0, 0, zM0) ::
  (18, .aload 6, 2, 6, [], 0, 0, zM0) ::
  (20, .ifnull 23, 3, 43, [], 0, 0, zM0) ::
  (23, .iload 4, 2, 4, [], 0, 0, zM0) ::
  (25, .sipush 999, 3, 25, [], 999, 0, zM0) ::
  (28, .invokestatic 102, 3, 0, [3069, 2, 1], 0, 0, kX10_isFrom0To) ::
  (31, .ifCond .eq 12, 3, 43, [], 0, 0, zM0) ::
  (34, .iload 5, 2, 5, [], 0, 0, zM0) ::
  (36, .iconst 1, 1, 36, [], 1, 0, zM0) ::
  (37, .invokestatic 102, 3, 0, [3069, 2, 1], 0, 0, kX10_isFrom0To) ::
  (40, .ifCond .ne 7, 3, 47, [], 0, 0, zM0) :: tkX10_chance_43
def tkX10_chance : List mE := tkX10_chance_0
theorem zkX10_chance : zat 0 tkX10_chance = tkX10_chance_0 ∧ zat 43 tkX10_chance = tkX10_chance_43 ∧ zat 47 tkX10_chance = tkX10_chance_47 ∧ zat 53 tkX10_chance = tkX10_chance_53 ∧ zat 79 tkX10_chance = tkX10_chance_79 ∧ zat 85 tkX10_chance = tkX10_chance_85 := ⟨rfl, rfl, rfl, rfl, rfl, rfl⟩
theorem okX10_chance : zok kX10_chance.2.1 kX10_chance.2.2.1 kX10_chance.2.2.2.1 tkX10_chance = true := by decide +kernel
def tkX10_image_102 : List mE := (102, .aload_n 0, 1, 0, [], 0, 0, zM0) ::
  (103, .getfield 144, 3, 10, [11, 0, 3029], 0, 0, zM0) ::
  (106, .ireturn, 1, 106, [], 0, 0, zM0) :: []
def tkX10_image_57 : List mE := (57, .iload_n 1, 1, 1, [], 0, 0, zM0) ::
  (58, .aload_n 0, 1, 0, [], 0, 0, zM0) ::
  (59, .getfield 27, 3, 10, [2, 2, 3020], 0, 0, zM0) ::
  (62, .arraylength, 1, 2, [], 0, 0, zM0) ::
  (63, .if_icmp .ge 39, 3, 102, [], 0, 0, zM0) ::
  (66, .iload_n 1, 1, 1, [], 0, 0, zM0) ::
  (67, .aload_n 0, 1, 0, [], 0, 0, zM0) ::
  (68, .getfield 69, 3, 10, [8, 2, 3026], 0, 0, zM0) ::
  (71, .getfield 352, 3, 1, [1, 2, 1196], 0, 0, zM0) ::
  (74, .arraylength, 1, 2, [], 0, 0, zM0) ::
  (75, .if_icmp .ge 27, 3, 102, [], 0, 0, zM0) ::
  (78, .aload_n 0, 1, 0, [], 0, 0, zM0) ::
  (79, .getfield 69, 3, 10, [8, 2, 3026], 0, 0, zM0) ::
  (82, .getfield 352, 3, 1, [1, 2, 1196], 0, 0, zM0) ::
  (85, .iload_n 1, 1, 1, [], 0, 0, zM0) ::
  (86, .aaload, 1, 2, [], 0, 0, zM0) ::
  (87, .aload_n 0, 1, 0, [], 0, 0, zM0) ::
  (88, .getfield 27, 3, 10, [2, 2, 3020], 0, 0, zM0) ::
  (91, .iload_n 1, 1, 1, [], 0, 0, zM0) ::
  (92, .aaload, 1, 2, [], 0, 0, zM0) ::
  (93, .invokevirtual 226, 3, 0, [4000, 1, 0], 0, 0, kX0_become) ::
  (96, .iinc 1 1, 3, 1, [], 1, 0, zM0) ::
  (99, .goto (-42), 3, 57, [], 0, 0, zM0) :: tkX10_image_102
def tkX10_image_0 : List mE := (0, .aload_n 0, 1, 0, [], 0, 0, zM0) ::
  (1, .getfield 69, 3, 10, [8, 2, 3026], 0, 0, zM0) ::
  (4, .iconst 1, 1, 4, [], 1, 0, zM0) ::
  (5, .putfield 342, 3, 1, [2, 3, 1197], 0, 0, zM0) ::
  (8, .aload_n 0, 1, 0, [], 0, 0, zM0) ::
  (9, .getfield 69, 3, 10, [8, 2, 3026], 0, 0, zM0) ::
  (12, .getfield 346, 3, 1, [0, 2, 1194], 0, 0, zM0) ::
  (15, .aload_n 0, 1, 0, [], 0, 0, zM0) ::
  (16, .getfield 10, 3, 10, [0, 2, 3018], 0, 0, zM0) ::
  (19, .invokevirtual 347, 3, 6, [4207, 1, 0], 0, 0, kX6_become) ::
  (22, .aload_n 0, 1, 0, [], 0, 0, zM0) ::
  (23, .getfield 69, 3, 10, [8, 2, 3026], 0, 0, zM0) ::
  (26, .aload_n 0, 1, 0, [], 0, 0, zM0) ::
  (27, .getfield 128, 3, 10, [10, 0, 3028], 0, 0, zM0) ::
  (30, .putfield 349, 3, 1, [3, 0, 1198], 0, 0, zM0) ::
  (33, .aload_n 0, 1, 0, [], 0, 0, zM0) ::
  (34, .getfield 69, 3, 10, [8, 2, 3026], 0, 0, zM0) ::
  (37, .aload_n 0, 1, 0, [], 0, 0, zM0) ::
  (38, .getfield 203, 3, 10, [13, 0, 3031], 0, 0, zM0) ::
  (41, .putfield 350, 3, 1, [4, 0, 1199], 0, 0, zM0) ::
  (44, .aload_n 0, 1, 0, [], 0, 0, zM0) ::
  (45, .getfield 69, 3, 10, [8, 2, 3026], 0, 0, zM0) ::
  (48, .aload_n 0, 1, 0, [], 0, 0, zM0) ::
  (49, .getfield 144, 3, 10, [11, 0, 3029], 0, 0, zM0) ::
  (52, .putfield 351, 3, 1, [5, 0, 1200], 0, 0, zM0) ::
  (55, .iconst 0, 1, 55, [], 0, 0, zM0) ::
  (56, .istore_n 1, 1, 1, [], 0, 0, zM0) :: tkX10_image_57
def tkX10_image : List mE := tkX10_image_0
theorem zkX10_image : zat 0 tkX10_image = tkX10_image_0 ∧ zat 57 tkX10_image = tkX10_image_57 ∧ zat 102 tkX10_image = tkX10_image_102 := ⟨rfl, rfl, rfl⟩
theorem okX10_image : zok kX10_image.2.1 kX10_image.2.2.1 kX10_image.2.2.2.1 tkX10_image = true := by decide +kernel
def tkX10_back_107 : List mE := (107, .aload_n 0, 1, 0, [], 0, 0, zM0) ::
  (108, .getfield 144, 3, 10, [11, 0, 3029], 0, 0, zM0) ::
  (111, .ireturn, 1, 111, [], 0, 0, zM0) :: []
def tkX10_back_62 : List mE := (62, .iload_n 1, 1, 1, [], 0, 0, zM0) ::
  (63, .aload_n 0, 1, 0, [], 0, 0, zM0) ::
  (64, .getfield 27, 3, 10, [2, 2, 3020], 0, 0, zM0) ::
  (67, .arraylength, 1, 2, [], 0, 0, zM0) ::
  (68, .if_icmp .ge 39, 3, 107, [], 0, 0, zM0) ::
  (71, .iload_n 1, 1, 1, [], 0, 0, zM0) ::
  (72, .aload_n 0, 1, 0, [], 0, 0, zM0) ::
  (73, .getfield 69, 3, 10, [8, 2, 3026], 0, 0, zM0) ::
  (76, .getfield 352, 3, 1, [1, 2, 1196], 0, 0, zM0) ::
  (79, .arraylength, 1, 2, [], 0, 0, zM0) ::
  (80, .if_icmp .ge 27, 3, 107, [], 0, 0, zM0) ::
  (83, .aload_n 0, 1, 0, [], 0, 0, zM0) ::
  (84, .getfield 27, 3, 10, [2, 2, 3020], 0, 0, zM0) ::
  (87, .iload_n 1, 1, 1, [], 0, 0, zM0) ::
  (88, .aaload, 1, 2, [], 0, 0, zM0) ::
  (89, .aload_n 0, 1, 0, [], 0, 0, zM0) ::
  (90, .getfield 69, 3, 10, [8, 2, 3026], 0, 0, zM0) ::
  (93, .getfield 352, 3, 1, [1, 2, 1196], 0, 0, zM0) ::
  (96, .iload_n 1, 1, 1, [], 0, 0, zM0) ::
  (97, .aaload, 1, 2, [], 0, 0, zM0) ::
  (98, .invokevirtual 226, 3, 0, [4000, 1, 0], 0, 0, kX0_become) ::
  (101, .iinc 1 1, 3, 1, [], 1, 0, zM0) ::
  (104, .goto (-42), 3, 62, [], 0, 0, zM0) :: tkX10_back_107
def tkX10_back_13 : List mE := (13, .aload_n 0, 1, 0, [], 0, 0, zM0) ::
  (14, .getfield 10, 3, 10, [0, 2, 3018], 0, 0, zM0) ::
  (17, .aload_n 0, 1, 0, [], 0, 0, zM0) ::
  (18, .getfield 69, 3, 10, [8, 2, 3026], 0, 0, zM0) ::
  (21, .getfield 346, 3, 1, [0, 2, 1194], 0, 0, zM0) ::
  (24, .invokevirtual 347, 3, 6, [4207, 1, 0], 0, 0, kX6_become) ::
  (27, .aload_n 0, 1, 0, [], 0, 0, zM0) ::
  (28, .aload_n 0, 1, 0, [], 0, 0, zM0) ::
  (29, .getfield 69, 3, 10, [8, 2, 3026], 0, 0, zM0) ::
  (32, .getfield 349, 3, 1, [3, 0, 1198], 0, 0, zM0) ::
  (35, .putfield 128, 3, 10, [10, 0, 3028], 0, 0, zM0) ::
  (38, .aload_n 0, 1, 0, [], 0, 0, zM0) ::
  (39, .aload_n 0, 1, 0, [], 0, 0, zM0) ::
  (40, .getfield 69, 3, 10, [8, 2, 3026], 0, 0, zM0) ::
  (43, .getfield 350, 3, 1, [4, 0, 1199], 0, 0, zM0) ::
  (46, .putfield 203, 3, 10, [13, 0, 3031], 0, 0, zM0) ::
  (49, .aload_n 0, 1, 0, [], 0, 0, zM0) ::
  (50, .aload_n 0, 1, 0, [], 0, 0, zM0) ::
  (51, .getfield 69, 3, 10, [8, 2, 3026], 0, 0, zM0) ::
  (54, .getfield 351, 3, 1, [5, 0, 1200], 0, 0, zM0) ::
  (57, .putfield 144, 3, 10, [11, 0, 3029], 0, 0, zM0) ::
  (60, .iconst 0, 1, 60, [], 0, 0, zM0) ::
  (61, .istore_n 1, 1, 1, [], 0, 0, zM0) :: tkX10_back_62
def tkX10_back_0 : List mE := (0, .aload_n 0, 1, 0, [], 0, 0, zM0) ::
  (1, .getfield 69, 3, 10, [8, 2, 3026], 0, 0, zM0) ::
  (4, .getfield 342, 3, 1, [2, 3, 1197], 0, 0, zM0) ::
  (7, .ifCond .ne 6, 3, 13, [], 0, 0, zM0) ::
  (10, .bipush (-3), 2, 10, [], (-3), 0, zM0) ::
  (12, .ireturn, 1, 12, [], 0, 0, zM0) :: tkX10_back_13
def tkX10_back : List mE := tkX10_back_0
theorem zkX10_back : zat 0 tkX10_back = tkX10_back_0 ∧ zat 13 tkX10_back = tkX10_back_13 ∧ zat 62 tkX10_back = tkX10_back_62 ∧ zat 107 tkX10_back = tkX10_back_107 := ⟨rfl, rfl, rfl, rfl⟩
theorem okX10_back : zok kX10_back.2.1 kX10_back.2.2.1 kX10_back.2.2.2.1 tkX10_back = true := by decide +kernel
def tkX10_count_76 : List mE := (76, .bipush (-2), 2, 76, [], (-2), 0, zM0) ::
  (78, .ireturn, 1, 78, [], 0, 0, zM0) :: []
def tkX10_count_71 : List mE := (71, .aload_n 0, 1, 0, [], 0, 0, zM0) ::
  (72, .getfield 203, 3, 10, [13, 0, 3031], 0, 0, zM0) ::
  (75, .ireturn, 1, 75, [], 0, 0, zM0) :: tkX10_count_76
def tkX10_count_63 : List mE := (63, .aload_n 0, 1, 0, [], 0, 0, zM0) ::
  (64, .getfield 34, 3, 10, [3, 2, 3021], 0, 0, zM0) ::
  (67, .invokevirtual 183, 3, 7, [3186, 0, 1], 0, 0, kX7_size) ::
  (70, .ireturn, 1, 70, [], 0, 0, zM0) :: tkX10_count_71
def tkX10_count_58 : List mE := (58, .aload_n 0, 1, 0, [], 0, 0, zM0) ::
  (59, .getfield 186, 3, 10, [12, 0, 3030], 0, 0, zM0) ::
  (62, .ireturn, 1, 62, [], 0, 0, zM0) :: tkX10_count_63
def tkX10_count_53 : List mE := (53, .aload_n 0, 1, 0, [], 0, 0, zM0) ::
  (54, .invokevirtual 356, 3, 10, [4224, 0, 1], 0, 0, kX10_eggsOfAll) ::
  (57, .ireturn, 1, 57, [], 0, 0, zM0) :: tkX10_count_58
def tkX10_count_45 : List mE := (45, .aload_n 0, 1, 0, [], 0, 0, zM0) ::
  (46, .getfield 10, 3, 10, [0, 2, 3018], 0, 0, zM0) ::
  (49, .invokevirtual 353, 3, 6, [4220, 0, 1], 0, 0, kX6_twos) ::
  (52, .ireturn, 1, 52, [], 0, 0, zM0) :: tkX10_count_53
def tkX10_count_40 : List mE := (40, .aload_n 0, 1, 0, [], 0, 0, zM0) ::
  (41, .getfield 144, 3, 10, [11, 0, 3029], 0, 0, zM0) ::
  (44, .ireturn, 1, 44, [], 0, 0, zM0) :: tkX10_count_45
def tkX10_count_0 : List mE := (0, .iload_n 1, 1, 1, [], 0, 0, zM0) ::
  (1, .tableswitch 75 0 5 #[39, 44, 52, 57, 62, 70], 39, 76, [40, 45, 53, 58, 63, 71], 0, 0, zM0) :: tkX10_count_40
def tkX10_count : List mE := tkX10_count_0
theorem zkX10_count : zat 0 tkX10_count = tkX10_count_0 ∧ zat 40 tkX10_count = tkX10_count_40 ∧ zat 45 tkX10_count = tkX10_count_45 ∧ zat 53 tkX10_count = tkX10_count_53 ∧ zat 58 tkX10_count = tkX10_count_58 ∧ zat 63 tkX10_count = tkX10_count_63 ∧ zat 71 tkX10_count = tkX10_count_71 ∧ zat 76 tkX10_count = tkX10_count_76 := ⟨rfl, rfl, rfl, rfl, rfl, rfl, rfl, rfl⟩
theorem okX10_count : zok kX10_count.2.1 kX10_count.2.2.1 kX10_count.2.2.2.1 tkX10_count = true := by decide +kernel
def tkX10_eggsOfAll_39 : List mE := (39, .iload_n 1, 1, 1, [], 0, 0, zM0) ::
  (40, .ireturn, 1, 40, [], 0, 0, zM0) :: []
def tkX10_eggsOfAll_4 : List mE := (4, .iload_n 2, 1, 2, [], 0, 0, zM0) ::
  (5, .aload_n 0, 1, 0, [], 0, 0, zM0) ::
  (6, .getfield 144, 3, 10, [11, 0, 3029], 0, 0, zM0) ::
  (9, .if_icmp .ge 30, 3, 39, [], 0, 0, zM0) ::
  (12, .iload_n 2, 1, 2, [], 0, 0, zM0) ::
  (13, .aload_n 0, 1, 0, [], 0, 0, zM0) ::
  (14, .getfield 27, 3, 10, [2, 2, 3020], 0, 0, zM0) ::
  (17, .arraylength, 1, 2, [], 0, 0, zM0) ::
  (18, .if_icmp .ge 21, 3, 39, [], 0, 0, zM0) ::
  (21, .iload_n 1, 1, 1, [], 0, 0, zM0) ::
  (22, .aload_n 0, 1, 0, [], 0, 0, zM0) ::
  (23, .getfield 27, 3, 10, [2, 2, 3020], 0, 0, zM0) ::
  (26, .iload_n 2, 1, 2, [], 0, 0, zM0) ::
  (27, .aaload, 1, 2, [], 0, 0, zM0) ::
  (28, .getfield 138, 3, 0, [3, 0, 1156], 0, 0, zM0) ::
  (31, .iadd, 1, 31, [], 0, 0, zM0) ::
  (32, .istore_n 1, 1, 1, [], 0, 0, zM0) ::
  (33, .iinc 2 1, 3, 2, [], 1, 0, zM0) ::
  (36, .goto (-32), 3, 4, [], 0, 0, zM0) :: tkX10_eggsOfAll_39
def tkX10_eggsOfAll_0 : List mE := (0, .iconst 0, 1, 0, [], 0, 0, zM0) ::
  (1, .istore_n 1, 1, 1, [], 0, 0, zM0) ::
  (2, .iconst 0, 1, 2, [], 0, 0, zM0) ::
  (3, .istore_n 2, 1, 2, [], 0, 0, zM0) :: tkX10_eggsOfAll_4
def tkX10_eggsOfAll : List mE := tkX10_eggsOfAll_0
theorem zkX10_eggsOfAll : zat 0 tkX10_eggsOfAll = tkX10_eggsOfAll_0 ∧ zat 4 tkX10_eggsOfAll = tkX10_eggsOfAll_4 ∧ zat 39 tkX10_eggsOfAll = tkX10_eggsOfAll_39 := ⟨rfl, rfl, rfl⟩
theorem okX10_eggsOfAll : zok kX10_eggsOfAll.2.1 kX10_eggsOfAll.2.2.1 kX10_eggsOfAll.2.2.2.1 tkX10_eggsOfAll = true := by decide +kernel
def tkX10_sheet_57 : List mE := (57, .aload 4, 2, 4, [], 0, 0, zM0) ::
  (59, .iload_n 2, 1, 2, [], 0, 0, zM0) ::
  (60, .iload_n 3, 1, 3, [], 0, 0, zM0) ::
  (61, .invokevirtual 332, 3, 5, [4180, 2, 0], 0, 0, kX5_become) ::
  (64, .iconst 1, 1, 64, [], 1, 0, zM0) ::
  (65, .ireturn, 1, 65, [], 0, 0, zM0) :: []
def tkX10_sheet_50 : List mE := (50, .iload_n 3, 1, 3, [], 0, 0, zM0) ::
  (51, .ifCond .ge 6, 3, 57, [], 0, 0, zM0) ::
  (54, .bipush (-14), 2, 54, [], (-14), 0, zM0) ::
  (56, .ireturn, 1, 56, [], 0, 0, zM0) :: tkX10_sheet_57
def tkX10_sheet_41 : List mE := (41, .iload_n 3, 1, 3, [], 0, 0, zM0) ::
  (42, .bipush 40, 2, 42, [], 40, 0, zM0) ::
  (44, .if_icmp .le 6, 3, 50, [], 0, 0, zM0) ::
  (47, .bipush (-2), 2, 47, [], (-2), 0, zM0) ::
  (49, .ireturn, 1, 49, [], 0, 0, zM0) :: tkX10_sheet_50
def tkX10_sheet_27 : List mE := (27, .iload_n 2, 1, 2, [], 0, 0, zM0) ::
  (28, .iconst (-1), 1, 28, [], (-1), 0, zM0) ::
  (29, .if_icmp .ne 12, 3, 41, [], 0, 0, zM0) ::
  (32, .aload 4, 2, 4, [], 0, 0, zM0) ::
  (34, .iconst (-1), 1, 34, [], (-1), 0, zM0) ::
  (35, .iconst 0, 1, 35, [], 0, 0, zM0) ::
  (36, .invokevirtual 332, 3, 5, [4180, 2, 0], 0, 0, kX5_become) ::
  (39, .iconst 1, 1, 39, [], 1, 0, zM0) ::
  (40, .ireturn, 1, 40, [], 0, 0, zM0) :: tkX10_sheet_41
def tkX10_sheet_24 : List mE := (24, .bipush (-2), 2, 24, [], (-2), 0, zM0) ::
  (26, .ireturn, 1, 26, [], 0, 0, zM0) :: tkX10_sheet_27
def tkX10_sheet_0 : List mE := (0, .aload_n 0, 1, 0, [], 0, 0, zM0) ::
  (1, .iload_n 1, 1, 1, [], 0, 0, zM0) ::
  (2, .invokevirtual 218, 3, 10, [3217, 1, 1], 0, 0, kX10_sheetAt) ::
  (5, .astore 4, 2, 4, [], 0, 0, zM0) ::
  (7, .aload 4, 2, 4, [], 0, 0, zM0) ::
  (9, .ifnull 15, 3, 24, [], 0, 0, zM0) ::
  (12, .iload_n 2, 1, 2, [], 0, 0, zM0) ::
  (13, .iconst (-1), 1, 13, [], (-1), 0, zM0) ::
  (14, .if_icmp .eq 13, 3, 27, [], 0, 0, zM0) ::
  (17, .iload_n 2, 1, 2, [], 0, 0, zM0) ::
  (18, .invokestatic 359, 3, 0, [4232, 1, 1], 0, 0, kX10_isSort) ::
  (21, .ifCond .ne 6, 3, 27, [], 0, 0, zM0) :: tkX10_sheet_24
def tkX10_sheet : List mE := tkX10_sheet_0
theorem zkX10_sheet : zat 0 tkX10_sheet = tkX10_sheet_0 ∧ zat 24 tkX10_sheet = tkX10_sheet_24 ∧ zat 27 tkX10_sheet = tkX10_sheet_27 ∧ zat 41 tkX10_sheet = tkX10_sheet_41 ∧ zat 50 tkX10_sheet = tkX10_sheet_50 ∧ zat 57 tkX10_sheet = tkX10_sheet_57 := ⟨rfl, rfl, rfl, rfl, rfl, rfl⟩
theorem okX10_sheet : zok kX10_sheet.2.1 kX10_sheet.2.2.1 kX10_sheet.2.2.2.1 tkX10_sheet = true := by decide +kernel
def tkX10_isSort_19 : List mE := (19, .ireturn, 1, 19, [], 0, 0, zM0) :: []
def tkX10_isSort_18 : List mE := (18, .iconst 0, 1, 18, [], 0, 0, zM0) :: tkX10_isSort_19
def tkX10_isSort_14 : List mE := (14, .iconst 1, 1, 14, [], 1, 0, zM0) ::
  (15, .goto 4, 3, 19, [], 0, 0, zM0) :: tkX10_isSort_18
def tkX10_isSort_0 : List mE := (0, .iload_n 0, 1, 0, [], 0, 0, zM0) ::
  (1, .ifCond .eq 13, 3, 14, [], 0, 0, zM0) ::
  (4, .iload_n 0, 1, 0, [], 0, 0, zM0) ::
  (5, .iconst 1, 1, 5, [], 1, 0, zM0) ::
  (6, .if_icmp .eq 8, 3, 14, [], 0, 0, zM0) ::
  (9, .iload_n 0, 1, 0, [], 0, 0, zM0) ::
  (10, .iconst 2, 1, 10, [], 2, 0, zM0) ::
  (11, .if_icmp .ne 7, 3, 18, [], 0, 0, zM0) :: tkX10_isSort_14
def tkX10_isSort : List mE := tkX10_isSort_0
theorem zkX10_isSort : zat 0 tkX10_isSort = tkX10_isSort_0 ∧ zat 14 tkX10_isSort = tkX10_isSort_14 ∧ zat 18 tkX10_isSort = tkX10_isSort_18 ∧ zat 19 tkX10_isSort = tkX10_isSort_19 := ⟨rfl, rfl, rfl, rfl⟩
theorem okX10_isSort : zok kX10_isSort.2.1 kX10_isSort.2.2.1 kX10_isSort.2.2.2.1 tkX10_isSort = true := by decide +kernel
def tkX10_cell_39 : List mE := (39, .aload 4, 2, 4, [], 0, 0, zM0) ::
  (41, .iload_n 2, 1, 2, [], 0, 0, zM0) ::
  (42, .iload_n 3, 1, 3, [], 0, 0, zM0) ::
  (43, .invokevirtual 334, 3, 5, [4186, 2, 0], 0, 0, kX5_write) ::
  (46, .iconst 1, 1, 46, [], 1, 0, zM0) ::
  (47, .ireturn, 1, 47, [], 0, 0, zM0) :: []
def tkX10_cell_26 : List mE := (26, .aload 4, 2, 4, [], 0, 0, zM0) ::
  (28, .iload_n 2, 1, 2, [], 0, 0, zM0) ::
  (29, .iconst 1, 1, 29, [], 1, 0, zM0) ::
  (30, .invokevirtual 362, 3, 5, [4239, 2, 1], 0, 0, kX5_hasItems) ::
  (33, .ifCond .ne 6, 3, 39, [], 0, 0, zM0) ::
  (36, .bipush (-12), 2, 36, [], (-12), 0, zM0) ::
  (38, .ireturn, 1, 38, [], 0, 0, zM0) :: tkX10_cell_39
def tkX10_cell_15 : List mE := (15, .aload 4, 2, 4, [], 0, 0, zM0) ::
  (17, .invokevirtual 240, 3, 5, [3224, 0, 1], 0, 0, kX5_isMissing) ::
  (20, .ifCond .eq 6, 3, 26, [], 0, 0, zM0) ::
  (23, .bipush (-11), 2, 23, [], (-11), 0, zM0) ::
  (25, .ireturn, 1, 25, [], 0, 0, zM0) :: tkX10_cell_26
def tkX10_cell_0 : List mE := (0, .aload_n 0, 1, 0, [], 0, 0, zM0) ::
  (1, .iload_n 1, 1, 1, [], 0, 0, zM0) ::
  (2, .invokevirtual 218, 3, 10, [3217, 1, 1], 0, 0, kX10_sheetAt) ::
  (5, .astore 4, 2, 4, [], 0, 0, zM0) ::
  (7, .aload 4, 2, 4, [], 0, 0, zM0) ::
  (9, .ifnonnull 6, 3, 15, [], 0, 0, zM0) ::
  (12, .bipush (-2), 2, 12, [], (-2), 0, zM0) ::
  (14, .ireturn, 1, 14, [], 0, 0, zM0) :: tkX10_cell_15
def tkX10_cell : List mE := tkX10_cell_0
theorem zkX10_cell : zat 0 tkX10_cell = tkX10_cell_0 ∧ zat 15 tkX10_cell = tkX10_cell_15 ∧ zat 26 tkX10_cell = tkX10_cell_26 ∧ zat 39 tkX10_cell = tkX10_cell_39 := ⟨rfl, rfl, rfl, rfl⟩
theorem okX10_cell : zok kX10_cell.2.1 kX10_cell.2.2.1 kX10_cell.2.2.2.1 tkX10_cell = true := by decide +kernel
def tkX10_copy_88 : List mE := (88, .aload 6, 2, 6, [], 0, 0, zM0) ::
  (90, .iload_n 2, 1, 2, [], 0, 0, zM0) ::
  (91, .aload 7, 2, 7, [], 0, 0, zM0) ::
  (93, .iload 4, 2, 4, [], 0, 0, zM0) ::
  (95, .iload 5, 2, 5, [], 0, 0, zM0) ::
  (97, .invokevirtual 368, 3, 5, [5008, 4, 0], 0, 0, kX5_copyTo) ::
  (100, .iload 5, 2, 5, [], 0, 0, zM0) ::
  (102, .ireturn, 1, 102, [], 0, 0, zM0) :: []
def tkX10_copy_85 : List mE := (85, .bipush (-12), 2, 85, [], (-12), 0, zM0) ::
  (87, .ireturn, 1, 87, [], 0, 0, zM0) :: tkX10_copy_88
def tkX10_copy_62 : List mE := (62, .aload 6, 2, 6, [], 0, 0, zM0) ::
  (64, .iload_n 2, 1, 2, [], 0, 0, zM0) ::
  (65, .iload 5, 2, 5, [], 0, 0, zM0) ::
  (67, .invokevirtual 362, 3, 5, [4239, 2, 1], 0, 0, kX5_hasItems) ::
  (70, .ifCond .eq 15, 3, 85, [], 0, 0, zM0) ::
  (73, .aload 7, 2, 7, [], 0, 0, zM0) ::
  (75, .iload 4, 2, 4, [], 0, 0, zM0) ::
  (77, .iload 5, 2, 5, [], 0, 0, zM0) ::
  (79, .invokevirtual 362, 3, 5, [4239, 2, 1], 0, 0, kX5_hasItems) ::
  (82, .ifCond .ne 6, 3, 88, [], 0, 0, zM0) :: tkX10_copy_85
def tkX10_copy_46 : List mE := (46, .aload 6, 2, 6, [], 0, 0, zM0) ::
  (48, .invokevirtual 365, 3, 5, [5004, 0, 1], 0, 0, kX5_sort) ::
  (51, .aload 7, 2, 7, [], 0, 0, zM0) ::
  (53, .invokevirtual 365, 3, 5, [5004, 0, 1], 0, 0, kX5_sort) ::
  (56, .if_icmp .eq 6, 3, 62, [], 0, 0, zM0) ::
  (59, .bipush (-13), 2, 59, [], (-13), 0, zM0) ::
  (61, .ireturn, 1, 61, [], 0, 0, zM0) :: tkX10_copy_62
def tkX10_copy_43 : List mE := (43, .bipush (-11), 2, 43, [], (-11), 0, zM0) ::
  (45, .ireturn, 1, 45, [], 0, 0, zM0) :: tkX10_copy_46
def tkX10_copy_27 : List mE := (27, .aload 6, 2, 6, [], 0, 0, zM0) ::
  (29, .invokevirtual 240, 3, 5, [3224, 0, 1], 0, 0, kX5_isMissing) ::
  (32, .ifCond .ne 11, 3, 43, [], 0, 0, zM0) ::
  (35, .aload 7, 2, 7, [], 0, 0, zM0) ::
  (37, .invokevirtual 240, 3, 5, [3224, 0, 1], 0, 0, kX5_isMissing) ::
  (40, .ifCond .eq 6, 3, 46, [], 0, 0, zM0) :: tkX10_copy_43
def tkX10_copy_24 : List mE := (24, .bipush (-2), 2, 24, [], (-2), 0, zM0) ::
  (26, .ireturn, 1, 26, [], 0, 0, zM0) :: tkX10_copy_27
def tkX10_copy_0 : List mE := (0, .aload_n 0, 1, 0, [], 0, 0, zM0) ::
  (1, .iload_n 1, 1, 1, [], 0, 0, zM0) ::
  (2, .invokevirtual 218, 3, 10, [3217, 1, 1], 0, 0, kX10_sheetAt) ::
  (5, .astore 6, 2, 6, [], 0, 0, zM0) ::
  (7, .aload_n 0, 1, 0, [], 0, 0, zM0) ::
  (8, .iload_n 3, 1, 3, [], 0, 0, zM0) ::
  (9, .invokevirtual 218, 3, 10, [3217, 1, 1], 0, 0, kX10_sheetAt) ::
  (12, .astore 7, 2, 7, [], 0, 0, zM0) ::
  (14, .aload 6, 2, 6, [], 0, 0, zM0) ::
  (16, .ifnull 8, 3, 24, [], 0, 0, zM0) ::
  (19, .aload 7, 2, 7, [], 0, 0, zM0) ::
  (21, .ifnonnull 6, 3, 27, [], 0, 0, zM0) :: tkX10_copy_24
def tkX10_copy : List mE := tkX10_copy_0
theorem zkX10_copy : zat 0 tkX10_copy = tkX10_copy_0 ∧ zat 24 tkX10_copy = tkX10_copy_24 ∧ zat 27 tkX10_copy = tkX10_copy_27 ∧ zat 43 tkX10_copy = tkX10_copy_43 ∧ zat 46 tkX10_copy = tkX10_copy_46 ∧ zat 62 tkX10_copy = tkX10_copy_62 ∧ zat 85 tkX10_copy = tkX10_copy_85 ∧ zat 88 tkX10_copy = tkX10_copy_88 := ⟨rfl, rfl, rfl, rfl, rfl, rfl, rfl, rfl⟩
theorem okX10_copy : zok kX10_copy.2.1 kX10_copy.2.2.1 kX10_copy.2.2.2.1 tkX10_copy = true := by decide +kernel
def tkX10_hens_121 : List mE := (121, .iload 6, 2, 6, [], 0, 0, zM0) ::
  (123, .ireturn, 1, 123, [], 0, 0, zM0) :: []
def tkX10_hens_115 : List mE := (115, .iinc 7 1, 3, 7, [], 1, 0, zM0) ::
  (118, .goto (-58), 3, 60, [], 0, 0, zM0) :: tkX10_hens_121
def tkX10_hens_89 : List mE := (89, .aload_n 0, 1, 0, [], 0, 0, zM0) ::
  (90, .aload 5, 2, 5, [], 0, 0, zM0) ::
  (92, .iload 8, 2, 8, [], 0, 0, zM0) ::
  (94, .invokevirtual 237, 3, 5, [3232, 1, 1], 0, 0, kX5_item) ::
  (97, .aload 5, 2, 5, [], 0, 0, zM0) ::
  (99, .iload 8, 2, 8, [], 0, 0, zM0) ::
  (101, .iconst 1, 1, 101, [], 1, 0, zM0) ::
  (102, .iadd, 1, 102, [], 0, 0, zM0) ::
  (103, .invokevirtual 237, 3, 5, [3232, 1, 1], 0, 0, kX5_item) ::
  (106, .invokevirtual 372, 3, 10, [5017, 2, 1], 0, 0, kX10_hen) ::
  (109, .ifCond .lt 6, 3, 115, [], 0, 0, zM0) ::
  (112, .iinc 6 1, 3, 6, [], 1, 0, zM0) :: tkX10_hens_115
def tkX10_hens_60 : List mE := (60, .iload 7, 2, 7, [], 0, 0, zM0) ::
  (62, .iload 4, 2, 4, [], 0, 0, zM0) ::
  (64, .if_icmp .ge 57, 3, 121, [], 0, 0, zM0) ::
  (67, .iload_n 3, 1, 3, [], 0, 0, zM0) ::
  (68, .iconst 2, 1, 68, [], 2, 0, zM0) ::
  (69, .iload 7, 2, 7, [], 0, 0, zM0) ::
  (71, .imul, 1, 71, [], 0, 0, zM0) ::
  (72, .iadd, 1, 72, [], 0, 0, zM0) ::
  (73, .istore 8, 2, 8, [], 0, 0, zM0) ::
  (75, .aload 5, 2, 5, [], 0, 0, zM0) ::
  (77, .iload 8, 2, 8, [], 0, 0, zM0) ::
  (79, .iconst 2, 1, 79, [], 2, 0, zM0) ::
  (80, .invokevirtual 362, 3, 5, [4239, 2, 1], 0, 0, kX5_hasItems) ::
  (83, .ifCond .ne 6, 3, 89, [], 0, 0, zM0) ::
  (86, .bipush (-12), 2, 86, [], (-12), 0, zM0) ::
  (88, .ireturn, 1, 88, [], 0, 0, zM0) :: tkX10_hens_89
def tkX10_hens_54 : List mE := (54, .iconst 0, 1, 54, [], 0, 0, zM0) ::
  (55, .istore 6, 2, 6, [], 0, 0, zM0) ::
  (57, .iconst 0, 1, 57, [], 0, 0, zM0) ::
  (58, .istore 7, 2, 7, [], 0, 0, zM0) :: tkX10_hens_60
def tkX10_hens_42 : List mE := (42, .aload 5, 2, 5, [], 0, 0, zM0) ::
  (44, .invokevirtual 365, 3, 5, [5004, 0, 1], 0, 0, kX5_sort) ::
  (47, .iload_n 2, 1, 2, [], 0, 0, zM0) ::
  (48, .if_icmp .eq 6, 3, 54, [], 0, 0, zM0) ::
  (51, .bipush (-13), 2, 51, [], (-13), 0, zM0) ::
  (53, .ireturn, 1, 53, [], 0, 0, zM0) :: tkX10_hens_54
def tkX10_hens_31 : List mE := (31, .aload 5, 2, 5, [], 0, 0, zM0) ::
  (33, .invokevirtual 240, 3, 5, [3224, 0, 1], 0, 0, kX5_isMissing) ::
  (36, .ifCond .eq 6, 3, 42, [], 0, 0, zM0) ::
  (39, .bipush (-11), 2, 39, [], (-11), 0, zM0) ::
  (41, .ireturn, 1, 41, [], 0, 0, zM0) :: tkX10_hens_42
def tkX10_hens_28 : List mE := (28, .bipush (-2), 2, 28, [], (-2), 0, zM0) ::
  (30, .ireturn, 1, 30, [], 0, 0, zM0) :: tkX10_hens_31
def tkX10_hens_0 : List mE := (0, .aload_n 0, 1, 0, [], 0, 0, zM0) ::
  (1, .iload_n 1, 1, 1, [], 0, 0, zM0) ::
  (2, .invokevirtual 218, 3, 10, [3217, 1, 1], 0, 0, kX10_sheetAt) ::
  (5, .astore 5, 2, 5, [], 0, 0, zM0) ::
  (7, .aload 5, 2, 5, [], 0, 0, zM0) ::
  (9, .ifnull 19, 3, 28, [], 0, 0, zM0) ::
  (12, .iload_n 2, 1, 2, [], 0, 0, zM0) ::
  (13, .invokestatic 359, 3, 0, [4232, 1, 1], 0, 0, kX10_isSort) ::
  (16, .ifCond .eq 12, 3, 28, [], 0, 0, zM0) ::
  (19, .iload 4, 2, 4, [], 0, 0, zM0) ::
  (21, .iconst 5, 1, 21, [], 5, 0, zM0) ::
  (22, .invokestatic 102, 3, 0, [3069, 2, 1], 0, 0, kX10_isFrom0To) ::
  (25, .ifCond .ne 6, 3, 31, [], 0, 0, zM0) :: tkX10_hens_28
def tkX10_hens : List mE := tkX10_hens_0
theorem zkX10_hens : zat 0 tkX10_hens = tkX10_hens_0 ∧ zat 28 tkX10_hens = tkX10_hens_28 ∧ zat 31 tkX10_hens = tkX10_hens_31 ∧ zat 42 tkX10_hens = tkX10_hens_42 ∧ zat 54 tkX10_hens = tkX10_hens_54 ∧ zat 60 tkX10_hens = tkX10_hens_60 ∧ zat 89 tkX10_hens = tkX10_hens_89 ∧ zat 115 tkX10_hens = tkX10_hens_115 ∧ zat 121 tkX10_hens = tkX10_hens_121 := ⟨rfl, rfl, rfl, rfl, rfl, rfl, rfl, rfl, rfl⟩
theorem okX10_hens : zok kX10_hens.2.1 kX10_hens.2.2.1 kX10_hens.2.2.2.1 tkX10_hens = true := by decide +kernel
def tkX10_taken_43 : List mE := (43, .ireturn, 1, 43, [], 0, 0, zM0) :: []
def tkX10_taken_41 : List mE := (41, .bipush (-13), 2, 41, [], (-13), 0, zM0) :: tkX10_taken_43
def tkX10_taken_23 : List mE := (23, .aload_n 3, 1, 3, [], 0, 0, zM0) ::
  (24, .getfield 154, 3, 0, [0, 0, 1146], 0, 0, zM0) ::
  (27, .iload_n 2, 1, 2, [], 0, 0, zM0) ::
  (28, .invokestatic 375, 3, 0, [5022, 2, 1], 0, 0, kX10_isUnder) ::
  (31, .ifCond .eq 10, 3, 41, [], 0, 0, zM0) ::
  (34, .aload_n 3, 1, 3, [], 0, 0, zM0) ::
  (35, .getfield 132, 3, 0, [1, 0, 1148], 0, 0, zM0) ::
  (38, .goto 5, 3, 43, [], 0, 0, zM0) :: tkX10_taken_41
def tkX10_taken_10 : List mE := (10, .aload_n 0, 1, 0, [], 0, 0, zM0) ::
  (11, .iload_n 1, 1, 1, [], 0, 0, zM0) ::
  (12, .invokevirtual 124, 3, 10, [3103, 1, 1], 0, 0, kX10_henAt) ::
  (15, .astore_n 3, 1, 3, [], 0, 0, zM0) ::
  (16, .aload_n 3, 1, 3, [], 0, 0, zM0) ::
  (17, .ifnonnull 6, 3, 23, [], 0, 0, zM0) ::
  (20, .bipush (-11), 2, 20, [], (-11), 0, zM0) ::
  (22, .ireturn, 1, 22, [], 0, 0, zM0) :: tkX10_taken_23
def tkX10_taken_0 : List mE := (0, .iload_n 2, 1, 2, [], 0, 0, zM0) ::
  (1, .invokestatic 141, 3, 0, [3155, 1, 1], 0, 0, kX10_isKind) ::
  (4, .ifCond .ne 6, 3, 10, [], 0, 0, zM0) ::
  (7, .bipush (-2), 2, 7, [], (-2), 0, zM0) ::
  (9, .ireturn, 1, 9, [], 0, 0, zM0) :: tkX10_taken_10
def tkX10_taken : List mE := tkX10_taken_0
theorem zkX10_taken : zat 0 tkX10_taken = tkX10_taken_0 ∧ zat 10 tkX10_taken = tkX10_taken_10 ∧ zat 23 tkX10_taken = tkX10_taken_23 ∧ zat 41 tkX10_taken = tkX10_taken_41 ∧ zat 43 tkX10_taken = tkX10_taken_43 := ⟨rfl, rfl, rfl, rfl, rfl⟩
theorem okX10_taken : zok kX10_taken.2.1 kX10_taken.2.2.1 kX10_taken.2.2.2.1 tkX10_taken = true := by decide +kernel
def tkX10_isUnder_40 : List mE := (40, .iconst 0, 1, 40, [], 0, 0, zM0) ::
  (41, .ireturn, 1, 41, [], 0, 0, zM0) :: []
def tkX10_isUnder_33 : List mE := (33, .istore_n 2, 1, 2, [], 0, 0, zM0) ::
  (34, .iinc 3 1, 3, 3, [], 1, 0, zM0) ::
  (37, .goto (-33), 3, 4, [], 0, 0, zM0) :: tkX10_isUnder_40
def tkX10_isUnder_32 : List mE := (32, .iconst (-1), 1, 32, [], (-1), 0, zM0) :: tkX10_isUnder_33
def tkX10_isUnder_27 : List mE := (27, .iload_n 2, 1, 2, [], 0, 0, zM0) ::
  (28, .iaload, 1, 1, [], 0, 0, zM0) ::
  (29, .goto 4, 3, 33, [], 0, 0, zM0) :: tkX10_isUnder_32
def tkX10_isUnder_24 : List mE := (24, .getstatic 378, 3, 24, [], 0, 0, zM0) :: tkX10_isUnder_27
def tkX10_isUnder_17 : List mE := (17, .iload_n 2, 1, 2, [], 0, 0, zM0) ::
  (18, .invokestatic 141, 3, 0, [3155, 1, 1], 0, 0, kX10_isKind) ::
  (21, .ifCond .eq 11, 3, 32, [], 0, 0, zM0) :: tkX10_isUnder_24
def tkX10_isUnder_4 : List mE := (4, .iload_n 3, 1, 3, [], 0, 0, zM0) ::
  (5, .bipush 6, 2, 5, [], 6, 0, zM0) ::
  (7, .if_icmp .ge 33, 3, 40, [], 0, 0, zM0) ::
  (10, .iload_n 2, 1, 2, [], 0, 0, zM0) ::
  (11, .iload_n 1, 1, 1, [], 0, 0, zM0) ::
  (12, .if_icmp .ne 5, 3, 17, [], 0, 0, zM0) ::
  (15, .iconst 1, 1, 15, [], 1, 0, zM0) ::
  (16, .ireturn, 1, 16, [], 0, 0, zM0) :: tkX10_isUnder_17
def tkX10_isUnder_0 : List mE := (0, .iload_n 0, 1, 0, [], 0, 0, zM0) ::
  (1, .istore_n 2, 1, 2, [], 0, 0, zM0) ::
  (2, .iconst 0, 1, 2, [], 0, 0, zM0) ::
  (3, .istore_n 3, 1, 3, [], 0, 0, zM0) :: tkX10_isUnder_4
def tkX10_isUnder : List mE := tkX10_isUnder_0
theorem zkX10_isUnder : zat 0 tkX10_isUnder = tkX10_isUnder_0 ∧ zat 4 tkX10_isUnder = tkX10_isUnder_4 ∧ zat 17 tkX10_isUnder = tkX10_isUnder_17 ∧ zat 24 tkX10_isUnder = tkX10_isUnder_24 ∧ zat 27 tkX10_isUnder = tkX10_isUnder_27 ∧ zat 32 tkX10_isUnder = tkX10_isUnder_32 ∧ zat 33 tkX10_isUnder = tkX10_isUnder_33 ∧ zat 40 tkX10_isUnder = tkX10_isUnder_40 := ⟨rfl, rfl, rfl, rfl, rfl, rfl, rfl, rfl⟩
theorem okX10_isUnder : zok kX10_isUnder.2.1 kX10_isUnder.2.2.1 kX10_isUnder.2.2.2.1 tkX10_isUnder = true := by decide +kernel
