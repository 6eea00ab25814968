/-! ===== M_tellFar ===== -/
def c_M_tellFar_195 : List eg_I := .inl (195, 1, .return_, 0, 0) :: []
def c_M_tellFar_192 : List eg_I := .inl (192, 3, .putfield 280, 12, 38) :: c_M_tellFar_195
def c_M_tellFar_190 : List eg_I := .inl (190, 2, .lload 12, 0, 0) :: c_M_tellFar_192
def c_M_tellFar_189 : List eg_I := .inl (189, 1, .aload 0, 0, 0) :: c_M_tellFar_190
def c_M_tellFar_186 : List eg_I := .inl (186, 3, .putfield 283, 12, 37) :: c_M_tellFar_189
def c_M_tellFar_185 : List eg_I := .inl (185, 1, .lmul, 0, 0) :: c_M_tellFar_186
def c_M_tellFar_183 : List eg_I := .inl (183, 2, .lload 16, 0, 0) :: c_M_tellFar_185
def c_M_tellFar_181 : List eg_I := .inl (181, 2, .lload 16, 0, 0) :: c_M_tellFar_183
def c_M_tellFar_180 : List eg_I := .inl (180, 1, .aload 0, 0, 0) :: c_M_tellFar_181
def c_M_tellFar_178 : List eg_I := .inl (178, 2, .lstore 16, 0, 0) :: c_M_tellFar_180
def c_M_tellFar_177 : List eg_I := .inl (177, 1, .lsub, 0, 0) :: c_M_tellFar_178
def c_M_tellFar_176 : List eg_I := .inl (176, 1, .lmul, 0, 0) :: c_M_tellFar_177
def c_M_tellFar_174 : List eg_I := .inl (174, 2, .lload 8, 0, 0) :: c_M_tellFar_176
def c_M_tellFar_172 : List eg_I := .inl (172, 2, .lload 6, 0, 0) :: c_M_tellFar_174
def c_M_tellFar_171 : List eg_I := .inl (171, 1, .lmul, 0, 0) :: c_M_tellFar_172
def c_M_tellFar_169 : List eg_I := .inl (169, 2, .lload 10, 0, 0) :: c_M_tellFar_171
def c_M_tellFar_167 : List eg_I := .inl (167, 2, .lload 4, 0, 0) :: c_M_tellFar_169
def c_M_tellFar_164 : List eg_I := .inl (164, 3, .goto (31), 195, 0) :: []
def c_M_tellFar_161 : List eg_I := .inl (161, 3, .putfield 283, 12, 37) :: c_M_tellFar_164
def c_M_tellFar_160 : List eg_I := .inl (160, 1, .ladd, 0, 0) :: c_M_tellFar_161
def c_M_tellFar_159 : List eg_I := .inl (159, 1, .lmul, 0, 0) :: c_M_tellFar_160
def c_M_tellFar_158 : List eg_I := .inl (158, 1, .lsub, 0, 0) :: c_M_tellFar_159
def c_M_tellFar_156 : List eg_I := .inl (156, 2, .lload 6, 0, 0) :: c_M_tellFar_158
def c_M_tellFar_154 : List eg_I := .inl (154, 2, .lload 10, 0, 0) :: c_M_tellFar_156
def c_M_tellFar_153 : List eg_I := .inl (153, 1, .lsub, 0, 0) :: c_M_tellFar_154
def c_M_tellFar_151 : List eg_I := .inl (151, 2, .lload 6, 0, 0) :: c_M_tellFar_153
def c_M_tellFar_149 : List eg_I := .inl (149, 2, .lload 10, 0, 0) :: c_M_tellFar_151
def c_M_tellFar_148 : List eg_I := .inl (148, 1, .lmul, 0, 0) :: c_M_tellFar_149
def c_M_tellFar_147 : List eg_I := .inl (147, 1, .lsub, 0, 0) :: c_M_tellFar_148
def c_M_tellFar_145 : List eg_I := .inl (145, 2, .lload 4, 0, 0) :: c_M_tellFar_147
def c_M_tellFar_143 : List eg_I := .inl (143, 2, .lload 8, 0, 0) :: c_M_tellFar_145
def c_M_tellFar_142 : List eg_I := .inl (142, 1, .lsub, 0, 0) :: c_M_tellFar_143
def c_M_tellFar_140 : List eg_I := .inl (140, 2, .lload 4, 0, 0) :: c_M_tellFar_142
def c_M_tellFar_138 : List eg_I := .inl (138, 2, .lload 8, 0, 0) :: c_M_tellFar_140
def c_M_tellFar_137 : List eg_I := .inl (137, 1, .aload 0, 0, 0) :: c_M_tellFar_138
def c_M_tellFar_134 : List eg_I := .inl (134, 3, .ifCond .lt (33), 167, 0) :: c_M_tellFar_137
def c_M_tellFar_133 : List eg_I := .inl (133, 1, .lcmp, 0, 0) :: c_M_tellFar_134
def c_M_tellFar_131 : List eg_I := .inl (131, 2, .lload 12, 0, 0) :: c_M_tellFar_133
def c_M_tellFar_129 : List eg_I := .inl (129, 2, .lload 14, 0, 0) :: c_M_tellFar_131
def c_M_tellFar_126 : List eg_I := .inl (126, 3, .goto (69), 195, 0) :: []
def c_M_tellFar_123 : List eg_I := .inl (123, 3, .putfield 283, 12, 37) :: c_M_tellFar_126
def c_M_tellFar_122 : List eg_I := .inl (122, 1, .ladd, 0, 0) :: c_M_tellFar_123
def c_M_tellFar_121 : List eg_I := .inl (121, 1, .lmul, 0, 0) :: c_M_tellFar_122
def c_M_tellFar_119 : List eg_I := .inl (119, 2, .lload 10, 0, 0) :: c_M_tellFar_121
def c_M_tellFar_117 : List eg_I := .inl (117, 2, .lload 10, 0, 0) :: c_M_tellFar_119
def c_M_tellFar_116 : List eg_I := .inl (116, 1, .lmul, 0, 0) :: c_M_tellFar_117
def c_M_tellFar_114 : List eg_I := .inl (114, 2, .lload 8, 0, 0) :: c_M_tellFar_116
def c_M_tellFar_112 : List eg_I := .inl (112, 2, .lload 8, 0, 0) :: c_M_tellFar_114
def c_M_tellFar_111 : List eg_I := .inl (111, 1, .aload 0, 0, 0) :: c_M_tellFar_112
def c_M_tellFar_108 : List eg_I := .inl (108, 3, .ifCond .gt (21), 129, 0) :: c_M_tellFar_111
def c_M_tellFar_107 : List eg_I := .inl (107, 1, .lcmp, 0, 0) :: c_M_tellFar_108
def c_M_tellFar_106 : List eg_I := .inl (106, 1, .sipush (0), 0, 0) :: c_M_tellFar_107
def c_M_tellFar_104 : List eg_I := .inl (104, 2, .lload 14, 0, 0) :: c_M_tellFar_106
def c_M_tellFar_101 : List eg_I := .inl (101, 3, .putfield 280, 12, 38) :: c_M_tellFar_104
def c_M_tellFar_100 : List eg_I := .inl (100, 1, .sipush (1), 0, 0) :: c_M_tellFar_101
def c_M_tellFar_99 : List eg_I := .inl (99, 1, .aload 0, 0, 0) :: c_M_tellFar_100
def c_M_tellFar_97 : List eg_I := .inl (97, 2, .lstore 14, 0, 0) :: c_M_tellFar_99
def c_M_tellFar_96 : List eg_I := .inl (96, 1, .ladd, 0, 0) :: c_M_tellFar_97
def c_M_tellFar_95 : List eg_I := .inl (95, 1, .lmul, 0, 0) :: c_M_tellFar_96
def c_M_tellFar_93 : List eg_I := .inl (93, 2, .lload 10, 0, 0) :: c_M_tellFar_95
def c_M_tellFar_91 : List eg_I := .inl (91, 2, .lload 6, 0, 0) :: c_M_tellFar_93
def c_M_tellFar_90 : List eg_I := .inl (90, 1, .lmul, 0, 0) :: c_M_tellFar_91
def c_M_tellFar_88 : List eg_I := .inl (88, 2, .lload 8, 0, 0) :: c_M_tellFar_90
def c_M_tellFar_86 : List eg_I := .inl (86, 2, .lload 4, 0, 0) :: c_M_tellFar_88
def c_M_tellFar_84 : List eg_I := .inl (84, 2, .lstore 12, 0, 0) :: c_M_tellFar_86
def c_M_tellFar_83 : List eg_I := .inl (83, 1, .ladd, 0, 0) :: c_M_tellFar_84
def c_M_tellFar_82 : List eg_I := .inl (82, 1, .lmul, 0, 0) :: c_M_tellFar_83
def c_M_tellFar_80 : List eg_I := .inl (80, 2, .lload 6, 0, 0) :: c_M_tellFar_82
def c_M_tellFar_78 : List eg_I := .inl (78, 2, .lload 6, 0, 0) :: c_M_tellFar_80
def c_M_tellFar_77 : List eg_I := .inl (77, 1, .lmul, 0, 0) :: c_M_tellFar_78
def c_M_tellFar_75 : List eg_I := .inl (75, 2, .lload 4, 0, 0) :: c_M_tellFar_77
def c_M_tellFar_73 : List eg_I := .inl (73, 2, .lload 4, 0, 0) :: c_M_tellFar_75
def c_M_tellFar_71 : List eg_I := .inl (71, 2, .lstore 10, 0, 0) :: c_M_tellFar_73
def c_M_tellFar_70 : List eg_I := .inl (70, 1, .i2l, 0, 0) :: c_M_tellFar_71
def c_M_tellFar_69 : List eg_I := .inl (69, 1, .isub, 0, 0) :: c_M_tellFar_70
def c_M_tellFar_68 : List eg_I := .inl (68, 1, .iaload, 0, 0) :: c_M_tellFar_69
def c_M_tellFar_67 : List eg_I := .inl (67, 1, .iload 2, 0, 0) :: c_M_tellFar_68
def c_M_tellFar_64 : List eg_I := .inl (64, 3, .getfield 63, 12, 19) :: c_M_tellFar_67
def c_M_tellFar_63 : List eg_I := .inl (63, 1, .aload 0, 0, 0) :: c_M_tellFar_64
def c_M_tellFar_62 : List eg_I := .inl (62, 1, .iaload, 0, 0) :: c_M_tellFar_63
def c_M_tellFar_61 : List eg_I := .inl (61, 1, .iload 1, 0, 0) :: c_M_tellFar_62
def c_M_tellFar_58 : List eg_I := .inl (58, 3, .getfield 16, 12, 2) :: c_M_tellFar_61
def c_M_tellFar_57 : List eg_I := .inl (57, 1, .aload 0, 0, 0) :: c_M_tellFar_58
def c_M_tellFar_55 : List eg_I := .inl (55, 2, .lstore 8, 0, 0) :: c_M_tellFar_57
def c_M_tellFar_54 : List eg_I := .inl (54, 1, .i2l, 0, 0) :: c_M_tellFar_55
def c_M_tellFar_53 : List eg_I := .inl (53, 1, .isub, 0, 0) :: c_M_tellFar_54
def c_M_tellFar_52 : List eg_I := .inl (52, 1, .iaload, 0, 0) :: c_M_tellFar_53
def c_M_tellFar_51 : List eg_I := .inl (51, 1, .iload 2, 0, 0) :: c_M_tellFar_52
def c_M_tellFar_48 : List eg_I := .inl (48, 3, .getfield 60, 12, 18) :: c_M_tellFar_51
def c_M_tellFar_47 : List eg_I := .inl (47, 1, .aload 0, 0, 0) :: c_M_tellFar_48
def c_M_tellFar_46 : List eg_I := .inl (46, 1, .iaload, 0, 0) :: c_M_tellFar_47
def c_M_tellFar_45 : List eg_I := .inl (45, 1, .iload 1, 0, 0) :: c_M_tellFar_46
def c_M_tellFar_42 : List eg_I := .inl (42, 3, .getfield 13, 12, 1) :: c_M_tellFar_45
def c_M_tellFar_41 : List eg_I := .inl (41, 1, .aload 0, 0, 0) :: c_M_tellFar_42
def c_M_tellFar_39 : List eg_I := .inl (39, 2, .lstore 6, 0, 0) :: c_M_tellFar_41
def c_M_tellFar_38 : List eg_I := .inl (38, 1, .i2l, 0, 0) :: c_M_tellFar_39
def c_M_tellFar_37 : List eg_I := .inl (37, 1, .isub, 0, 0) :: c_M_tellFar_38
def c_M_tellFar_36 : List eg_I := .inl (36, 1, .iaload, 0, 0) :: c_M_tellFar_37
def c_M_tellFar_35 : List eg_I := .inl (35, 1, .iload 2, 0, 0) :: c_M_tellFar_36
def c_M_tellFar_32 : List eg_I := .inl (32, 3, .getfield 63, 12, 19) :: c_M_tellFar_35
def c_M_tellFar_31 : List eg_I := .inl (31, 1, .aload 0, 0, 0) :: c_M_tellFar_32
def c_M_tellFar_30 : List eg_I := .inl (30, 1, .iaload, 0, 0) :: c_M_tellFar_31
def c_M_tellFar_29 : List eg_I := .inl (29, 1, .iload 3, 0, 0) :: c_M_tellFar_30
def c_M_tellFar_26 : List eg_I := .inl (26, 3, .getfield 63, 12, 19) :: c_M_tellFar_29
def c_M_tellFar_25 : List eg_I := .inl (25, 1, .aload 0, 0, 0) :: c_M_tellFar_26
def c_M_tellFar_23 : List eg_I := .inl (23, 2, .lstore 4, 0, 0) :: c_M_tellFar_25
def c_M_tellFar_22 : List eg_I := .inl (22, 1, .i2l, 0, 0) :: c_M_tellFar_23
def c_M_tellFar_21 : List eg_I := .inl (21, 1, .isub, 0, 0) :: c_M_tellFar_22
def c_M_tellFar_20 : List eg_I := .inl (20, 1, .iaload, 0, 0) :: c_M_tellFar_21
def c_M_tellFar_19 : List eg_I := .inl (19, 1, .iload 2, 0, 0) :: c_M_tellFar_20
def c_M_tellFar_16 : List eg_I := .inl (16, 3, .getfield 60, 12, 18) :: c_M_tellFar_19
def c_M_tellFar_15 : List eg_I := .inl (15, 1, .aload 0, 0, 0) :: c_M_tellFar_16
def c_M_tellFar_14 : List eg_I := .inl (14, 1, .iaload, 0, 0) :: c_M_tellFar_15
def c_M_tellFar_13 : List eg_I := .inl (13, 1, .iload 3, 0, 0) :: c_M_tellFar_14
def c_M_tellFar_10 : List eg_I := .inl (10, 3, .getfield 60, 12, 18) :: c_M_tellFar_13
def c_M_tellFar_9 : List eg_I := .inl (9, 1, .aload 0, 0, 0) :: c_M_tellFar_10
def c_M_tellFar_8 : List eg_I := .inl (8, 1, .istore 3, 0, 0) :: c_M_tellFar_9
def c_M_tellFar_7 : List eg_I := .inl (7, 1, .irem, 0, 0) :: c_M_tellFar_8
def c_M_tellFar_4 : List eg_I := .inl (4, 3, .getfield 277, 12, 17) :: c_M_tellFar_7
def c_M_tellFar_3 : List eg_I := .inl (3, 1, .aload 0, 0, 0) :: c_M_tellFar_4
def c_M_tellFar_2 : List eg_I := .inl (2, 1, .iadd, 0, 0) :: c_M_tellFar_3
def c_M_tellFar_1 : List eg_I := .inl (1, 1, .iconst (1), 0, 0) :: c_M_tellFar_2
def c_M_tellFar_0 : List eg_I := .inl (0, 1, .iload 2, 0, 0) :: c_M_tellFar_1
section
variable {rm : Room} {K : Nat → Nat → Nat → eg_Lo → List Value → List eg_E → Prop} {Q : Option Value → List eg_E → Prop} {kc ks : Nat} {loc : eg_Lo} {st : List Value} {h : List eg_E}
theorem s_M_tellFar_0 {x : Int32} {l0 l1 : Option Value} {l : eg_Lo} : wps rm K Q c_M_tellFar_0 kc ks (l0 :: l1 :: some (.int x) :: l) (st) h = wps rm K Q c_M_tellFar_1 kc ks (l0 :: l1 :: some (.int x) :: l) (.int x :: st) h := gk_iload rfl
theorem s_M_tellFar_1  : wps rm K Q c_M_tellFar_1 kc ks loc (st) h = wps rm K Q c_M_tellFar_2 kc ks loc (.int (1) :: st) h := gk_ic (by decide)
theorem s_M_tellFar_2 {x y : Int32} : wps rm K Q c_M_tellFar_2 kc ks loc (.int y :: .int x :: st) h = wps rm K Q c_M_tellFar_3 kc ks loc (.int (x + y) :: st) h := gk_iadd
theorem s_M_tellFar_3 {x : Nat} {l : eg_Lo} : wps rm K Q c_M_tellFar_3 kc ks (some (.ref x) :: l) (st) h = wps rm K Q c_M_tellFar_4 kc ks (some (.ref x) :: l) (.ref x :: st) h := gk_aload rfl
theorem s_M_tellFar_4 {x : Nat} : wps rm K Q c_M_tellFar_4 kc ks loc (.ref (x + 1) :: st) h = eg_gf h x 12 17 (fun v => wps rm K Q c_M_tellFar_7 kc ks loc (v :: st) h) := gk_gf
theorem s_M_tellFar_7 {x y : Int32} : wps rm K Q c_M_tellFar_7 kc ks loc (.int y :: .int x :: st) h = (¬ y = 0 ∧ wps rm K Q c_M_tellFar_8 kc ks loc (.int (x - x / y * y) :: st) h) := gk_irem
theorem s_M_tellFar_8 {x : Int32} : wps rm K Q c_M_tellFar_8 kc ks loc (.int x :: st) h = wps rm K Q c_M_tellFar_9 kc ks (eg_set1 loc 3 (.int x)) (st) h := gk_istore
theorem s_M_tellFar_9 {x : Nat} {l : eg_Lo} : wps rm K Q c_M_tellFar_9 kc ks (some (.ref x) :: l) (st) h = wps rm K Q c_M_tellFar_10 kc ks (some (.ref x) :: l) (.ref x :: st) h := gk_aload rfl
theorem s_M_tellFar_10 {x : Nat} : wps rm K Q c_M_tellFar_10 kc ks loc (.ref (x + 1) :: st) h = eg_gf h x 12 18 (fun v => wps rm K Q c_M_tellFar_13 kc ks loc (v :: st) h) := gk_gf
theorem s_M_tellFar_13 {x : Int32} {l0 l1 l2 : Option Value} {l : eg_Lo} : wps rm K Q c_M_tellFar_13 kc ks (l0 :: l1 :: l2 :: some (.int x) :: l) (st) h = wps rm K Q c_M_tellFar_14 kc ks (l0 :: l1 :: l2 :: some (.int x) :: l) (.int x :: st) h := gk_iload rfl
theorem s_M_tellFar_14 {x : Nat} {i : Int32} : wps rm K Q c_M_tellFar_14 kc ks loc (.int i :: .ref (x + 1) :: st) h = eg_ia h x i (fun v => wps rm K Q c_M_tellFar_15 kc ks loc (.int v :: st) h) := gk_iaload
theorem s_M_tellFar_15 {x : Nat} {l : eg_Lo} : wps rm K Q c_M_tellFar_15 kc ks (some (.ref x) :: l) (st) h = wps rm K Q c_M_tellFar_16 kc ks (some (.ref x) :: l) (.ref x :: st) h := gk_aload rfl
theorem s_M_tellFar_16 {x : Nat} : wps rm K Q c_M_tellFar_16 kc ks loc (.ref (x + 1) :: st) h = eg_gf h x 12 18 (fun v => wps rm K Q c_M_tellFar_19 kc ks loc (v :: st) h) := gk_gf
theorem s_M_tellFar_19 {x : Int32} {l0 l1 : Option Value} {l : eg_Lo} : wps rm K Q c_M_tellFar_19 kc ks (l0 :: l1 :: some (.int x) :: l) (st) h = wps rm K Q c_M_tellFar_20 kc ks (l0 :: l1 :: some (.int x) :: l) (.int x :: st) h := gk_iload rfl
theorem s_M_tellFar_20 {x : Nat} {i : Int32} : wps rm K Q c_M_tellFar_20 kc ks loc (.int i :: .ref (x + 1) :: st) h = eg_ia h x i (fun v => wps rm K Q c_M_tellFar_21 kc ks loc (.int v :: st) h) := gk_iaload
theorem s_M_tellFar_21 {x y : Int32} : wps rm K Q c_M_tellFar_21 kc ks loc (.int y :: .int x :: st) h = wps rm K Q c_M_tellFar_22 kc ks loc (.int (x - y) :: st) h := gk_isub
theorem s_M_tellFar_22 {x : Int32} : wps rm K Q c_M_tellFar_22 kc ks loc (.int x :: st) h = wps rm K Q c_M_tellFar_23 kc ks loc (.long (x.toInt64) :: st) h := gk_i2l
theorem s_M_tellFar_23 {x : Int64} : wps rm K Q c_M_tellFar_23 kc ks loc (.long x :: st) h = wps rm K Q c_M_tellFar_25 kc ks (eg_set2 loc 4 (.long x)) (st) h := gk_lstore
theorem s_M_tellFar_25 {x : Nat} {l : eg_Lo} : wps rm K Q c_M_tellFar_25 kc ks (some (.ref x) :: l) (st) h = wps rm K Q c_M_tellFar_26 kc ks (some (.ref x) :: l) (.ref x :: st) h := gk_aload rfl
theorem s_M_tellFar_26 {x : Nat} : wps rm K Q c_M_tellFar_26 kc ks loc (.ref (x + 1) :: st) h = eg_gf h x 12 19 (fun v => wps rm K Q c_M_tellFar_29 kc ks loc (v :: st) h) := gk_gf
theorem s_M_tellFar_29 {x : Int32} {l0 l1 l2 : Option Value} {l : eg_Lo} : wps rm K Q c_M_tellFar_29 kc ks (l0 :: l1 :: l2 :: some (.int x) :: l) (st) h = wps rm K Q c_M_tellFar_30 kc ks (l0 :: l1 :: l2 :: some (.int x) :: l) (.int x :: st) h := gk_iload rfl
theorem s_M_tellFar_30 {x : Nat} {i : Int32} : wps rm K Q c_M_tellFar_30 kc ks loc (.int i :: .ref (x + 1) :: st) h = eg_ia h x i (fun v => wps rm K Q c_M_tellFar_31 kc ks loc (.int v :: st) h) := gk_iaload
theorem s_M_tellFar_31 {x : Nat} {l : eg_Lo} : wps rm K Q c_M_tellFar_31 kc ks (some (.ref x) :: l) (st) h = wps rm K Q c_M_tellFar_32 kc ks (some (.ref x) :: l) (.ref x :: st) h := gk_aload rfl
theorem s_M_tellFar_32 {x : Nat} : wps rm K Q c_M_tellFar_32 kc ks loc (.ref (x + 1) :: st) h = eg_gf h x 12 19 (fun v => wps rm K Q c_M_tellFar_35 kc ks loc (v :: st) h) := gk_gf
theorem s_M_tellFar_35 {x : Int32} {l0 l1 : Option Value} {l : eg_Lo} : wps rm K Q c_M_tellFar_35 kc ks (l0 :: l1 :: some (.int x) :: l) (st) h = wps rm K Q c_M_tellFar_36 kc ks (l0 :: l1 :: some (.int x) :: l) (.int x :: st) h := gk_iload rfl
theorem s_M_tellFar_36 {x : Nat} {i : Int32} : wps rm K Q c_M_tellFar_36 kc ks loc (.int i :: .ref (x + 1) :: st) h = eg_ia h x i (fun v => wps rm K Q c_M_tellFar_37 kc ks loc (.int v :: st) h) := gk_iaload
theorem s_M_tellFar_37 {x y : Int32} : wps rm K Q c_M_tellFar_37 kc ks loc (.int y :: .int x :: st) h = wps rm K Q c_M_tellFar_38 kc ks loc (.int (x - y) :: st) h := gk_isub
theorem s_M_tellFar_38 {x : Int32} : wps rm K Q c_M_tellFar_38 kc ks loc (.int x :: st) h = wps rm K Q c_M_tellFar_39 kc ks loc (.long (x.toInt64) :: st) h := gk_i2l
theorem s_M_tellFar_39 {x : Int64} : wps rm K Q c_M_tellFar_39 kc ks loc (.long x :: st) h = wps rm K Q c_M_tellFar_41 kc ks (eg_set2 loc 6 (.long x)) (st) h := gk_lstore
theorem s_M_tellFar_41 {x : Nat} {l : eg_Lo} : wps rm K Q c_M_tellFar_41 kc ks (some (.ref x) :: l) (st) h = wps rm K Q c_M_tellFar_42 kc ks (some (.ref x) :: l) (.ref x :: st) h := gk_aload rfl
theorem s_M_tellFar_42 {x : Nat} : wps rm K Q c_M_tellFar_42 kc ks loc (.ref (x + 1) :: st) h = eg_gf h x 12 1 (fun v => wps rm K Q c_M_tellFar_45 kc ks loc (v :: st) h) := gk_gf
theorem s_M_tellFar_45 {x : Int32} {l0 : Option Value} {l : eg_Lo} : wps rm K Q c_M_tellFar_45 kc ks (l0 :: some (.int x) :: l) (st) h = wps rm K Q c_M_tellFar_46 kc ks (l0 :: some (.int x) :: l) (.int x :: st) h := gk_iload rfl
theorem s_M_tellFar_46 {x : Nat} {i : Int32} : wps rm K Q c_M_tellFar_46 kc ks loc (.int i :: .ref (x + 1) :: st) h = eg_ia h x i (fun v => wps rm K Q c_M_tellFar_47 kc ks loc (.int v :: st) h) := gk_iaload
theorem s_M_tellFar_47 {x : Nat} {l : eg_Lo} : wps rm K Q c_M_tellFar_47 kc ks (some (.ref x) :: l) (st) h = wps rm K Q c_M_tellFar_48 kc ks (some (.ref x) :: l) (.ref x :: st) h := gk_aload rfl
theorem s_M_tellFar_48 {x : Nat} : wps rm K Q c_M_tellFar_48 kc ks loc (.ref (x + 1) :: st) h = eg_gf h x 12 18 (fun v => wps rm K Q c_M_tellFar_51 kc ks loc (v :: st) h) := gk_gf
theorem s_M_tellFar_51 {x : Int32} {l0 l1 : Option Value} {l : eg_Lo} : wps rm K Q c_M_tellFar_51 kc ks (l0 :: l1 :: some (.int x) :: l) (st) h = wps rm K Q c_M_tellFar_52 kc ks (l0 :: l1 :: some (.int x) :: l) (.int x :: st) h := gk_iload rfl
theorem s_M_tellFar_52 {x : Nat} {i : Int32} : wps rm K Q c_M_tellFar_52 kc ks loc (.int i :: .ref (x + 1) :: st) h = eg_ia h x i (fun v => wps rm K Q c_M_tellFar_53 kc ks loc (.int v :: st) h) := gk_iaload
theorem s_M_tellFar_53 {x y : Int32} : wps rm K Q c_M_tellFar_53 kc ks loc (.int y :: .int x :: st) h = wps rm K Q c_M_tellFar_54 kc ks loc (.int (x - y) :: st) h := gk_isub
theorem s_M_tellFar_54 {x : Int32} : wps rm K Q c_M_tellFar_54 kc ks loc (.int x :: st) h = wps rm K Q c_M_tellFar_55 kc ks loc (.long (x.toInt64) :: st) h := gk_i2l
theorem s_M_tellFar_55 {x : Int64} : wps rm K Q c_M_tellFar_55 kc ks loc (.long x :: st) h = wps rm K Q c_M_tellFar_57 kc ks (eg_set2 loc 8 (.long x)) (st) h := gk_lstore
theorem s_M_tellFar_57 {x : Nat} {l : eg_Lo} : wps rm K Q c_M_tellFar_57 kc ks (some (.ref x) :: l) (st) h = wps rm K Q c_M_tellFar_58 kc ks (some (.ref x) :: l) (.ref x :: st) h := gk_aload rfl
theorem s_M_tellFar_58 {x : Nat} : wps rm K Q c_M_tellFar_58 kc ks loc (.ref (x + 1) :: st) h = eg_gf h x 12 2 (fun v => wps rm K Q c_M_tellFar_61 kc ks loc (v :: st) h) := gk_gf
theorem s_M_tellFar_61 {x : Int32} {l0 : Option Value} {l : eg_Lo} : wps rm K Q c_M_tellFar_61 kc ks (l0 :: some (.int x) :: l) (st) h = wps rm K Q c_M_tellFar_62 kc ks (l0 :: some (.int x) :: l) (.int x :: st) h := gk_iload rfl
theorem s_M_tellFar_62 {x : Nat} {i : Int32} : wps rm K Q c_M_tellFar_62 kc ks loc (.int i :: .ref (x + 1) :: st) h = eg_ia h x i (fun v => wps rm K Q c_M_tellFar_63 kc ks loc (.int v :: st) h) := gk_iaload
theorem s_M_tellFar_63 {x : Nat} {l : eg_Lo} : wps rm K Q c_M_tellFar_63 kc ks (some (.ref x) :: l) (st) h = wps rm K Q c_M_tellFar_64 kc ks (some (.ref x) :: l) (.ref x :: st) h := gk_aload rfl
theorem s_M_tellFar_64 {x : Nat} : wps rm K Q c_M_tellFar_64 kc ks loc (.ref (x + 1) :: st) h = eg_gf h x 12 19 (fun v => wps rm K Q c_M_tellFar_67 kc ks loc (v :: st) h) := gk_gf
theorem s_M_tellFar_67 {x : Int32} {l0 l1 : Option Value} {l : eg_Lo} : wps rm K Q c_M_tellFar_67 kc ks (l0 :: l1 :: some (.int x) :: l) (st) h = wps rm K Q c_M_tellFar_68 kc ks (l0 :: l1 :: some (.int x) :: l) (.int x :: st) h := gk_iload rfl
theorem s_M_tellFar_68 {x : Nat} {i : Int32} : wps rm K Q c_M_tellFar_68 kc ks loc (.int i :: .ref (x + 1) :: st) h = eg_ia h x i (fun v => wps rm K Q c_M_tellFar_69 kc ks loc (.int v :: st) h) := gk_iaload
theorem s_M_tellFar_69 {x y : Int32} : wps rm K Q c_M_tellFar_69 kc ks loc (.int y :: .int x :: st) h = wps rm K Q c_M_tellFar_70 kc ks loc (.int (x - y) :: st) h := gk_isub
theorem s_M_tellFar_70 {x : Int32} : wps rm K Q c_M_tellFar_70 kc ks loc (.int x :: st) h = wps rm K Q c_M_tellFar_71 kc ks loc (.long (x.toInt64) :: st) h := gk_i2l
theorem s_M_tellFar_71 {x : Int64} : wps rm K Q c_M_tellFar_71 kc ks loc (.long x :: st) h = wps rm K Q c_M_tellFar_73 kc ks (eg_set2 loc 10 (.long x)) (st) h := gk_lstore
theorem s_M_tellFar_73 {x : Int64} {l0 l1 l2 l3 : Option Value} {l : eg_Lo} : wps rm K Q c_M_tellFar_73 kc ks (l0 :: l1 :: l2 :: l3 :: some (.long x) :: l) (st) h = wps rm K Q c_M_tellFar_75 kc ks (l0 :: l1 :: l2 :: l3 :: some (.long x) :: l) (.long x :: st) h := gk_lload rfl
theorem s_M_tellFar_75 {x : Int64} {l0 l1 l2 l3 : Option Value} {l : eg_Lo} : wps rm K Q c_M_tellFar_75 kc ks (l0 :: l1 :: l2 :: l3 :: some (.long x) :: l) (st) h = wps rm K Q c_M_tellFar_77 kc ks (l0 :: l1 :: l2 :: l3 :: some (.long x) :: l) (.long x :: st) h := gk_lload rfl
theorem s_M_tellFar_77 {x y : Int64} : wps rm K Q c_M_tellFar_77 kc ks loc (.long y :: .long x :: st) h = wps rm K Q c_M_tellFar_78 kc ks loc (.long (x * y) :: st) h := gk_lmul
theorem s_M_tellFar_78 {x : Int64} {l0 l1 l2 l3 l4 l5 : Option Value} {l : eg_Lo} : wps rm K Q c_M_tellFar_78 kc ks (l0 :: l1 :: l2 :: l3 :: l4 :: l5 :: some (.long x) :: l) (st) h = wps rm K Q c_M_tellFar_80 kc ks (l0 :: l1 :: l2 :: l3 :: l4 :: l5 :: some (.long x) :: l) (.long x :: st) h := gk_lload rfl
theorem s_M_tellFar_80 {x : Int64} {l0 l1 l2 l3 l4 l5 : Option Value} {l : eg_Lo} : wps rm K Q c_M_tellFar_80 kc ks (l0 :: l1 :: l2 :: l3 :: l4 :: l5 :: some (.long x) :: l) (st) h = wps rm K Q c_M_tellFar_82 kc ks (l0 :: l1 :: l2 :: l3 :: l4 :: l5 :: some (.long x) :: l) (.long x :: st) h := gk_lload rfl
theorem s_M_tellFar_82 {x y : Int64} : wps rm K Q c_M_tellFar_82 kc ks loc (.long y :: .long x :: st) h = wps rm K Q c_M_tellFar_83 kc ks loc (.long (x * y) :: st) h := gk_lmul
theorem s_M_tellFar_83 {x y : Int64} : wps rm K Q c_M_tellFar_83 kc ks loc (.long y :: .long x :: st) h = wps rm K Q c_M_tellFar_84 kc ks loc (.long (x + y) :: st) h := gk_ladd
theorem s_M_tellFar_84 {x : Int64} : wps rm K Q c_M_tellFar_84 kc ks loc (.long x :: st) h = wps rm K Q c_M_tellFar_86 kc ks (eg_set2 loc 12 (.long x)) (st) h := gk_lstore
theorem s_M_tellFar_86 {x : Int64} {l0 l1 l2 l3 : Option Value} {l : eg_Lo} : wps rm K Q c_M_tellFar_86 kc ks (l0 :: l1 :: l2 :: l3 :: some (.long x) :: l) (st) h = wps rm K Q c_M_tellFar_88 kc ks (l0 :: l1 :: l2 :: l3 :: some (.long x) :: l) (.long x :: st) h := gk_lload rfl
theorem s_M_tellFar_88 {x : Int64} {l0 l1 l2 l3 l4 l5 l6 l7 : Option Value} {l : eg_Lo} : wps rm K Q c_M_tellFar_88 kc ks (l0 :: l1 :: l2 :: l3 :: l4 :: l5 :: l6 :: l7 :: some (.long x) :: l) (st) h = wps rm K Q c_M_tellFar_90 kc ks (l0 :: l1 :: l2 :: l3 :: l4 :: l5 :: l6 :: l7 :: some (.long x) :: l) (.long x :: st) h := gk_lload rfl
theorem s_M_tellFar_90 {x y : Int64} : wps rm K Q c_M_tellFar_90 kc ks loc (.long y :: .long x :: st) h = wps rm K Q c_M_tellFar_91 kc ks loc (.long (x * y) :: st) h := gk_lmul
theorem s_M_tellFar_91 {x : Int64} {l0 l1 l2 l3 l4 l5 : Option Value} {l : eg_Lo} : wps rm K Q c_M_tellFar_91 kc ks (l0 :: l1 :: l2 :: l3 :: l4 :: l5 :: some (.long x) :: l) (st) h = wps rm K Q c_M_tellFar_93 kc ks (l0 :: l1 :: l2 :: l3 :: l4 :: l5 :: some (.long x) :: l) (.long x :: st) h := gk_lload rfl
theorem s_M_tellFar_93 {x : Int64} {l0 l1 l2 l3 l4 l5 l6 l7 l8 l9 : Option Value} {l : eg_Lo} : wps rm K Q c_M_tellFar_93 kc ks (l0 :: l1 :: l2 :: l3 :: l4 :: l5 :: l6 :: l7 :: l8 :: l9 :: some (.long x) :: l) (st) h = wps rm K Q c_M_tellFar_95 kc ks (l0 :: l1 :: l2 :: l3 :: l4 :: l5 :: l6 :: l7 :: l8 :: l9 :: some (.long x) :: l) (.long x :: st) h := gk_lload rfl
theorem s_M_tellFar_95 {x y : Int64} : wps rm K Q c_M_tellFar_95 kc ks loc (.long y :: .long x :: st) h = wps rm K Q c_M_tellFar_96 kc ks loc (.long (x * y) :: st) h := gk_lmul
theorem s_M_tellFar_96 {x y : Int64} : wps rm K Q c_M_tellFar_96 kc ks loc (.long y :: .long x :: st) h = wps rm K Q c_M_tellFar_97 kc ks loc (.long (x + y) :: st) h := gk_ladd
theorem s_M_tellFar_97 {x : Int64} : wps rm K Q c_M_tellFar_97 kc ks loc (.long x :: st) h = wps rm K Q c_M_tellFar_99 kc ks (eg_set2 loc 14 (.long x)) (st) h := gk_lstore
theorem s_M_tellFar_99 {x : Nat} {l : eg_Lo} : wps rm K Q c_M_tellFar_99 kc ks (some (.ref x) :: l) (st) h = wps rm K Q c_M_tellFar_100 kc ks (some (.ref x) :: l) (.ref x :: st) h := gk_aload rfl
theorem s_M_tellFar_100  : wps rm K Q c_M_tellFar_100 kc ks loc (st) h = wps rm K Q c_M_tellFar_101 kc ks loc (.long (1) :: st) h := gk_lc (by decide)
theorem s_M_tellFar_101 {x : Nat} {v : Value} : wps rm K Q c_M_tellFar_101 kc ks loc (v :: .ref (x + 1) :: st) h = eg_pf h x 12 38 v (fun h9 => wps rm K Q c_M_tellFar_104 kc ks loc (st) h9) := gk_pf
theorem s_M_tellFar_104 {x : Int64} {l0 l1 l2 l3 l4 l5 l6 l7 l8 l9 l10 l11 l12 l13 : Option Value} {l : eg_Lo} : wps rm K Q c_M_tellFar_104 kc ks (l0 :: l1 :: l2 :: l3 :: l4 :: l5 :: l6 :: l7 :: l8 :: l9 :: l10 :: l11 :: l12 :: l13 :: some (.long x) :: l) (st) h = wps rm K Q c_M_tellFar_106 kc ks (l0 :: l1 :: l2 :: l3 :: l4 :: l5 :: l6 :: l7 :: l8 :: l9 :: l10 :: l11 :: l12 :: l13 :: some (.long x) :: l) (.long x :: st) h := gk_lload rfl
theorem s_M_tellFar_106  : wps rm K Q c_M_tellFar_106 kc ks loc (st) h = wps rm K Q c_M_tellFar_107 kc ks loc (.long (0) :: st) h := gk_lc (by decide)
theorem s_M_tellFar_107 {x y : Int64} : wps rm K Q c_M_tellFar_107 kc ks loc (.long y :: .long x :: st) h = wps rm K Q c_M_tellFar_108 kc ks loc (.int (lg_cmp x y) :: st) h := gk_lcmp
theorem s_M_tellFar_108 {x : Int32} : wps rm K Q c_M_tellFar_108 kc ks loc (.int x :: st) h = ((0 < x → K 129 kc ks loc st h) ∧ (¬ 0 < x → wps rm K Q c_M_tellFar_111 kc ks loc (st) h)) := gk_if1_gt
theorem s_M_tellFar_111 {x : Nat} {l : eg_Lo} : wps rm K Q c_M_tellFar_111 kc ks (some (.ref x) :: l) (st) h = wps rm K Q c_M_tellFar_112 kc ks (some (.ref x) :: l) (.ref x :: st) h := gk_aload rfl
theorem s_M_tellFar_112 {x : Int64} {l0 l1 l2 l3 l4 l5 l6 l7 : Option Value} {l : eg_Lo} : wps rm K Q c_M_tellFar_112 kc ks (l0 :: l1 :: l2 :: l3 :: l4 :: l5 :: l6 :: l7 :: some (.long x) :: l) (st) h = wps rm K Q c_M_tellFar_114 kc ks (l0 :: l1 :: l2 :: l3 :: l4 :: l5 :: l6 :: l7 :: some (.long x) :: l) (.long x :: st) h := gk_lload rfl
theorem s_M_tellFar_114 {x : Int64} {l0 l1 l2 l3 l4 l5 l6 l7 : Option Value} {l : eg_Lo} : wps rm K Q c_M_tellFar_114 kc ks (l0 :: l1 :: l2 :: l3 :: l4 :: l5 :: l6 :: l7 :: some (.long x) :: l) (st) h = wps rm K Q c_M_tellFar_116 kc ks (l0 :: l1 :: l2 :: l3 :: l4 :: l5 :: l6 :: l7 :: some (.long x) :: l) (.long x :: st) h := gk_lload rfl
theorem s_M_tellFar_116 {x y : Int64} : wps rm K Q c_M_tellFar_116 kc ks loc (.long y :: .long x :: st) h = wps rm K Q c_M_tellFar_117 kc ks loc (.long (x * y) :: st) h := gk_lmul
theorem s_M_tellFar_117 {x : Int64} {l0 l1 l2 l3 l4 l5 l6 l7 l8 l9 : Option Value} {l : eg_Lo} : wps rm K Q c_M_tellFar_117 kc ks (l0 :: l1 :: l2 :: l3 :: l4 :: l5 :: l6 :: l7 :: l8 :: l9 :: some (.long x) :: l) (st) h = wps rm K Q c_M_tellFar_119 kc ks (l0 :: l1 :: l2 :: l3 :: l4 :: l5 :: l6 :: l7 :: l8 :: l9 :: some (.long x) :: l) (.long x :: st) h := gk_lload rfl
theorem s_M_tellFar_119 {x : Int64} {l0 l1 l2 l3 l4 l5 l6 l7 l8 l9 : Option Value} {l : eg_Lo} : wps rm K Q c_M_tellFar_119 kc ks (l0 :: l1 :: l2 :: l3 :: l4 :: l5 :: l6 :: l7 :: l8 :: l9 :: some (.long x) :: l) (st) h = wps rm K Q c_M_tellFar_121 kc ks (l0 :: l1 :: l2 :: l3 :: l4 :: l5 :: l6 :: l7 :: l8 :: l9 :: some (.long x) :: l) (.long x :: st) h := gk_lload rfl
theorem s_M_tellFar_121 {x y : Int64} : wps rm K Q c_M_tellFar_121 kc ks loc (.long y :: .long x :: st) h = wps rm K Q c_M_tellFar_122 kc ks loc (.long (x * y) :: st) h := gk_lmul
theorem s_M_tellFar_122 {x y : Int64} : wps rm K Q c_M_tellFar_122 kc ks loc (.long y :: .long x :: st) h = wps rm K Q c_M_tellFar_123 kc ks loc (.long (x + y) :: st) h := gk_ladd
theorem s_M_tellFar_123 {x : Nat} {v : Value} : wps rm K Q c_M_tellFar_123 kc ks loc (v :: .ref (x + 1) :: st) h = eg_pf h x 12 37 v (fun h9 => wps rm K Q c_M_tellFar_126 kc ks loc (st) h9) := gk_pf
theorem s_M_tellFar_126  : wps rm K Q c_M_tellFar_126 kc ks loc (st) h = K 195 kc ks loc st h := gk_goto
theorem s_M_tellFar_129 {x : Int64} {l0 l1 l2 l3 l4 l5 l6 l7 l8 l9 l10 l11 l12 l13 : Option Value} {l : eg_Lo} : wps rm K Q c_M_tellFar_129 kc ks (l0 :: l1 :: l2 :: l3 :: l4 :: l5 :: l6 :: l7 :: l8 :: l9 :: l10 :: l11 :: l12 :: l13 :: some (.long x) :: l) (st) h = wps rm K Q c_M_tellFar_131 kc ks (l0 :: l1 :: l2 :: l3 :: l4 :: l5 :: l6 :: l7 :: l8 :: l9 :: l10 :: l11 :: l12 :: l13 :: some (.long x) :: l) (.long x :: st) h := gk_lload rfl
theorem s_M_tellFar_131 {x : Int64} {l0 l1 l2 l3 l4 l5 l6 l7 l8 l9 l10 l11 : Option Value} {l : eg_Lo} : wps rm K Q c_M_tellFar_131 kc ks (l0 :: l1 :: l2 :: l3 :: l4 :: l5 :: l6 :: l7 :: l8 :: l9 :: l10 :: l11 :: some (.long x) :: l) (st) h = wps rm K Q c_M_tellFar_133 kc ks (l0 :: l1 :: l2 :: l3 :: l4 :: l5 :: l6 :: l7 :: l8 :: l9 :: l10 :: l11 :: some (.long x) :: l) (.long x :: st) h := gk_lload rfl
theorem s_M_tellFar_133 {x y : Int64} : wps rm K Q c_M_tellFar_133 kc ks loc (.long y :: .long x :: st) h = wps rm K Q c_M_tellFar_134 kc ks loc (.int (lg_cmp x y) :: st) h := gk_lcmp
theorem s_M_tellFar_134 {x : Int32} : wps rm K Q c_M_tellFar_134 kc ks loc (.int x :: st) h = ((x < 0 → K 167 kc ks loc st h) ∧ (¬ x < 0 → wps rm K Q c_M_tellFar_137 kc ks loc (st) h)) := gk_if1_lt
theorem s_M_tellFar_137 {x : Nat} {l : eg_Lo} : wps rm K Q c_M_tellFar_137 kc ks (some (.ref x) :: l) (st) h = wps rm K Q c_M_tellFar_138 kc ks (some (.ref x) :: l) (.ref x :: st) h := gk_aload rfl
theorem s_M_tellFar_138 {x : Int64} {l0 l1 l2 l3 l4 l5 l6 l7 : Option Value} {l : eg_Lo} : wps rm K Q c_M_tellFar_138 kc ks (l0 :: l1 :: l2 :: l3 :: l4 :: l5 :: l6 :: l7 :: some (.long x) :: l) (st) h = wps rm K Q c_M_tellFar_140 kc ks (l0 :: l1 :: l2 :: l3 :: l4 :: l5 :: l6 :: l7 :: some (.long x) :: l) (.long x :: st) h := gk_lload rfl
theorem s_M_tellFar_140 {x : Int64} {l0 l1 l2 l3 : Option Value} {l : eg_Lo} : wps rm K Q c_M_tellFar_140 kc ks (l0 :: l1 :: l2 :: l3 :: some (.long x) :: l) (st) h = wps rm K Q c_M_tellFar_142 kc ks (l0 :: l1 :: l2 :: l3 :: some (.long x) :: l) (.long x :: st) h := gk_lload rfl
theorem s_M_tellFar_142 {x y : Int64} : wps rm K Q c_M_tellFar_142 kc ks loc (.long y :: .long x :: st) h = wps rm K Q c_M_tellFar_143 kc ks loc (.long (x - y) :: st) h := gk_lsub
theorem s_M_tellFar_143 {x : Int64} {l0 l1 l2 l3 l4 l5 l6 l7 : Option Value} {l : eg_Lo} : wps rm K Q c_M_tellFar_143 kc ks (l0 :: l1 :: l2 :: l3 :: l4 :: l5 :: l6 :: l7 :: some (.long x) :: l) (st) h = wps rm K Q c_M_tellFar_145 kc ks (l0 :: l1 :: l2 :: l3 :: l4 :: l5 :: l6 :: l7 :: some (.long x) :: l) (.long x :: st) h := gk_lload rfl
theorem s_M_tellFar_145 {x : Int64} {l0 l1 l2 l3 : Option Value} {l : eg_Lo} : wps rm K Q c_M_tellFar_145 kc ks (l0 :: l1 :: l2 :: l3 :: some (.long x) :: l) (st) h = wps rm K Q c_M_tellFar_147 kc ks (l0 :: l1 :: l2 :: l3 :: some (.long x) :: l) (.long x :: st) h := gk_lload rfl
theorem s_M_tellFar_147 {x y : Int64} : wps rm K Q c_M_tellFar_147 kc ks loc (.long y :: .long x :: st) h = wps rm K Q c_M_tellFar_148 kc ks loc (.long (x - y) :: st) h := gk_lsub
theorem s_M_tellFar_148 {x y : Int64} : wps rm K Q c_M_tellFar_148 kc ks loc (.long y :: .long x :: st) h = wps rm K Q c_M_tellFar_149 kc ks loc (.long (x * y) :: st) h := gk_lmul
theorem s_M_tellFar_149 {x : Int64} {l0 l1 l2 l3 l4 l5 l6 l7 l8 l9 : Option Value} {l : eg_Lo} : wps rm K Q c_M_tellFar_149 kc ks (l0 :: l1 :: l2 :: l3 :: l4 :: l5 :: l6 :: l7 :: l8 :: l9 :: some (.long x) :: l) (st) h = wps rm K Q c_M_tellFar_151 kc ks (l0 :: l1 :: l2 :: l3 :: l4 :: l5 :: l6 :: l7 :: l8 :: l9 :: some (.long x) :: l) (.long x :: st) h := gk_lload rfl
theorem s_M_tellFar_151 {x : Int64} {l0 l1 l2 l3 l4 l5 : Option Value} {l : eg_Lo} : wps rm K Q c_M_tellFar_151 kc ks (l0 :: l1 :: l2 :: l3 :: l4 :: l5 :: some (.long x) :: l) (st) h = wps rm K Q c_M_tellFar_153 kc ks (l0 :: l1 :: l2 :: l3 :: l4 :: l5 :: some (.long x) :: l) (.long x :: st) h := gk_lload rfl
theorem s_M_tellFar_153 {x y : Int64} : wps rm K Q c_M_tellFar_153 kc ks loc (.long y :: .long x :: st) h = wps rm K Q c_M_tellFar_154 kc ks loc (.long (x - y) :: st) h := gk_lsub
theorem s_M_tellFar_154 {x : Int64} {l0 l1 l2 l3 l4 l5 l6 l7 l8 l9 : Option Value} {l : eg_Lo} : wps rm K Q c_M_tellFar_154 kc ks (l0 :: l1 :: l2 :: l3 :: l4 :: l5 :: l6 :: l7 :: l8 :: l9 :: some (.long x) :: l) (st) h = wps rm K Q c_M_tellFar_156 kc ks (l0 :: l1 :: l2 :: l3 :: l4 :: l5 :: l6 :: l7 :: l8 :: l9 :: some (.long x) :: l) (.long x :: st) h := gk_lload rfl
theorem s_M_tellFar_156 {x : Int64} {l0 l1 l2 l3 l4 l5 : Option Value} {l : eg_Lo} : wps rm K Q c_M_tellFar_156 kc ks (l0 :: l1 :: l2 :: l3 :: l4 :: l5 :: some (.long x) :: l) (st) h = wps rm K Q c_M_tellFar_158 kc ks (l0 :: l1 :: l2 :: l3 :: l4 :: l5 :: some (.long x) :: l) (.long x :: st) h := gk_lload rfl
theorem s_M_tellFar_158 {x y : Int64} : wps rm K Q c_M_tellFar_158 kc ks loc (.long y :: .long x :: st) h = wps rm K Q c_M_tellFar_159 kc ks loc (.long (x - y) :: st) h := gk_lsub
theorem s_M_tellFar_159 {x y : Int64} : wps rm K Q c_M_tellFar_159 kc ks loc (.long y :: .long x :: st) h = wps rm K Q c_M_tellFar_160 kc ks loc (.long (x * y) :: st) h := gk_lmul
theorem s_M_tellFar_160 {x y : Int64} : wps rm K Q c_M_tellFar_160 kc ks loc (.long y :: .long x :: st) h = wps rm K Q c_M_tellFar_161 kc ks loc (.long (x + y) :: st) h := gk_ladd
theorem s_M_tellFar_161 {x : Nat} {v : Value} : wps rm K Q c_M_tellFar_161 kc ks loc (v :: .ref (x + 1) :: st) h = eg_pf h x 12 37 v (fun h9 => wps rm K Q c_M_tellFar_164 kc ks loc (st) h9) := gk_pf
theorem s_M_tellFar_164  : wps rm K Q c_M_tellFar_164 kc ks loc (st) h = K 195 kc ks loc st h := gk_goto
theorem s_M_tellFar_167 {x : Int64} {l0 l1 l2 l3 : Option Value} {l : eg_Lo} : wps rm K Q c_M_tellFar_167 kc ks (l0 :: l1 :: l2 :: l3 :: some (.long x) :: l) (st) h = wps rm K Q c_M_tellFar_169 kc ks (l0 :: l1 :: l2 :: l3 :: some (.long x) :: l) (.long x :: st) h := gk_lload rfl
theorem s_M_tellFar_169 {x : Int64} {l0 l1 l2 l3 l4 l5 l6 l7 l8 l9 : Option Value} {l : eg_Lo} : wps rm K Q c_M_tellFar_169 kc ks (l0 :: l1 :: l2 :: l3 :: l4 :: l5 :: l6 :: l7 :: l8 :: l9 :: some (.long x) :: l) (st) h = wps rm K Q c_M_tellFar_171 kc ks (l0 :: l1 :: l2 :: l3 :: l4 :: l5 :: l6 :: l7 :: l8 :: l9 :: some (.long x) :: l) (.long x :: st) h := gk_lload rfl
theorem s_M_tellFar_171 {x y : Int64} : wps rm K Q c_M_tellFar_171 kc ks loc (.long y :: .long x :: st) h = wps rm K Q c_M_tellFar_172 kc ks loc (.long (x * y) :: st) h := gk_lmul
theorem s_M_tellFar_172 {x : Int64} {l0 l1 l2 l3 l4 l5 : Option Value} {l : eg_Lo} : wps rm K Q c_M_tellFar_172 kc ks (l0 :: l1 :: l2 :: l3 :: l4 :: l5 :: some (.long x) :: l) (st) h = wps rm K Q c_M_tellFar_174 kc ks (l0 :: l1 :: l2 :: l3 :: l4 :: l5 :: some (.long x) :: l) (.long x :: st) h := gk_lload rfl
theorem s_M_tellFar_174 {x : Int64} {l0 l1 l2 l3 l4 l5 l6 l7 : Option Value} {l : eg_Lo} : wps rm K Q c_M_tellFar_174 kc ks (l0 :: l1 :: l2 :: l3 :: l4 :: l5 :: l6 :: l7 :: some (.long x) :: l) (st) h = wps rm K Q c_M_tellFar_176 kc ks (l0 :: l1 :: l2 :: l3 :: l4 :: l5 :: l6 :: l7 :: some (.long x) :: l) (.long x :: st) h := gk_lload rfl
theorem s_M_tellFar_176 {x y : Int64} : wps rm K Q c_M_tellFar_176 kc ks loc (.long y :: .long x :: st) h = wps rm K Q c_M_tellFar_177 kc ks loc (.long (x * y) :: st) h := gk_lmul
theorem s_M_tellFar_177 {x y : Int64} : wps rm K Q c_M_tellFar_177 kc ks loc (.long y :: .long x :: st) h = wps rm K Q c_M_tellFar_178 kc ks loc (.long (x - y) :: st) h := gk_lsub
theorem s_M_tellFar_178 {x : Int64} : wps rm K Q c_M_tellFar_178 kc ks loc (.long x :: st) h = wps rm K Q c_M_tellFar_180 kc ks (eg_set2 loc 16 (.long x)) (st) h := gk_lstore
theorem s_M_tellFar_180 {x : Nat} {l : eg_Lo} : wps rm K Q c_M_tellFar_180 kc ks (some (.ref x) :: l) (st) h = wps rm K Q c_M_tellFar_181 kc ks (some (.ref x) :: l) (.ref x :: st) h := gk_aload rfl
theorem s_M_tellFar_181 {x : Int64} {l0 l1 l2 l3 l4 l5 l6 l7 l8 l9 l10 l11 l12 l13 l14 l15 : Option Value} {l : eg_Lo} : wps rm K Q c_M_tellFar_181 kc ks (l0 :: l1 :: l2 :: l3 :: l4 :: l5 :: l6 :: l7 :: l8 :: l9 :: l10 :: l11 :: l12 :: l13 :: l14 :: l15 :: some (.long x) :: l) (st) h = wps rm K Q c_M_tellFar_183 kc ks (l0 :: l1 :: l2 :: l3 :: l4 :: l5 :: l6 :: l7 :: l8 :: l9 :: l10 :: l11 :: l12 :: l13 :: l14 :: l15 :: some (.long x) :: l) (.long x :: st) h := gk_lload rfl
theorem s_M_tellFar_183 {x : Int64} {l0 l1 l2 l3 l4 l5 l6 l7 l8 l9 l10 l11 l12 l13 l14 l15 : Option Value} {l : eg_Lo} : wps rm K Q c_M_tellFar_183 kc ks (l0 :: l1 :: l2 :: l3 :: l4 :: l5 :: l6 :: l7 :: l8 :: l9 :: l10 :: l11 :: l12 :: l13 :: l14 :: l15 :: some (.long x) :: l) (st) h = wps rm K Q c_M_tellFar_185 kc ks (l0 :: l1 :: l2 :: l3 :: l4 :: l5 :: l6 :: l7 :: l8 :: l9 :: l10 :: l11 :: l12 :: l13 :: l14 :: l15 :: some (.long x) :: l) (.long x :: st) h := gk_lload rfl
theorem s_M_tellFar_185 {x y : Int64} : wps rm K Q c_M_tellFar_185 kc ks loc (.long y :: .long x :: st) h = wps rm K Q c_M_tellFar_186 kc ks loc (.long (x * y) :: st) h := gk_lmul
theorem s_M_tellFar_186 {x : Nat} {v : Value} : wps rm K Q c_M_tellFar_186 kc ks loc (v :: .ref (x + 1) :: st) h = eg_pf h x 12 37 v (fun h9 => wps rm K Q c_M_tellFar_189 kc ks loc (st) h9) := gk_pf
theorem s_M_tellFar_189 {x : Nat} {l : eg_Lo} : wps rm K Q c_M_tellFar_189 kc ks (some (.ref x) :: l) (st) h = wps rm K Q c_M_tellFar_190 kc ks (some (.ref x) :: l) (.ref x :: st) h := gk_aload rfl
theorem s_M_tellFar_190 {x : Int64} {l0 l1 l2 l3 l4 l5 l6 l7 l8 l9 l10 l11 : Option Value} {l : eg_Lo} : wps rm K Q c_M_tellFar_190 kc ks (l0 :: l1 :: l2 :: l3 :: l4 :: l5 :: l6 :: l7 :: l8 :: l9 :: l10 :: l11 :: some (.long x) :: l) (st) h = wps rm K Q c_M_tellFar_192 kc ks (l0 :: l1 :: l2 :: l3 :: l4 :: l5 :: l6 :: l7 :: l8 :: l9 :: l10 :: l11 :: some (.long x) :: l) (.long x :: st) h := gk_lload rfl
theorem s_M_tellFar_192 {x : Nat} {v : Value} : wps rm K Q c_M_tellFar_192 kc ks loc (v :: .ref (x + 1) :: st) h = eg_pf h x 12 38 v (fun h9 => wps rm K Q c_M_tellFar_195 kc ks loc (st) h9) := gk_pf
theorem s_M_tellFar_195  : wps rm K Q c_M_tellFar_195 kc ks loc ([]) h = (kc = rm.cells ∧ Q none h) := gk_vret
def T_M_tellFar : List (Nat × List eg_I) := [(129, c_M_tellFar_129), (167, c_M_tellFar_167), (195, c_M_tellFar_195)]
theorem j_M_tellFar_129 {R : Nat → Nat → Nat → eg_Lo → List Value → List eg_E → Prop} {f pc0 : Nat} : eg_run rm R Q T_M_tellFar (f + 1) 129 kc ks loc st h = wps rm (eg_run rm R Q T_M_tellFar f) Q c_M_tellFar_129 kc ks loc st h := rfl
theorem j_M_tellFar_167 {R : Nat → Nat → Nat → eg_Lo → List Value → List eg_E → Prop} {f pc0 : Nat} : eg_run rm R Q T_M_tellFar (f + 1) 167 kc ks loc st h = wps rm (eg_run rm R Q T_M_tellFar f) Q c_M_tellFar_167 kc ks loc st h := rfl
theorem j_M_tellFar_195 {R : Nat → Nat → Nat → eg_Lo → List Value → List eg_E → Prop} {f pc0 : Nat} : eg_run rm R Q T_M_tellFar (f + 1) 195 kc ks loc st h = wps rm (eg_run rm R Q T_M_tellFar f) Q c_M_tellFar_195 kc ks loc st h := rfl
end
theorem y_M_tellFar_0 : eg_seq m_M_tellFar 0 c_M_tellFar_0 = true := by decide +kernel
theorem y_M_tellFar_129 : eg_seq m_M_tellFar 129 c_M_tellFar_129 = true := by decide +kernel
theorem y_M_tellFar_167 : eg_seq m_M_tellFar 167 c_M_tellFar_167 = true := by decide +kernel
theorem q_M_tellFar : ∀ q ∈ T_M_tellFar, eg_seq m_M_tellFar q.1 q.2 = true := by
  intro q hq
  simp only [T_M_tellFar, List.mem_cons, List.not_mem_nil, or_false] at hq
  rcases hq with rfl | rfl | rfl
  · exact y_M_tellFar_129
  · exact y_M_tellFar_167
  · exact (eg_seq_drop y_M_tellFar_167 16 : eg_seq m_M_tellFar 195 c_M_tellFar_195 = true)
theorem md_M_tellFar : eg_md n_M_tellFar = m_M_tellFar := rfl
theorem mn_M_tellFar : n_M_tellFar < 202 := Nat.le_of_ble_eq_true rfl
theorem b_M_tellFar {as : List Value} {h : List eg_E} {Q : Option Value → List eg_E → Prop} (hf : (eg_fl as).length ≤ 18) : wps (eg_rm m_M_tellFar) (eg_run (eg_rm m_M_tellFar) (eg_R m_M_tellFar Q (h.length + 0)) Q T_M_tellFar 5) Q c_M_tellFar_0 0 0 (eg_entry 18 as) [] h → eg_Runs n_M_tellFar as h Q := eg_begin2 md_M_tellFar mn_M_tellFar y_M_tellFar_0 q_M_tellFar hf
/-! ===== M_nearestOf ===== -/
def z_M_nearestOf_22 : List eg_I := [.inl (22, 0, .nop, 0, 0)]
def c_M_nearestOf_82 : List eg_I := .inl (82, 1, .ireturn, 0, 0) :: []
def c_M_nearestOf_81 : List eg_I := .inl (81, 1, .iload 2, 0, 0) :: c_M_nearestOf_82
def c_M_nearestOf_78 : List eg_I := .inr (78, 1, 286, n_M_tellFar, 2, 12, 0, 0) :: c_M_nearestOf_81
def c_M_nearestOf_77 : List eg_I := .inl (77, 1, .iload 2, 0, 0) :: c_M_nearestOf_78
def c_M_nearestOf_76 : List eg_I := .inl (76, 1, .iload 1, 0, 0) :: c_M_nearestOf_77
def c_M_nearestOf_75 : List eg_I := .inl (75, 1, .aload 0, 0, 0) :: c_M_nearestOf_76
def c_M_nearestOf_72 : List eg_I := .inl (72, 3, .goto (-50), 22, 0) :: []
def c_M_nearestOf_69 : List eg_I := .inl (69, 3, .iinc 7 (1), 0, 0) :: c_M_nearestOf_72
def c_M_nearestOf_67 : List eg_I := .inl (67, 2, .lstore 5, 0, 0) :: c_M_nearestOf_69
def c_M_nearestOf_64 : List eg_I := .inl (64, 3, .getfield 280, 12, 38) :: c_M_nearestOf_67
def c_M_nearestOf_63 : List eg_I := .inl (63, 1, .aload 0, 0, 0) :: c_M_nearestOf_64
def c_M_nearestOf_62 : List eg_I := .inl (62, 1, .lstore 3, 0, 0) :: c_M_nearestOf_63
def c_M_nearestOf_59 : List eg_I := .inl (59, 3, .getfield 283, 12, 37) :: c_M_nearestOf_62
def c_M_nearestOf_58 : List eg_I := .inl (58, 1, .aload 0, 0, 0) :: c_M_nearestOf_59
def c_M_nearestOf_57 : List eg_I := .inl (57, 1, .istore 2, 0, 0) :: c_M_nearestOf_58
def c_M_nearestOf_55 : List eg_I := .inl (55, 2, .iload 7, 0, 0) :: c_M_nearestOf_57
def c_M_nearestOf_52 : List eg_I := .inl (52, 3, .ifCond .eq (17), 69, 0) :: c_M_nearestOf_55
def c_M_nearestOf_49 : List eg_I := .inr (49, 0, 192, n_M_isLess, 4, 12, 0, 0) :: c_M_nearestOf_52
def c_M_nearestOf_47 : List eg_I := .inl (47, 2, .lload 5, 0, 0) :: c_M_nearestOf_49
def c_M_nearestOf_46 : List eg_I := .inl (46, 1, .lload 3, 0, 0) :: c_M_nearestOf_47
def c_M_nearestOf_43 : List eg_I := .inl (43, 3, .getfield 280, 12, 38) :: c_M_nearestOf_46
def c_M_nearestOf_42 : List eg_I := .inl (42, 1, .aload 0, 0, 0) :: c_M_nearestOf_43
def c_M_nearestOf_39 : List eg_I := .inl (39, 3, .getfield 283, 12, 37) :: c_M_nearestOf_42
def c_M_nearestOf_38 : List eg_I := .inl (38, 1, .aload 0, 0, 0) :: c_M_nearestOf_39
def c_M_nearestOf_35 : List eg_I := .inr (35, 1, 286, n_M_tellFar, 2, 12, 0, 0) :: c_M_nearestOf_38
def c_M_nearestOf_33 : List eg_I := .inl (33, 2, .iload 7, 0, 0) :: c_M_nearestOf_35
def c_M_nearestOf_32 : List eg_I := .inl (32, 1, .iload 1, 0, 0) :: c_M_nearestOf_33
def c_M_nearestOf_31 : List eg_I := .inl (31, 1, .aload 0, 0, 0) :: c_M_nearestOf_32
def c_M_nearestOf_28 : List eg_I := .inl (28, 3, .if_icmp .ge (47), 75, 0) :: c_M_nearestOf_31
def c_M_nearestOf_25 : List eg_I := .inl (25, 3, .getfield 277, 12, 17) :: c_M_nearestOf_28
def c_M_nearestOf_24 : List eg_I := .inl (24, 1, .aload 0, 0, 0) :: c_M_nearestOf_25
def c_M_nearestOf_22 : List eg_I := .inl (22, 2, .iload 7, 0, 0) :: c_M_nearestOf_24
def c_M_nearestOf_20 : List eg_I := .inl (20, 2, .istore 7, 0, 0) :: z_M_nearestOf_22
def c_M_nearestOf_19 : List eg_I := .inl (19, 1, .iconst (1), 0, 0) :: c_M_nearestOf_20
def c_M_nearestOf_17 : List eg_I := .inl (17, 2, .lstore 5, 0, 0) :: c_M_nearestOf_19
def c_M_nearestOf_14 : List eg_I := .inl (14, 3, .getfield 280, 12, 38) :: c_M_nearestOf_17
def c_M_nearestOf_13 : List eg_I := .inl (13, 1, .aload 0, 0, 0) :: c_M_nearestOf_14
def c_M_nearestOf_12 : List eg_I := .inl (12, 1, .lstore 3, 0, 0) :: c_M_nearestOf_13
def c_M_nearestOf_9 : List eg_I := .inl (9, 3, .getfield 283, 12, 37) :: c_M_nearestOf_12
def c_M_nearestOf_8 : List eg_I := .inl (8, 1, .aload 0, 0, 0) :: c_M_nearestOf_9
def c_M_nearestOf_5 : List eg_I := .inr (5, 1, 286, n_M_tellFar, 2, 12, 0, 0) :: c_M_nearestOf_8
def c_M_nearestOf_4 : List eg_I := .inl (4, 1, .iconst (0), 0, 0) :: c_M_nearestOf_5
def c_M_nearestOf_3 : List eg_I := .inl (3, 1, .iload 1, 0, 0) :: c_M_nearestOf_4
def c_M_nearestOf_2 : List eg_I := .inl (2, 1, .aload 0, 0, 0) :: c_M_nearestOf_3
def c_M_nearestOf_1 : List eg_I := .inl (1, 1, .istore 2, 0, 0) :: c_M_nearestOf_2
def c_M_nearestOf_0 : List eg_I := .inl (0, 1, .iconst (0), 0, 0) :: c_M_nearestOf_1
section
variable {rm : Room} {K : Nat → Nat → Nat → eg_Lo → List Value → List eg_E → Prop} {Q : Option Value → List eg_E → Prop} {kc ks : Nat} {loc : eg_Lo} {st : List Value} {h : List eg_E}
theorem s_M_nearestOf_0  : wps rm K Q c_M_nearestOf_0 kc ks loc (st) h = wps rm K Q c_M_nearestOf_1 kc ks loc (.int (0) :: st) h := gk_ic (by decide)
theorem s_M_nearestOf_1 {x : Int32} : wps rm K Q c_M_nearestOf_1 kc ks loc (.int x :: st) h = wps rm K Q c_M_nearestOf_2 kc ks (eg_set1 loc 2 (.int x)) (st) h := gk_istore
theorem s_M_nearestOf_2 {x : Nat} {l : eg_Lo} : wps rm K Q c_M_nearestOf_2 kc ks (some (.ref x) :: l) (st) h = wps rm K Q c_M_nearestOf_3 kc ks (some (.ref x) :: l) (.ref x :: st) h := gk_aload rfl
theorem s_M_nearestOf_3 {x : Int32} {l0 : Option Value} {l : eg_Lo} : wps rm K Q c_M_nearestOf_3 kc ks (l0 :: some (.int x) :: l) (st) h = wps rm K Q c_M_nearestOf_4 kc ks (l0 :: some (.int x) :: l) (.int x :: st) h := gk_iload rfl
theorem s_M_nearestOf_4  : wps rm K Q c_M_nearestOf_4 kc ks loc (st) h = wps rm K Q c_M_nearestOf_5 kc ks loc (.int (0) :: st) h := gk_ic (by decide)
theorem s_M_nearestOf_5  {a1 : Value} {a2 : Value} {x : Nat} : wps rm K Q c_M_nearestOf_5 kc ks loc (a2 :: a1 :: .ref (x + 1) :: st) h = (eg_cls h x 12 ∧ st.length ≤ 4 ∧ eg_Cs n_M_tellFar (.ref (x + 1) :: [a1, a2]) h (fun v h9 => wps rm K Q c_M_nearestOf_8 kc ks loc (v.toList ++ st) h9)) := eg_c1_2
theorem s_M_nearestOf_8 {x : Nat} {l : eg_Lo} : wps rm K Q c_M_nearestOf_8 kc ks (some (.ref x) :: l) (st) h = wps rm K Q c_M_nearestOf_9 kc ks (some (.ref x) :: l) (.ref x :: st) h := gk_aload rfl
theorem s_M_nearestOf_9 {x : Nat} : wps rm K Q c_M_nearestOf_9 kc ks loc (.ref (x + 1) :: st) h = eg_gf h x 12 37 (fun v => wps rm K Q c_M_nearestOf_12 kc ks loc (v :: st) h) := gk_gf
theorem s_M_nearestOf_12 {x : Int64} : wps rm K Q c_M_nearestOf_12 kc ks loc (.long x :: st) h = wps rm K Q c_M_nearestOf_13 kc ks (eg_set2 loc 3 (.long x)) (st) h := gk_lstore
theorem s_M_nearestOf_13 {x : Nat} {l : eg_Lo} : wps rm K Q c_M_nearestOf_13 kc ks (some (.ref x) :: l) (st) h = wps rm K Q c_M_nearestOf_14 kc ks (some (.ref x) :: l) (.ref x :: st) h := gk_aload rfl
theorem s_M_nearestOf_14 {x : Nat} : wps rm K Q c_M_nearestOf_14 kc ks loc (.ref (x + 1) :: st) h = eg_gf h x 12 38 (fun v => wps rm K Q c_M_nearestOf_17 kc ks loc (v :: st) h) := gk_gf
theorem s_M_nearestOf_17 {x : Int64} : wps rm K Q c_M_nearestOf_17 kc ks loc (.long x :: st) h = wps rm K Q c_M_nearestOf_19 kc ks (eg_set2 loc 5 (.long x)) (st) h := gk_lstore
theorem s_M_nearestOf_19  : wps rm K Q c_M_nearestOf_19 kc ks loc (st) h = wps rm K Q c_M_nearestOf_20 kc ks loc (.int (1) :: st) h := gk_ic (by decide)
theorem s_M_nearestOf_20 {x : Int32} : wps rm K Q c_M_nearestOf_20 kc ks loc (.int x :: st) h = wps rm K Q z_M_nearestOf_22 kc ks (eg_set1 loc 7 (.int x)) (st) h := gk_istore
theorem s_M_nearestOf_22 {x : Int32} {l0 l1 l2 l3 l4 l5 l6 : Option Value} {l : eg_Lo} : wps rm K Q c_M_nearestOf_22 kc ks (l0 :: l1 :: l2 :: l3 :: l4 :: l5 :: l6 :: some (.int x) :: l) (st) h = wps rm K Q c_M_nearestOf_24 kc ks (l0 :: l1 :: l2 :: l3 :: l4 :: l5 :: l6 :: some (.int x) :: l) (.int x :: st) h := gk_iload rfl
theorem s_M_nearestOf_24 {x : Nat} {l : eg_Lo} : wps rm K Q c_M_nearestOf_24 kc ks (some (.ref x) :: l) (st) h = wps rm K Q c_M_nearestOf_25 kc ks (some (.ref x) :: l) (.ref x :: st) h := gk_aload rfl
theorem s_M_nearestOf_25 {x : Nat} : wps rm K Q c_M_nearestOf_25 kc ks loc (.ref (x + 1) :: st) h = eg_gf h x 12 17 (fun v => wps rm K Q c_M_nearestOf_28 kc ks loc (v :: st) h) := gk_gf
theorem s_M_nearestOf_28 {x y : Int32} : wps rm K Q c_M_nearestOf_28 kc ks loc (.int y :: .int x :: st) h = ((y ≤ x → K 75 kc ks loc st h) ∧ (¬ y ≤ x → wps rm K Q c_M_nearestOf_31 kc ks loc (st) h)) := gk_if2_ge
theorem s_M_nearestOf_31 {x : Nat} {l : eg_Lo} : wps rm K Q c_M_nearestOf_31 kc ks (some (.ref x) :: l) (st) h = wps rm K Q c_M_nearestOf_32 kc ks (some (.ref x) :: l) (.ref x :: st) h := gk_aload rfl
theorem s_M_nearestOf_32 {x : Int32} {l0 : Option Value} {l : eg_Lo} : wps rm K Q c_M_nearestOf_32 kc ks (l0 :: some (.int x) :: l) (st) h = wps rm K Q c_M_nearestOf_33 kc ks (l0 :: some (.int x) :: l) (.int x :: st) h := gk_iload rfl
theorem s_M_nearestOf_33 {x : Int32} {l0 l1 l2 l3 l4 l5 l6 : Option Value} {l : eg_Lo} : wps rm K Q c_M_nearestOf_33 kc ks (l0 :: l1 :: l2 :: l3 :: l4 :: l5 :: l6 :: some (.int x) :: l) (st) h = wps rm K Q c_M_nearestOf_35 kc ks (l0 :: l1 :: l2 :: l3 :: l4 :: l5 :: l6 :: some (.int x) :: l) (.int x :: st) h := gk_iload rfl
theorem s_M_nearestOf_35  {a1 : Value} {a2 : Value} {x : Nat} : wps rm K Q c_M_nearestOf_35 kc ks loc (a2 :: a1 :: .ref (x + 1) :: st) h = (eg_cls h x 12 ∧ st.length ≤ 4 ∧ eg_Cs n_M_tellFar (.ref (x + 1) :: [a1, a2]) h (fun v h9 => wps rm K Q c_M_nearestOf_38 kc ks loc (v.toList ++ st) h9)) := eg_c1_2
theorem s_M_nearestOf_38 {x : Nat} {l : eg_Lo} : wps rm K Q c_M_nearestOf_38 kc ks (some (.ref x) :: l) (st) h = wps rm K Q c_M_nearestOf_39 kc ks (some (.ref x) :: l) (.ref x :: st) h := gk_aload rfl
theorem s_M_nearestOf_39 {x : Nat} : wps rm K Q c_M_nearestOf_39 kc ks loc (.ref (x + 1) :: st) h = eg_gf h x 12 37 (fun v => wps rm K Q c_M_nearestOf_42 kc ks loc (v :: st) h) := gk_gf
theorem s_M_nearestOf_42 {x : Nat} {l : eg_Lo} : wps rm K Q c_M_nearestOf_42 kc ks (some (.ref x) :: l) (st) h = wps rm K Q c_M_nearestOf_43 kc ks (some (.ref x) :: l) (.ref x :: st) h := gk_aload rfl
theorem s_M_nearestOf_43 {x : Nat} : wps rm K Q c_M_nearestOf_43 kc ks loc (.ref (x + 1) :: st) h = eg_gf h x 12 38 (fun v => wps rm K Q c_M_nearestOf_46 kc ks loc (v :: st) h) := gk_gf
theorem s_M_nearestOf_46 {x : Int64} {l0 l1 l2 : Option Value} {l : eg_Lo} : wps rm K Q c_M_nearestOf_46 kc ks (l0 :: l1 :: l2 :: some (.long x) :: l) (st) h = wps rm K Q c_M_nearestOf_47 kc ks (l0 :: l1 :: l2 :: some (.long x) :: l) (.long x :: st) h := gk_lload rfl
theorem s_M_nearestOf_47 {x : Int64} {l0 l1 l2 l3 l4 : Option Value} {l : eg_Lo} : wps rm K Q c_M_nearestOf_47 kc ks (l0 :: l1 :: l2 :: l3 :: l4 :: some (.long x) :: l) (st) h = wps rm K Q c_M_nearestOf_49 kc ks (l0 :: l1 :: l2 :: l3 :: l4 :: some (.long x) :: l) (.long x :: st) h := gk_lload rfl
theorem s_M_nearestOf_49  {a1 : Value} {a2 : Value} {a3 : Value} {a4 : Value} : wps rm K Q c_M_nearestOf_49 kc ks loc (a4 :: a3 :: a2 :: a1 :: st) h = (st.length ≤ 4 ∧ eg_Cs n_M_isLess [a1, a2, a3, a4] h (fun v h9 => wps rm K Q c_M_nearestOf_52 kc ks loc (v.toList ++ st) h9)) := eg_c0_4
theorem s_M_nearestOf_52 {x : Int32} : wps rm K Q c_M_nearestOf_52 kc ks loc (.int x :: st) h = ((x = 0 → K 69 kc ks loc st h) ∧ (¬ x = 0 → wps rm K Q c_M_nearestOf_55 kc ks loc (st) h)) := gk_if1_eq
theorem s_M_nearestOf_55 {x : Int32} {l0 l1 l2 l3 l4 l5 l6 : Option Value} {l : eg_Lo} : wps rm K Q c_M_nearestOf_55 kc ks (l0 :: l1 :: l2 :: l3 :: l4 :: l5 :: l6 :: some (.int x) :: l) (st) h = wps rm K Q c_M_nearestOf_57 kc ks (l0 :: l1 :: l2 :: l3 :: l4 :: l5 :: l6 :: some (.int x) :: l) (.int x :: st) h := gk_iload rfl
theorem s_M_nearestOf_57 {x : Int32} : wps rm K Q c_M_nearestOf_57 kc ks loc (.int x :: st) h = wps rm K Q c_M_nearestOf_58 kc ks (eg_set1 loc 2 (.int x)) (st) h := gk_istore
theorem s_M_nearestOf_58 {x : Nat} {l : eg_Lo} : wps rm K Q c_M_nearestOf_58 kc ks (some (.ref x) :: l) (st) h = wps rm K Q c_M_nearestOf_59 kc ks (some (.ref x) :: l) (.ref x :: st) h := gk_aload rfl
theorem s_M_nearestOf_59 {x : Nat} : wps rm K Q c_M_nearestOf_59 kc ks loc (.ref (x + 1) :: st) h = eg_gf h x 12 37 (fun v => wps rm K Q c_M_nearestOf_62 kc ks loc (v :: st) h) := gk_gf
theorem s_M_nearestOf_62 {x : Int64} : wps rm K Q c_M_nearestOf_62 kc ks loc (.long x :: st) h = wps rm K Q c_M_nearestOf_63 kc ks (eg_set2 loc 3 (.long x)) (st) h := gk_lstore
theorem s_M_nearestOf_63 {x : Nat} {l : eg_Lo} : wps rm K Q c_M_nearestOf_63 kc ks (some (.ref x) :: l) (st) h = wps rm K Q c_M_nearestOf_64 kc ks (some (.ref x) :: l) (.ref x :: st) h := gk_aload rfl
theorem s_M_nearestOf_64 {x : Nat} : wps rm K Q c_M_nearestOf_64 kc ks loc (.ref (x + 1) :: st) h = eg_gf h x 12 38 (fun v => wps rm K Q c_M_nearestOf_67 kc ks loc (v :: st) h) := gk_gf
theorem s_M_nearestOf_67 {x : Int64} : wps rm K Q c_M_nearestOf_67 kc ks loc (.long x :: st) h = wps rm K Q c_M_nearestOf_69 kc ks (eg_set2 loc 5 (.long x)) (st) h := gk_lstore
theorem s_M_nearestOf_69 {x : Int32} {l0 l1 l2 l3 l4 l5 l6 : Option Value} {lz : eg_Lo} : wps rm K Q c_M_nearestOf_69 kc ks (l0 :: l1 :: l2 :: l3 :: l4 :: l5 :: l6 :: some (.int x) :: lz) (st) h = wps rm K Q c_M_nearestOf_72 kc ks (eg_set1 (l0 :: l1 :: l2 :: l3 :: l4 :: l5 :: l6 :: some (.int x) :: lz) 7 (.int (x + (1)))) (st) h := gk_iinc rfl (by decide)
theorem s_M_nearestOf_72  : wps rm K Q c_M_nearestOf_72 kc ks loc (st) h = K 22 kc ks loc st h := gk_goto
theorem s_M_nearestOf_75 {x : Nat} {l : eg_Lo} : wps rm K Q c_M_nearestOf_75 kc ks (some (.ref x) :: l) (st) h = wps rm K Q c_M_nearestOf_76 kc ks (some (.ref x) :: l) (.ref x :: st) h := gk_aload rfl
theorem s_M_nearestOf_76 {x : Int32} {l0 : Option Value} {l : eg_Lo} : wps rm K Q c_M_nearestOf_76 kc ks (l0 :: some (.int x) :: l) (st) h = wps rm K Q c_M_nearestOf_77 kc ks (l0 :: some (.int x) :: l) (.int x :: st) h := gk_iload rfl
theorem s_M_nearestOf_77 {x : Int32} {l0 l1 : Option Value} {l : eg_Lo} : wps rm K Q c_M_nearestOf_77 kc ks (l0 :: l1 :: some (.int x) :: l) (st) h = wps rm K Q c_M_nearestOf_78 kc ks (l0 :: l1 :: some (.int x) :: l) (.int x :: st) h := gk_iload rfl
theorem s_M_nearestOf_78  {a1 : Value} {a2 : Value} {x : Nat} : wps rm K Q c_M_nearestOf_78 kc ks loc (a2 :: a1 :: .ref (x + 1) :: st) h = (eg_cls h x 12 ∧ st.length ≤ 4 ∧ eg_Cs n_M_tellFar (.ref (x + 1) :: [a1, a2]) h (fun v h9 => wps rm K Q c_M_nearestOf_81 kc ks loc (v.toList ++ st) h9)) := eg_c1_2
theorem s_M_nearestOf_81 {x : Int32} {l0 l1 : Option Value} {l : eg_Lo} : wps rm K Q c_M_nearestOf_81 kc ks (l0 :: l1 :: some (.int x) :: l) (st) h = wps rm K Q c_M_nearestOf_82 kc ks (l0 :: l1 :: some (.int x) :: l) (.int x :: st) h := gk_iload rfl
theorem s_M_nearestOf_82 {x : Int32} : wps rm K Q c_M_nearestOf_82 kc ks loc ([.int x]) h = (kc = rm.cells ∧ (0 = 1 → x = 0 ∨ x = 1) ∧ Q (some (.int x)) h) := gk_iret
theorem sz_M_nearestOf_22 : wps rm K Q z_M_nearestOf_22 kc ks loc st h = K 22 kc ks loc st h := gk_nop
def T_M_nearestOf : List (Nat × List eg_I) := [(69, c_M_nearestOf_69), (75, c_M_nearestOf_75)]
theorem j_M_nearestOf_69 {R : Nat → Nat → Nat → eg_Lo → List Value → List eg_E → Prop} {f pc0 : Nat} : eg_run rm R Q T_M_nearestOf (f + 1) 69 kc ks loc st h = wps rm (eg_run rm R Q T_M_nearestOf f) Q c_M_nearestOf_69 kc ks loc st h := rfl
theorem j_M_nearestOf_75 {R : Nat → Nat → Nat → eg_Lo → List Value → List eg_E → Prop} {f pc0 : Nat} : eg_run rm R Q T_M_nearestOf (f + 1) 75 kc ks loc st h = wps rm (eg_run rm R Q T_M_nearestOf f) Q c_M_nearestOf_75 kc ks loc st h := rfl
theorem j_M_nearestOf_22 {R : Nat → Nat → Nat → eg_Lo → List Value → List eg_E → Prop} {f pc0 : Nat} : eg_run rm R Q T_M_nearestOf (f + 1) 22 kc ks loc st h = R 22 kc ks loc st h := rfl
end
theorem y_M_nearestOf_0 : eg_seq m_M_nearestOf 0 c_M_nearestOf_0 = true := by decide +kernel
theorem y_M_nearestOf_22 : eg_seq m_M_nearestOf 22 c_M_nearestOf_22 = true := by decide +kernel
theorem y_M_nearestOf_75 : eg_seq m_M_nearestOf 75 c_M_nearestOf_75 = true := by decide +kernel
theorem q_M_nearestOf : ∀ q ∈ T_M_nearestOf, eg_seq m_M_nearestOf q.1 q.2 = true := by
  intro q hq
  simp only [T_M_nearestOf, List.mem_cons, List.not_mem_nil, or_false] at hq
  rcases hq with rfl | rfl
  · exact (eg_seq_drop y_M_nearestOf_22 24 : eg_seq m_M_nearestOf 69 c_M_nearestOf_69 = true)
  · exact y_M_nearestOf_75
theorem md_M_nearestOf : eg_md n_M_nearestOf = m_M_nearestOf := rfl
theorem mn_M_nearestOf : n_M_nearestOf < 202 := Nat.le_of_ble_eq_true rfl
theorem b_M_nearestOf {as : List Value} {h : List eg_E} {Q : Option Value → List eg_E → Prop} (hf : (eg_fl as).length ≤ 8) : wps (eg_rm m_M_nearestOf) (eg_run (eg_rm m_M_nearestOf) (eg_R m_M_nearestOf Q (h.length + 0)) Q T_M_nearestOf 4) Q c_M_nearestOf_0 0 0 (eg_entry 8 as) [] h → eg_Runs n_M_nearestOf as h Q := eg_begin2 md_M_nearestOf mn_M_nearestOf y_M_nearestOf_0 q_M_nearestOf hf
theorem p_M_nearestOf_22 {Q : Option Value → List eg_E → Prop} {n0 kc ks : Nat} {loc : eg_Lo} {st : List Value} {h : List eg_E} : wps (eg_rm m_M_nearestOf) (eg_run (eg_rm m_M_nearestOf) (eg_R m_M_nearestOf Q n0) Q T_M_nearestOf 4) Q c_M_nearestOf_22 kc ks loc st h → eg_R m_M_nearestOf Q n0 22 kc ks loc st h := eg_go2 y_M_nearestOf_22 q_M_nearestOf
/-! ===== M_askNear ===== -/
def c_M_askNear_49 : List eg_I := .inl (49, 1, .lreturn, 0, 0) :: []
def c_M_askNear_48 : List eg_I := .inl (48, 1, .sipush (0), 0, 0) :: c_M_askNear_49
def c_M_askNear_45 : List eg_I := .inl (45, 3, .goto (4), 49, 0) :: []
def c_M_askNear_42 : List eg_I := .inl (42, 3, .sipush (-1000000000000000006), 138, 0) :: c_M_askNear_45
def c_M_askNear_39 : List eg_I := .inl (39, 3, .if_icmp .ge (9), 48, 0) :: c_M_askNear_42
def c_M_askNear_38 : List eg_I := .inl (38, 1, .iconst (2), 0, 0) :: c_M_askNear_39
def c_M_askNear_35 : List eg_I := .inl (35, 3, .getfield 277, 12, 17) :: c_M_askNear_38
def c_M_askNear_34 : List eg_I := .inl (34, 1, .aload 0, 0, 0) :: c_M_askNear_35
def c_M_askNear_31 : List eg_I := .inl (31, 3, .goto (18), 49, 0) :: []
def c_M_askNear_28 : List eg_I := .inl (28, 3, .sipush (-1000000000000000007), 126, 0) :: c_M_askNear_31
def c_M_askNear_25 : List eg_I := .inl (25, 3, .ifCond .eq (9), 34, 0) :: c_M_askNear_28
def c_M_askNear_24 : List eg_I := .inl (24, 1, .baload, 0, 0) :: c_M_askNear_25
def c_M_askNear_21 : List eg_I := .inr (21, 0, 103, n_M_at_II, 2, 12, 0, 0) :: c_M_askNear_24
def c_M_askNear_20 : List eg_I := .inl (20, 1, .iload 2, 0, 0) :: c_M_askNear_21
def c_M_askNear_19 : List eg_I := .inl (19, 1, .iload 1, 0, 0) :: c_M_askNear_20
def c_M_askNear_16 : List eg_I := .inl (16, 3, .getfield 22, 12, 4) :: c_M_askNear_19
def c_M_askNear_15 : List eg_I := .inl (15, 1, .aload 0, 0, 0) :: c_M_askNear_16
def c_M_askNear_12 : List eg_I := .inl (12, 3, .goto (37), 49, 0) :: []
def c_M_askNear_9 : List eg_I := .inl (9, 3, .sipush (-1000000000000000001), 110, 0) :: c_M_askNear_12
def c_M_askNear_6 : List eg_I := .inl (6, 3, .ifCond .ne (9), 15, 0) :: c_M_askNear_9
def c_M_askNear_3 : List eg_I := .inr (3, 1, 122, n_M_isPoint, 2, 12, 0, 0) :: c_M_askNear_6
def c_M_askNear_2 : List eg_I := .inl (2, 1, .iload 2, 0, 0) :: c_M_askNear_3
def c_M_askNear_1 : List eg_I := .inl (1, 1, .iload 1, 0, 0) :: c_M_askNear_2
def c_M_askNear_0 : List eg_I := .inl (0, 1, .aload 0, 0, 0) :: c_M_askNear_1
section
variable {rm : Room} {K : Nat → Nat → Nat → eg_Lo → List Value → List eg_E → Prop} {Q : Option Value → List eg_E → Prop} {kc ks : Nat} {loc : eg_Lo} {st : List Value} {h : List eg_E}
theorem s_M_askNear_0 {x : Nat} {l : eg_Lo} : wps rm K Q c_M_askNear_0 kc ks (some (.ref x) :: l) (st) h = wps rm K Q c_M_askNear_1 kc ks (some (.ref x) :: l) (.ref x :: st) h := gk_aload rfl
theorem s_M_askNear_1 {x : Int32} {l0 : Option Value} {l : eg_Lo} : wps rm K Q c_M_askNear_1 kc ks (l0 :: some (.int x) :: l) (st) h = wps rm K Q c_M_askNear_2 kc ks (l0 :: some (.int x) :: l) (.int x :: st) h := gk_iload rfl
theorem s_M_askNear_2 {x : Int32} {l0 l1 : Option Value} {l : eg_Lo} : wps rm K Q c_M_askNear_2 kc ks (l0 :: l1 :: some (.int x) :: l) (st) h = wps rm K Q c_M_askNear_3 kc ks (l0 :: l1 :: some (.int x) :: l) (.int x :: st) h := gk_iload rfl
theorem s_M_askNear_3  {a1 : Value} {a2 : Value} {x : Nat} : wps rm K Q c_M_askNear_3 kc ks loc (a2 :: a1 :: .ref (x + 1) :: st) h = (eg_cls h x 12 ∧ st.length ≤ 4 ∧ eg_Cs n_M_isPoint (.ref (x + 1) :: [a1, a2]) h (fun v h9 => wps rm K Q c_M_askNear_6 kc ks loc (v.toList ++ st) h9)) := eg_c1_2
theorem s_M_askNear_6 {x : Int32} : wps rm K Q c_M_askNear_6 kc ks loc (.int x :: st) h = ((¬ x = 0 → K 15 kc ks loc st h) ∧ (x = 0 → wps rm K Q c_M_askNear_9 kc ks loc (st) h)) := gk_if1_ne
theorem s_M_askNear_9  : wps rm K Q c_M_askNear_9 kc ks loc (st) h = wps rm K Q c_M_askNear_12 kc ks loc (.long (-1000000000000000001) :: st) h := gk_lc (by decide)
theorem s_M_askNear_12  : wps rm K Q c_M_askNear_12 kc ks loc (st) h = K 49 kc ks loc st h := gk_goto
theorem s_M_askNear_15 {x : Nat} {l : eg_Lo} : wps rm K Q c_M_askNear_15 kc ks (some (.ref x) :: l) (st) h = wps rm K Q c_M_askNear_16 kc ks (some (.ref x) :: l) (.ref x :: st) h := gk_aload rfl
theorem s_M_askNear_16 {x : Nat} : wps rm K Q c_M_askNear_16 kc ks loc (.ref (x + 1) :: st) h = eg_gf h x 12 4 (fun v => wps rm K Q c_M_askNear_19 kc ks loc (v :: st) h) := gk_gf
theorem s_M_askNear_19 {x : Int32} {l0 : Option Value} {l : eg_Lo} : wps rm K Q c_M_askNear_19 kc ks (l0 :: some (.int x) :: l) (st) h = wps rm K Q c_M_askNear_20 kc ks (l0 :: some (.int x) :: l) (.int x :: st) h := gk_iload rfl
theorem s_M_askNear_20 {x : Int32} {l0 l1 : Option Value} {l : eg_Lo} : wps rm K Q c_M_askNear_20 kc ks (l0 :: l1 :: some (.int x) :: l) (st) h = wps rm K Q c_M_askNear_21 kc ks (l0 :: l1 :: some (.int x) :: l) (.int x :: st) h := gk_iload rfl
theorem s_M_askNear_21  {a1 : Value} {a2 : Value} : wps rm K Q c_M_askNear_21 kc ks loc (a2 :: a1 :: st) h = (st.length ≤ 4 ∧ eg_Cs n_M_at_II [a1, a2] h (fun v h9 => wps rm K Q c_M_askNear_24 kc ks loc (v.toList ++ st) h9)) := eg_c0_2
theorem s_M_askNear_24 {x : Nat} {i : Int32} : wps rm K Q c_M_askNear_24 kc ks loc (.int i :: .ref (x + 1) :: st) h = eg_ba h x i (fun v => wps rm K Q c_M_askNear_25 kc ks loc (.int v :: st) h) := gk_baload
theorem s_M_askNear_25 {x : Int32} : wps rm K Q c_M_askNear_25 kc ks loc (.int x :: st) h = ((x = 0 → K 34 kc ks loc st h) ∧ (¬ x = 0 → wps rm K Q c_M_askNear_28 kc ks loc (st) h)) := gk_if1_eq
theorem s_M_askNear_28  : wps rm K Q c_M_askNear_28 kc ks loc (st) h = wps rm K Q c_M_askNear_31 kc ks loc (.long (-1000000000000000007) :: st) h := gk_lc (by decide)
theorem s_M_askNear_31  : wps rm K Q c_M_askNear_31 kc ks loc (st) h = K 49 kc ks loc st h := gk_goto
theorem s_M_askNear_34 {x : Nat} {l : eg_Lo} : wps rm K Q c_M_askNear_34 kc ks (some (.ref x) :: l) (st) h = wps rm K Q c_M_askNear_35 kc ks (some (.ref x) :: l) (.ref x :: st) h := gk_aload rfl
theorem s_M_askNear_35 {x : Nat} : wps rm K Q c_M_askNear_35 kc ks loc (.ref (x + 1) :: st) h = eg_gf h x 12 17 (fun v => wps rm K Q c_M_askNear_38 kc ks loc (v :: st) h) := gk_gf
theorem s_M_askNear_38  : wps rm K Q c_M_askNear_38 kc ks loc (st) h = wps rm K Q c_M_askNear_39 kc ks loc (.int (2) :: st) h := gk_ic (by decide)
theorem s_M_askNear_39 {x y : Int32} : wps rm K Q c_M_askNear_39 kc ks loc (.int y :: .int x :: st) h = ((y ≤ x → K 48 kc ks loc st h) ∧ (¬ y ≤ x → wps rm K Q c_M_askNear_42 kc ks loc (st) h)) := gk_if2_ge
theorem s_M_askNear_42  : wps rm K Q c_M_askNear_42 kc ks loc (st) h = wps rm K Q c_M_askNear_45 kc ks loc (.long (-1000000000000000006) :: st) h := gk_lc (by decide)
theorem s_M_askNear_45  : wps rm K Q c_M_askNear_45 kc ks loc (st) h = K 49 kc ks loc st h := gk_goto
theorem s_M_askNear_48  : wps rm K Q c_M_askNear_48 kc ks loc (st) h = wps rm K Q c_M_askNear_49 kc ks loc (.long (0) :: st) h := gk_lc (by decide)
theorem s_M_askNear_49 {x : Int64} : wps rm K Q c_M_askNear_49 kc ks loc ([.long x]) h = (kc = rm.cells ∧ Q (some (.long x)) h) := gk_lret
def T_M_askNear : List (Nat × List eg_I) := [(15, c_M_askNear_15), (34, c_M_askNear_34), (48, c_M_askNear_48), (49, c_M_askNear_49)]
theorem j_M_askNear_15 {R : Nat → Nat → Nat → eg_Lo → List Value → List eg_E → Prop} {f pc0 : Nat} : eg_run rm R Q T_M_askNear (f + 1) 15 kc ks loc st h = wps rm (eg_run rm R Q T_M_askNear f) Q c_M_askNear_15 kc ks loc st h := rfl
theorem j_M_askNear_34 {R : Nat → Nat → Nat → eg_Lo → List Value → List eg_E → Prop} {f pc0 : Nat} : eg_run rm R Q T_M_askNear (f + 1) 34 kc ks loc st h = wps rm (eg_run rm R Q T_M_askNear f) Q c_M_askNear_34 kc ks loc st h := rfl
theorem j_M_askNear_48 {R : Nat → Nat → Nat → eg_Lo → List Value → List eg_E → Prop} {f pc0 : Nat} : eg_run rm R Q T_M_askNear (f + 1) 48 kc ks loc st h = wps rm (eg_run rm R Q T_M_askNear f) Q c_M_askNear_48 kc ks loc st h := rfl
theorem j_M_askNear_49 {R : Nat → Nat → Nat → eg_Lo → List Value → List eg_E → Prop} {f pc0 : Nat} : eg_run rm R Q T_M_askNear (f + 1) 49 kc ks loc st h = wps rm (eg_run rm R Q T_M_askNear f) Q c_M_askNear_49 kc ks loc st h := rfl
end
theorem y_M_askNear_0 : eg_seq m_M_askNear 0 c_M_askNear_0 = true := by decide +kernel
theorem y_M_askNear_15 : eg_seq m_M_askNear 15 c_M_askNear_15 = true := by decide +kernel
theorem y_M_askNear_34 : eg_seq m_M_askNear 34 c_M_askNear_34 = true := by decide +kernel
theorem y_M_askNear_48 : eg_seq m_M_askNear 48 c_M_askNear_48 = true := by decide +kernel
theorem q_M_askNear : ∀ q ∈ T_M_askNear, eg_seq m_M_askNear q.1 q.2 = true := by
  intro q hq
  simp only [T_M_askNear, List.mem_cons, List.not_mem_nil, or_false] at hq
  rcases hq with rfl | rfl | rfl | rfl
  · exact y_M_askNear_15
  · exact y_M_askNear_34
  · exact y_M_askNear_48
  · exact (eg_seq_drop y_M_askNear_48 1 : eg_seq m_M_askNear 49 c_M_askNear_49 = true)
theorem md_M_askNear : eg_md n_M_askNear = m_M_askNear := rfl
theorem mn_M_askNear : n_M_askNear < 202 := Nat.le_of_ble_eq_true rfl
theorem b_M_askNear {as : List Value} {h : List eg_E} {Q : Option Value → List eg_E → Prop} (hf : (eg_fl as).length ≤ 3) : wps (eg_rm m_M_askNear) (eg_run (eg_rm m_M_askNear) (eg_R m_M_askNear Q (h.length + 0)) Q T_M_askNear 6) Q c_M_askNear_0 0 0 (eg_entry 3 as) [] h → eg_Runs n_M_askNear as h Q := eg_begin2 md_M_askNear mn_M_askNear y_M_askNear_0 q_M_askNear hf
/-! ===== M_nearest ===== -/
def c_M_nearest_31 : List eg_I := .inl (31, 1, .lreturn, 0, 0) :: []
def c_M_nearest_30 : List eg_I := .inl (30, 1, .i2l, 0, 0) :: c_M_nearest_31
def c_M_nearest_27 : List eg_I := .inr (27, 1, 293, n_M_nearestOf, 1, 12, 0, 0) :: c_M_nearest_30
def c_M_nearest_24 : List eg_I := .inr (24, 0, 103, n_M_at_II, 2, 12, 0, 0) :: c_M_nearest_27
def c_M_nearest_23 : List eg_I := .inl (23, 1, .iload 2, 0, 0) :: c_M_nearest_24
def c_M_nearest_22 : List eg_I := .inl (22, 1, .iload 1, 0, 0) :: c_M_nearest_23
def c_M_nearest_21 : List eg_I := .inl (21, 1, .aload 0, 0, 0) :: c_M_nearest_22
def c_M_nearest_18 : List eg_I := .inl (18, 3, .goto (13), 31, 0) :: []
def c_M_nearest_15 : List eg_I := .inr (15, 1, 112, n_M_finding, 1, 12, 0, 0) :: c_M_nearest_18
def c_M_nearest_14 : List eg_I := .inl (14, 1, .lload 3, 0, 0) :: c_M_nearest_15
def c_M_nearest_13 : List eg_I := .inl (13, 1, .aload 0, 0, 0) :: c_M_nearest_14
def c_M_nearest_10 : List eg_I := .inl (10, 3, .ifCond .eq (11), 21, 0) :: c_M_nearest_13
def c_M_nearest_9 : List eg_I := .inl (9, 1, .lcmp, 0, 0) :: c_M_nearest_10
def c_M_nearest_8 : List eg_I := .inl (8, 1, .sipush (0), 0, 0) :: c_M_nearest_9
def c_M_nearest_7 : List eg_I := .inl (7, 1, .lload 3, 0, 0) :: c_M_nearest_8
def c_M_nearest_6 : List eg_I := .inl (6, 1, .lstore 3, 0, 0) :: c_M_nearest_7
def c_M_nearest_3 : List eg_I := .inr (3, 1, 290, n_M_askNear, 2, 12, 0, 0) :: c_M_nearest_6
def c_M_nearest_2 : List eg_I := .inl (2, 1, .iload 2, 0, 0) :: c_M_nearest_3
def c_M_nearest_1 : List eg_I := .inl (1, 1, .iload 1, 0, 0) :: c_M_nearest_2
def c_M_nearest_0 : List eg_I := .inl (0, 1, .aload 0, 0, 0) :: c_M_nearest_1
section
variable {rm : Room} {K : Nat → Nat → Nat → eg_Lo → List Value → List eg_E → Prop} {Q : Option Value → List eg_E → Prop} {kc ks : Nat} {loc : eg_Lo} {st : List Value} {h : List eg_E}
theorem s_M_nearest_0 {x : Nat} {l : eg_Lo} : wps rm K Q c_M_nearest_0 kc ks (some (.ref x) :: l) (st) h = wps rm K Q c_M_nearest_1 kc ks (some (.ref x) :: l) (.ref x :: st) h := gk_aload rfl
theorem s_M_nearest_1 {x : Int32} {l0 : Option Value} {l : eg_Lo} : wps rm K Q c_M_nearest_1 kc ks (l0 :: some (.int x) :: l) (st) h = wps rm K Q c_M_nearest_2 kc ks (l0 :: some (.int x) :: l) (.int x :: st) h := gk_iload rfl
theorem s_M_nearest_2 {x : Int32} {l0 l1 : Option Value} {l : eg_Lo} : wps rm K Q c_M_nearest_2 kc ks (l0 :: l1 :: some (.int x) :: l) (st) h = wps rm K Q c_M_nearest_3 kc ks (l0 :: l1 :: some (.int x) :: l) (.int x :: st) h := gk_iload rfl
theorem s_M_nearest_3  {a1 : Value} {a2 : Value} {x : Nat} : wps rm K Q c_M_nearest_3 kc ks loc (a2 :: a1 :: .ref (x + 1) :: st) h = (eg_cls h x 12 ∧ st.length ≤ 4 ∧ eg_Cs n_M_askNear (.ref (x + 1) :: [a1, a2]) h (fun v h9 => wps rm K Q c_M_nearest_6 kc ks loc (v.toList ++ st) h9)) := eg_c1_2
theorem s_M_nearest_6 {x : Int64} : wps rm K Q c_M_nearest_6 kc ks loc (.long x :: st) h = wps rm K Q c_M_nearest_7 kc ks (eg_set2 loc 3 (.long x)) (st) h := gk_lstore
theorem s_M_nearest_7 {x : Int64} {l0 l1 l2 : Option Value} {l : eg_Lo} : wps rm K Q c_M_nearest_7 kc ks (l0 :: l1 :: l2 :: some (.long x) :: l) (st) h = wps rm K Q c_M_nearest_8 kc ks (l0 :: l1 :: l2 :: some (.long x) :: l) (.long x :: st) h := gk_lload rfl
theorem s_M_nearest_8  : wps rm K Q c_M_nearest_8 kc ks loc (st) h = wps rm K Q c_M_nearest_9 kc ks loc (.long (0) :: st) h := gk_lc (by decide)
theorem s_M_nearest_9 {x y : Int64} : wps rm K Q c_M_nearest_9 kc ks loc (.long y :: .long x :: st) h = wps rm K Q c_M_nearest_10 kc ks loc (.int (lg_cmp x y) :: st) h := gk_lcmp
theorem s_M_nearest_10 {x : Int32} : wps rm K Q c_M_nearest_10 kc ks loc (.int x :: st) h = ((x = 0 → K 21 kc ks loc st h) ∧ (¬ x = 0 → wps rm K Q c_M_nearest_13 kc ks loc (st) h)) := gk_if1_eq
theorem s_M_nearest_13 {x : Nat} {l : eg_Lo} : wps rm K Q c_M_nearest_13 kc ks (some (.ref x) :: l) (st) h = wps rm K Q c_M_nearest_14 kc ks (some (.ref x) :: l) (.ref x :: st) h := gk_aload rfl
theorem s_M_nearest_14 {x : Int64} {l0 l1 l2 : Option Value} {l : eg_Lo} : wps rm K Q c_M_nearest_14 kc ks (l0 :: l1 :: l2 :: some (.long x) :: l) (st) h = wps rm K Q c_M_nearest_15 kc ks (l0 :: l1 :: l2 :: some (.long x) :: l) (.long x :: st) h := gk_lload rfl
theorem s_M_nearest_15  {a1 : Value} {x : Nat} : wps rm K Q c_M_nearest_15 kc ks loc (a1 :: .ref (x + 1) :: st) h = (eg_cls h x 12 ∧ st.length ≤ 4 ∧ eg_Cs n_M_finding (.ref (x + 1) :: [a1]) h (fun v h9 => wps rm K Q c_M_nearest_18 kc ks loc (v.toList ++ st) h9)) := eg_c1_1
theorem s_M_nearest_18  : wps rm K Q c_M_nearest_18 kc ks loc (st) h = K 31 kc ks loc st h := gk_goto
theorem s_M_nearest_21 {x : Nat} {l : eg_Lo} : wps rm K Q c_M_nearest_21 kc ks (some (.ref x) :: l) (st) h = wps rm K Q c_M_nearest_22 kc ks (some (.ref x) :: l) (.ref x :: st) h := gk_aload rfl
theorem s_M_nearest_22 {x : Int32} {l0 : Option Value} {l : eg_Lo} : wps rm K Q c_M_nearest_22 kc ks (l0 :: some (.int x) :: l) (st) h = wps rm K Q c_M_nearest_23 kc ks (l0 :: some (.int x) :: l) (.int x :: st) h := gk_iload rfl
theorem s_M_nearest_23 {x : Int32} {l0 l1 : Option Value} {l : eg_Lo} : wps rm K Q c_M_nearest_23 kc ks (l0 :: l1 :: some (.int x) :: l) (st) h = wps rm K Q c_M_nearest_24 kc ks (l0 :: l1 :: some (.int x) :: l) (.int x :: st) h := gk_iload rfl
theorem s_M_nearest_24  {a1 : Value} {a2 : Value} : wps rm K Q c_M_nearest_24 kc ks loc (a2 :: a1 :: st) h = (st.length ≤ 4 ∧ eg_Cs n_M_at_II [a1, a2] h (fun v h9 => wps rm K Q c_M_nearest_27 kc ks loc (v.toList ++ st) h9)) := eg_c0_2
theorem s_M_nearest_27  {a1 : Value} {x : Nat} : wps rm K Q c_M_nearest_27 kc ks loc (a1 :: .ref (x + 1) :: st) h = (eg_cls h x 12 ∧ st.length ≤ 4 ∧ eg_Cs n_M_nearestOf (.ref (x + 1) :: [a1]) h (fun v h9 => wps rm K Q c_M_nearest_30 kc ks loc (v.toList ++ st) h9)) := eg_c1_1
theorem s_M_nearest_30 {x : Int32} : wps rm K Q c_M_nearest_30 kc ks loc (.int x :: st) h = wps rm K Q c_M_nearest_31 kc ks loc (.long (x.toInt64) :: st) h := gk_i2l
theorem s_M_nearest_31 {x : Int64} : wps rm K Q c_M_nearest_31 kc ks loc ([.long x]) h = (kc = rm.cells ∧ Q (some (.long x)) h) := gk_lret
def T_M_nearest : List (Nat × List eg_I) := [(21, c_M_nearest_21), (31, c_M_nearest_31)]
theorem j_M_nearest_21 {R : Nat → Nat → Nat → eg_Lo → List Value → List eg_E → Prop} {f pc0 : Nat} : eg_run rm R Q T_M_nearest (f + 1) 21 kc ks loc st h = wps rm (eg_run rm R Q T_M_nearest f) Q c_M_nearest_21 kc ks loc st h := rfl
theorem j_M_nearest_31 {R : Nat → Nat → Nat → eg_Lo → List Value → List eg_E → Prop} {f pc0 : Nat} : eg_run rm R Q T_M_nearest (f + 1) 31 kc ks loc st h = wps rm (eg_run rm R Q T_M_nearest f) Q c_M_nearest_31 kc ks loc st h := rfl
end
theorem y_M_nearest_0 : eg_seq m_M_nearest 0 c_M_nearest_0 = true := by decide +kernel
theorem y_M_nearest_21 : eg_seq m_M_nearest 21 c_M_nearest_21 = true := by decide +kernel
theorem q_M_nearest : ∀ q ∈ T_M_nearest, eg_seq m_M_nearest q.1 q.2 = true := by
  intro q hq
  simp only [T_M_nearest, List.mem_cons, List.not_mem_nil, or_false] at hq
  rcases hq with rfl | rfl
  · exact y_M_nearest_21
  · exact (eg_seq_drop y_M_nearest_21 6 : eg_seq m_M_nearest 31 c_M_nearest_31 = true)
theorem md_M_nearest : eg_md n_M_nearest = m_M_nearest := rfl
theorem mn_M_nearest : n_M_nearest < 202 := Nat.le_of_ble_eq_true rfl
theorem b_M_nearest {as : List Value} {h : List eg_E} {Q : Option Value → List eg_E → Prop} (hf : (eg_fl as).length ≤ 5) : wps (eg_rm m_M_nearest) (eg_run (eg_rm m_M_nearest) (eg_R m_M_nearest Q (h.length + 0)) Q T_M_nearest 4) Q c_M_nearest_0 0 0 (eg_entry 5 as) [] h → eg_Runs n_M_nearest as h Q := eg_begin2 md_M_nearest mn_M_nearest y_M_nearest_0 q_M_nearest hf
/-! ===== M_far ===== -/
def c_M_far_76 : List eg_I := .inl (76, 1, .lreturn, 0, 0) :: []
def c_M_far_75 : List eg_I := .inl (75, 1, .ldiv, 0, 0) :: c_M_far_76
def c_M_far_73 : List eg_I := .inl (73, 2, .lload 7, 0, 0) :: c_M_far_75
def c_M_far_70 : List eg_I := .inl (70, 3, .getfield 283, 12, 37) :: c_M_far_73
def c_M_far_69 : List eg_I := .inl (69, 1, .aload 0, 0, 0) :: c_M_far_70
def c_M_far_66 : List eg_I := .inl (66, 3, .goto (10), 76, 0) :: []
def c_M_far_65 : List eg_I := .inl (65, 1, .ldiv, 0, 0) :: c_M_far_66
def c_M_far_63 : List eg_I := .inl (63, 2, .lload 7, 0, 0) :: c_M_far_65
def c_M_far_60 : List eg_I := .inl (60, 3, .getfield 280, 12, 38) :: c_M_far_63
def c_M_far_59 : List eg_I := .inl (59, 1, .aload 0, 0, 0) :: c_M_far_60
def c_M_far_56 : List eg_I := .inl (56, 3, .ifCond .eq (13), 69, 0) :: c_M_far_59
def c_M_far_55 : List eg_I := .inl (55, 1, .iload 3, 0, 0) :: c_M_far_56
def c_M_far_52 : List eg_I := .inl (52, 3, .goto (24), 76, 0) :: []
def c_M_far_51 : List eg_I := .inl (51, 1, .sipush (0), 0, 0) :: c_M_far_52
def c_M_far_48 : List eg_I := .inl (48, 3, .ifCond .ge (7), 55, 0) :: c_M_far_51
def c_M_far_46 : List eg_I := .inl (46, 2, .iload 6, 0, 0) :: c_M_far_48
def c_M_far_44 : List eg_I := .inl (44, 2, .lstore 7, 0, 0) :: c_M_far_46
def c_M_far_41 : List eg_I := .inr (41, 0, 168, n_M_common, 2, 12, 0, 0) :: c_M_far_44
def c_M_far_38 : List eg_I := .inl (38, 3, .getfield 280, 12, 38) :: c_M_far_41
def c_M_far_37 : List eg_I := .inl (37, 1, .aload 0, 0, 0) :: c_M_far_38
def c_M_far_34 : List eg_I := .inl (34, 3, .getfield 283, 12, 37) :: c_M_far_37
def c_M_far_33 : List eg_I := .inl (33, 1, .aload 0, 0, 0) :: c_M_far_34
def c_M_far_31 : List eg_I := .inl (31, 2, .istore 6, 0, 0) :: c_M_far_33
def c_M_far_28 : List eg_I := .inr (28, 1, 293, n_M_nearestOf, 1, 12, 0, 0) :: c_M_far_31
def c_M_far_25 : List eg_I := .inr (25, 0, 103, n_M_at_II, 2, 12, 0, 0) :: c_M_far_28
def c_M_far_24 : List eg_I := .inl (24, 1, .iload 2, 0, 0) :: c_M_far_25
def c_M_far_23 : List eg_I := .inl (23, 1, .iload 1, 0, 0) :: c_M_far_24
def c_M_far_22 : List eg_I := .inl (22, 1, .aload 0, 0, 0) :: c_M_far_23
def c_M_far_21 : List eg_I := .inl (21, 1, .lreturn, 0, 0) :: []
def c_M_far_18 : List eg_I := .inr (18, 1, 112, n_M_finding, 1, 12, 0, 0) :: c_M_far_21
def c_M_far_16 : List eg_I := .inl (16, 2, .lload 4, 0, 0) :: c_M_far_18
def c_M_far_15 : List eg_I := .inl (15, 1, .aload 0, 0, 0) :: c_M_far_16
def c_M_far_12 : List eg_I := .inl (12, 3, .ifCond .eq (10), 22, 0) :: c_M_far_15
def c_M_far_11 : List eg_I := .inl (11, 1, .lcmp, 0, 0) :: c_M_far_12
def c_M_far_10 : List eg_I := .inl (10, 1, .sipush (0), 0, 0) :: c_M_far_11
def c_M_far_8 : List eg_I := .inl (8, 2, .lload 4, 0, 0) :: c_M_far_10
def c_M_far_6 : List eg_I := .inl (6, 2, .lstore 4, 0, 0) :: c_M_far_8
def c_M_far_3 : List eg_I := .inr (3, 1, 290, n_M_askNear, 2, 12, 0, 0) :: c_M_far_6
def c_M_far_2 : List eg_I := .inl (2, 1, .iload 2, 0, 0) :: c_M_far_3
def c_M_far_1 : List eg_I := .inl (1, 1, .iload 1, 0, 0) :: c_M_far_2
def c_M_far_0 : List eg_I := .inl (0, 1, .aload 0, 0, 0) :: c_M_far_1
section
variable {rm : Room} {K : Nat → Nat → Nat → eg_Lo → List Value → List eg_E → Prop} {Q : Option Value → List eg_E → Prop} {kc ks : Nat} {loc : eg_Lo} {st : List Value} {h : List eg_E}
theorem s_M_far_0 {x : Nat} {l : eg_Lo} : wps rm K Q c_M_far_0 kc ks (some (.ref x) :: l) (st) h = wps rm K Q c_M_far_1 kc ks (some (.ref x) :: l) (.ref x :: st) h := gk_aload rfl
theorem s_M_far_1 {x : Int32} {l0 : Option Value} {l : eg_Lo} : wps rm K Q c_M_far_1 kc ks (l0 :: some (.int x) :: l) (st) h = wps rm K Q c_M_far_2 kc ks (l0 :: some (.int x) :: l) (.int x :: st) h := gk_iload rfl
theorem s_M_far_2 {x : Int32} {l0 l1 : Option Value} {l : eg_Lo} : wps rm K Q c_M_far_2 kc ks (l0 :: l1 :: some (.int x) :: l) (st) h = wps rm K Q c_M_far_3 kc ks (l0 :: l1 :: some (.int x) :: l) (.int x :: st) h := gk_iload rfl
theorem s_M_far_3  {a1 : Value} {a2 : Value} {x : Nat} : wps rm K Q c_M_far_3 kc ks loc (a2 :: a1 :: .ref (x + 1) :: st) h = (eg_cls h x 12 ∧ st.length ≤ 4 ∧ eg_Cs n_M_askNear (.ref (x + 1) :: [a1, a2]) h (fun v h9 => wps rm K Q c_M_far_6 kc ks loc (v.toList ++ st) h9)) := eg_c1_2
theorem s_M_far_6 {x : Int64} : wps rm K Q c_M_far_6 kc ks loc (.long x :: st) h = wps rm K Q c_M_far_8 kc ks (eg_set2 loc 4 (.long x)) (st) h := gk_lstore
theorem s_M_far_8 {x : Int64} {l0 l1 l2 l3 : Option Value} {l : eg_Lo} : wps rm K Q c_M_far_8 kc ks (l0 :: l1 :: l2 :: l3 :: some (.long x) :: l) (st) h = wps rm K Q c_M_far_10 kc ks (l0 :: l1 :: l2 :: l3 :: some (.long x) :: l) (.long x :: st) h := gk_lload rfl
theorem s_M_far_10  : wps rm K Q c_M_far_10 kc ks loc (st) h = wps rm K Q c_M_far_11 kc ks loc (.long (0) :: st) h := gk_lc (by decide)
theorem s_M_far_11 {x y : Int64} : wps rm K Q c_M_far_11 kc ks loc (.long y :: .long x :: st) h = wps rm K Q c_M_far_12 kc ks loc (.int (lg_cmp x y) :: st) h := gk_lcmp
theorem s_M_far_12 {x : Int32} : wps rm K Q c_M_far_12 kc ks loc (.int x :: st) h = ((x = 0 → K 22 kc ks loc st h) ∧ (¬ x = 0 → wps rm K Q c_M_far_15 kc ks loc (st) h)) := gk_if1_eq
theorem s_M_far_15 {x : Nat} {l : eg_Lo} : wps rm K Q c_M_far_15 kc ks (some (.ref x) :: l) (st) h = wps rm K Q c_M_far_16 kc ks (some (.ref x) :: l) (.ref x :: st) h := gk_aload rfl
theorem s_M_far_16 {x : Int64} {l0 l1 l2 l3 : Option Value} {l : eg_Lo} : wps rm K Q c_M_far_16 kc ks (l0 :: l1 :: l2 :: l3 :: some (.long x) :: l) (st) h = wps rm K Q c_M_far_18 kc ks (l0 :: l1 :: l2 :: l3 :: some (.long x) :: l) (.long x :: st) h := gk_lload rfl
theorem s_M_far_18  {a1 : Value} {x : Nat} : wps rm K Q c_M_far_18 kc ks loc (a1 :: .ref (x + 1) :: st) h = (eg_cls h x 12 ∧ st.length ≤ 4 ∧ eg_Cs n_M_finding (.ref (x + 1) :: [a1]) h (fun v h9 => wps rm K Q c_M_far_21 kc ks loc (v.toList ++ st) h9)) := eg_c1_1
theorem s_M_far_21 {x : Int64} : wps rm K Q c_M_far_21 kc ks loc ([.long x]) h = (kc = rm.cells ∧ Q (some (.long x)) h) := gk_lret
theorem s_M_far_22 {x : Nat} {l : eg_Lo} : wps rm K Q c_M_far_22 kc ks (some (.ref x) :: l) (st) h = wps rm K Q c_M_far_23 kc ks (some (.ref x) :: l) (.ref x :: st) h := gk_aload rfl
theorem s_M_far_23 {x : Int32} {l0 : Option Value} {l : eg_Lo} : wps rm K Q c_M_far_23 kc ks (l0 :: some (.int x) :: l) (st) h = wps rm K Q c_M_far_24 kc ks (l0 :: some (.int x) :: l) (.int x :: st) h := gk_iload rfl
theorem s_M_far_24 {x : Int32} {l0 l1 : Option Value} {l : eg_Lo} : wps rm K Q c_M_far_24 kc ks (l0 :: l1 :: some (.int x) :: l) (st) h = wps rm K Q c_M_far_25 kc ks (l0 :: l1 :: some (.int x) :: l) (.int x :: st) h := gk_iload rfl
theorem s_M_far_25  {a1 : Value} {a2 : Value} : wps rm K Q c_M_far_25 kc ks loc (a2 :: a1 :: st) h = (st.length ≤ 4 ∧ eg_Cs n_M_at_II [a1, a2] h (fun v h9 => wps rm K Q c_M_far_28 kc ks loc (v.toList ++ st) h9)) := eg_c0_2
theorem s_M_far_28  {a1 : Value} {x : Nat} : wps rm K Q c_M_far_28 kc ks loc (a1 :: .ref (x + 1) :: st) h = (eg_cls h x 12 ∧ st.length ≤ 4 ∧ eg_Cs n_M_nearestOf (.ref (x + 1) :: [a1]) h (fun v h9 => wps rm K Q c_M_far_31 kc ks loc (v.toList ++ st) h9)) := eg_c1_1
theorem s_M_far_31 {x : Int32} : wps rm K Q c_M_far_31 kc ks loc (.int x :: st) h = wps rm K Q c_M_far_33 kc ks (eg_set1 loc 6 (.int x)) (st) h := gk_istore
theorem s_M_far_33 {x : Nat} {l : eg_Lo} : wps rm K Q c_M_far_33 kc ks (some (.ref x) :: l) (st) h = wps rm K Q c_M_far_34 kc ks (some (.ref x) :: l) (.ref x :: st) h := gk_aload rfl
theorem s_M_far_34 {x : Nat} : wps rm K Q c_M_far_34 kc ks loc (.ref (x + 1) :: st) h = eg_gf h x 12 37 (fun v => wps rm K Q c_M_far_37 kc ks loc (v :: st) h) := gk_gf
theorem s_M_far_37 {x : Nat} {l : eg_Lo} : wps rm K Q c_M_far_37 kc ks (some (.ref x) :: l) (st) h = wps rm K Q c_M_far_38 kc ks (some (.ref x) :: l) (.ref x :: st) h := gk_aload rfl
theorem s_M_far_38 {x : Nat} : wps rm K Q c_M_far_38 kc ks loc (.ref (x + 1) :: st) h = eg_gf h x 12 38 (fun v => wps rm K Q c_M_far_41 kc ks loc (v :: st) h) := gk_gf
theorem s_M_far_41  {a1 : Value} {a2 : Value} : wps rm K Q c_M_far_41 kc ks loc (a2 :: a1 :: st) h = (st.length ≤ 4 ∧ eg_Cs n_M_common [a1, a2] h (fun v h9 => wps rm K Q c_M_far_44 kc ks loc (v.toList ++ st) h9)) := eg_c0_2
theorem s_M_far_44 {x : Int64} : wps rm K Q c_M_far_44 kc ks loc (.long x :: st) h = wps rm K Q c_M_far_46 kc ks (eg_set2 loc 7 (.long x)) (st) h := gk_lstore
theorem s_M_far_46 {x : Int32} {l0 l1 l2 l3 l4 l5 : Option Value} {l : eg_Lo} : wps rm K Q c_M_far_46 kc ks (l0 :: l1 :: l2 :: l3 :: l4 :: l5 :: some (.int x) :: l) (st) h = wps rm K Q c_M_far_48 kc ks (l0 :: l1 :: l2 :: l3 :: l4 :: l5 :: some (.int x) :: l) (.int x :: st) h := gk_iload rfl
theorem s_M_far_48 {x : Int32} : wps rm K Q c_M_far_48 kc ks loc (.int x :: st) h = ((0 ≤ x → K 55 kc ks loc st h) ∧ (¬ 0 ≤ x → wps rm K Q c_M_far_51 kc ks loc (st) h)) := gk_if1_ge
theorem s_M_far_51  : wps rm K Q c_M_far_51 kc ks loc (st) h = wps rm K Q c_M_far_52 kc ks loc (.long (0) :: st) h := gk_lc (by decide)
theorem s_M_far_52  : wps rm K Q c_M_far_52 kc ks loc (st) h = K 76 kc ks loc st h := gk_goto
theorem s_M_far_55 {x : Int32} {l0 l1 l2 : Option Value} {l : eg_Lo} : wps rm K Q c_M_far_55 kc ks (l0 :: l1 :: l2 :: some (.int x) :: l) (st) h = wps rm K Q c_M_far_56 kc ks (l0 :: l1 :: l2 :: some (.int x) :: l) (.int x :: st) h := gk_iload rfl
theorem s_M_far_56 {x : Int32} : wps rm K Q c_M_far_56 kc ks loc (.int x :: st) h = ((x = 0 → K 69 kc ks loc st h) ∧ (¬ x = 0 → wps rm K Q c_M_far_59 kc ks loc (st) h)) := gk_if1_eq
theorem s_M_far_59 {x : Nat} {l : eg_Lo} : wps rm K Q c_M_far_59 kc ks (some (.ref x) :: l) (st) h = wps rm K Q c_M_far_60 kc ks (some (.ref x) :: l) (.ref x :: st) h := gk_aload rfl
theorem s_M_far_60 {x : Nat} : wps rm K Q c_M_far_60 kc ks loc (.ref (x + 1) :: st) h = eg_gf h x 12 38 (fun v => wps rm K Q c_M_far_63 kc ks loc (v :: st) h) := gk_gf
theorem s_M_far_63 {x : Int64} {l0 l1 l2 l3 l4 l5 l6 : Option Value} {l : eg_Lo} : wps rm K Q c_M_far_63 kc ks (l0 :: l1 :: l2 :: l3 :: l4 :: l5 :: l6 :: some (.long x) :: l) (st) h = wps rm K Q c_M_far_65 kc ks (l0 :: l1 :: l2 :: l3 :: l4 :: l5 :: l6 :: some (.long x) :: l) (.long x :: st) h := gk_lload rfl
theorem s_M_far_65 {x y : Int64} : wps rm K Q c_M_far_65 kc ks loc (.long y :: .long x :: st) h = (¬ y = 0 ∧ wps rm K Q c_M_far_66 kc ks loc (.long (x / y) :: st) h) := gk_ldiv
theorem s_M_far_66  : wps rm K Q c_M_far_66 kc ks loc (st) h = K 76 kc ks loc st h := gk_goto
theorem s_M_far_69 {x : Nat} {l : eg_Lo} : wps rm K Q c_M_far_69 kc ks (some (.ref x) :: l) (st) h = wps rm K Q c_M_far_70 kc ks (some (.ref x) :: l) (.ref x :: st) h := gk_aload rfl
theorem s_M_far_70 {x : Nat} : wps rm K Q c_M_far_70 kc ks loc (.ref (x + 1) :: st) h = eg_gf h x 12 37 (fun v => wps rm K Q c_M_far_73 kc ks loc (v :: st) h) := gk_gf
theorem s_M_far_73 {x : Int64} {l0 l1 l2 l3 l4 l5 l6 : Option Value} {l : eg_Lo} : wps rm K Q c_M_far_73 kc ks (l0 :: l1 :: l2 :: l3 :: l4 :: l5 :: l6 :: some (.long x) :: l) (st) h = wps rm K Q c_M_far_75 kc ks (l0 :: l1 :: l2 :: l3 :: l4 :: l5 :: l6 :: some (.long x) :: l) (.long x :: st) h := gk_lload rfl
theorem s_M_far_75 {x y : Int64} : wps rm K Q c_M_far_75 kc ks loc (.long y :: .long x :: st) h = (¬ y = 0 ∧ wps rm K Q c_M_far_76 kc ks loc (.long (x / y) :: st) h) := gk_ldiv
theorem s_M_far_76 {x : Int64} : wps rm K Q c_M_far_76 kc ks loc ([.long x]) h = (kc = rm.cells ∧ Q (some (.long x)) h) := gk_lret
def T_M_far : List (Nat × List eg_I) := [(22, c_M_far_22), (55, c_M_far_55), (69, c_M_far_69), (76, c_M_far_76)]
theorem j_M_far_22 {R : Nat → Nat → Nat → eg_Lo → List Value → List eg_E → Prop} {f pc0 : Nat} : eg_run rm R Q T_M_far (f + 1) 22 kc ks loc st h = wps rm (eg_run rm R Q T_M_far f) Q c_M_far_22 kc ks loc st h := rfl
theorem j_M_far_55 {R : Nat → Nat → Nat → eg_Lo → List Value → List eg_E → Prop} {f pc0 : Nat} : eg_run rm R Q T_M_far (f + 1) 55 kc ks loc st h = wps rm (eg_run rm R Q T_M_far f) Q c_M_far_55 kc ks loc st h := rfl
theorem j_M_far_69 {R : Nat → Nat → Nat → eg_Lo → List Value → List eg_E → Prop} {f pc0 : Nat} : eg_run rm R Q T_M_far (f + 1) 69 kc ks loc st h = wps rm (eg_run rm R Q T_M_far f) Q c_M_far_69 kc ks loc st h := rfl
theorem j_M_far_76 {R : Nat → Nat → Nat → eg_Lo → List Value → List eg_E → Prop} {f pc0 : Nat} : eg_run rm R Q T_M_far (f + 1) 76 kc ks loc st h = wps rm (eg_run rm R Q T_M_far f) Q c_M_far_76 kc ks loc st h := rfl
end
theorem y_M_far_0 : eg_seq m_M_far 0 c_M_far_0 = true := by decide +kernel
theorem y_M_far_22 : eg_seq m_M_far 22 c_M_far_22 = true := by decide +kernel
theorem y_M_far_55 : eg_seq m_M_far 55 c_M_far_55 = true := by decide +kernel
theorem y_M_far_69 : eg_seq m_M_far 69 c_M_far_69 = true := by decide +kernel
theorem q_M_far : ∀ q ∈ T_M_far, eg_seq m_M_far q.1 q.2 = true := by
  intro q hq
  simp only [T_M_far, List.mem_cons, List.not_mem_nil, or_false] at hq
  rcases hq with rfl | rfl | rfl | rfl
  · exact y_M_far_22
  · exact y_M_far_55
  · exact y_M_far_69
  · exact (eg_seq_drop y_M_far_69 4 : eg_seq m_M_far 76 c_M_far_76 = true)
theorem md_M_far : eg_md n_M_far = m_M_far := rfl
theorem mn_M_far : n_M_far < 202 := Nat.le_of_ble_eq_true rfl
theorem b_M_far {as : List Value} {h : List eg_E} {Q : Option Value → List eg_E → Prop} (hf : (eg_fl as).length ≤ 9) : wps (eg_rm m_M_far) (eg_run (eg_rm m_M_far) (eg_R m_M_far Q (h.length + 0)) Q T_M_far 6) Q c_M_far_0 0 0 (eg_entry 9 as) [] h → eg_Runs n_M_far as h Q := eg_begin2 md_M_far mn_M_far y_M_far_0 q_M_far hf
/-! ===== M_box ===== -/
def c_M_box_217 : List eg_I := .inl (217, 1, .lreturn, 0, 0) :: []
def c_M_box_216 : List eg_I := .inl (216, 1, .i2l, 0, 0) :: c_M_box_217
def c_M_box_215 : List eg_I := .inl (215, 1, .isub, 0, 0) :: c_M_box_216
def c_M_box_214 : List eg_I := .inl (214, 1, .iconst (1), 0, 0) :: c_M_box_215
def c_M_box_211 : List eg_I := .inl (211, 3, .getfield 296, 12, 20) :: c_M_box_214
def c_M_box_210 : List eg_I := .inl (210, 1, .aload 0, 0, 0) :: c_M_box_211
def c_M_box_207 : List eg_I := .inl (207, 3, .putfield 296, 12, 20) :: c_M_box_210
def c_M_box_206 : List eg_I := .inl (206, 1, .iadd, 0, 0) :: c_M_box_207
def c_M_box_205 : List eg_I := .inl (205, 1, .iconst (1), 0, 0) :: c_M_box_206
def c_M_box_202 : List eg_I := .inl (202, 3, .getfield 296, 12, 20) :: c_M_box_205
def c_M_box_201 : List eg_I := .inl (201, 1, .dup, 0, 0) :: c_M_box_202
def c_M_box_200 : List eg_I := .inl (200, 1, .aload 0, 0, 0) :: c_M_box_201
def c_M_box_199 : List eg_I := .inl (199, 1, .iastore, 0, 0) :: c_M_box_200
def c_M_box_198 : List eg_I := .inl (198, 1, .iadd, 0, 0) :: c_M_box_199
def c_M_box_196 : List eg_I := .inl (196, 2, .iload 6, 0, 0) :: c_M_box_198
def c_M_box_195 : List eg_I := .inl (195, 1, .iload 3, 0, 0) :: c_M_box_196
def c_M_box_194 : List eg_I := .inl (194, 1, .iadd, 0, 0) :: c_M_box_195
def c_M_box_193 : List eg_I := .inl (193, 1, .iconst (5), 0, 0) :: c_M_box_194
def c_M_box_191 : List eg_I := .inl (191, 2, .iload 8, 0, 0) :: c_M_box_193
def c_M_box_188 : List eg_I := .inl (188, 3, .getfield 66, 12, 21) :: c_M_box_191
def c_M_box_187 : List eg_I := .inl (187, 1, .aload 0, 0, 0) :: c_M_box_188
def c_M_box_186 : List eg_I := .inl (186, 1, .iastore, 0, 0) :: c_M_box_187
def c_M_box_185 : List eg_I := .inl (185, 1, .iload 3, 0, 0) :: c_M_box_186
def c_M_box_184 : List eg_I := .inl (184, 1, .iadd, 0, 0) :: c_M_box_185
def c_M_box_183 : List eg_I := .inl (183, 1, .iconst (4), 0, 0) :: c_M_box_184
def c_M_box_181 : List eg_I := .inl (181, 2, .iload 8, 0, 0) :: c_M_box_183
def c_M_box_178 : List eg_I := .inl (178, 3, .getfield 66, 12, 21) :: c_M_box_181
def c_M_box_177 : List eg_I := .inl (177, 1, .aload 0, 0, 0) :: c_M_box_178
def c_M_box_176 : List eg_I := .inl (176, 1, .iastore, 0, 0) :: c_M_box_177
def c_M_box_175 : List eg_I := .inl (175, 1, .iadd, 0, 0) :: c_M_box_176
def c_M_box_173 : List eg_I := .inl (173, 2, .iload 5, 0, 0) :: c_M_box_175
def c_M_box_172 : List eg_I := .inl (172, 1, .iload 2, 0, 0) :: c_M_box_173
def c_M_box_171 : List eg_I := .inl (171, 1, .iadd, 0, 0) :: c_M_box_172
def c_M_box_170 : List eg_I := .inl (170, 1, .iconst (3), 0, 0) :: c_M_box_171
def c_M_box_168 : List eg_I := .inl (168, 2, .iload 8, 0, 0) :: c_M_box_170
def c_M_box_165 : List eg_I := .inl (165, 3, .getfield 66, 12, 21) :: c_M_box_168
def c_M_box_164 : List eg_I := .inl (164, 1, .aload 0, 0, 0) :: c_M_box_165
def c_M_box_163 : List eg_I := .inl (163, 1, .iastore, 0, 0) :: c_M_box_164
def c_M_box_162 : List eg_I := .inl (162, 1, .iload 2, 0, 0) :: c_M_box_163
def c_M_box_161 : List eg_I := .inl (161, 1, .iadd, 0, 0) :: c_M_box_162
def c_M_box_160 : List eg_I := .inl (160, 1, .iconst (2), 0, 0) :: c_M_box_161
def c_M_box_158 : List eg_I := .inl (158, 2, .iload 8, 0, 0) :: c_M_box_160
def c_M_box_155 : List eg_I := .inl (155, 3, .getfield 66, 12, 21) :: c_M_box_158
def c_M_box_154 : List eg_I := .inl (154, 1, .aload 0, 0, 0) :: c_M_box_155
def c_M_box_153 : List eg_I := .inl (153, 1, .iastore, 0, 0) :: c_M_box_154
def c_M_box_152 : List eg_I := .inl (152, 1, .iadd, 0, 0) :: c_M_box_153
def c_M_box_150 : List eg_I := .inl (150, 2, .iload 4, 0, 0) :: c_M_box_152
def c_M_box_149 : List eg_I := .inl (149, 1, .iload 1, 0, 0) :: c_M_box_150
def c_M_box_148 : List eg_I := .inl (148, 1, .iadd, 0, 0) :: c_M_box_149
def c_M_box_147 : List eg_I := .inl (147, 1, .iconst (1), 0, 0) :: c_M_box_148
def c_M_box_145 : List eg_I := .inl (145, 2, .iload 8, 0, 0) :: c_M_box_147
def c_M_box_142 : List eg_I := .inl (142, 3, .getfield 66, 12, 21) :: c_M_box_145
def c_M_box_141 : List eg_I := .inl (141, 1, .aload 0, 0, 0) :: c_M_box_142
def c_M_box_140 : List eg_I := .inl (140, 1, .iastore, 0, 0) :: c_M_box_141
def c_M_box_139 : List eg_I := .inl (139, 1, .iload 1, 0, 0) :: c_M_box_140
def c_M_box_137 : List eg_I := .inl (137, 2, .iload 8, 0, 0) :: c_M_box_139
def c_M_box_134 : List eg_I := .inl (134, 3, .getfield 66, 12, 21) :: c_M_box_137
def c_M_box_133 : List eg_I := .inl (133, 1, .aload 0, 0, 0) :: c_M_box_134
def c_M_box_131 : List eg_I := .inl (131, 2, .istore 8, 0, 0) :: c_M_box_133
def c_M_box_130 : List eg_I := .inl (130, 1, .imul, 0, 0) :: c_M_box_131
def c_M_box_127 : List eg_I := .inl (127, 3, .getfield 296, 12, 20) :: c_M_box_130
def c_M_box_126 : List eg_I := .inl (126, 1, .aload 0, 0, 0) :: c_M_box_127
def c_M_box_124 : List eg_I := .inl (124, 2, .iconst (6), 0, 0) :: c_M_box_126
def c_M_box_123 : List eg_I := .inl (123, 1, .lreturn, 0, 0) :: []
def c_M_box_120 : List eg_I := .inr (120, 1, 112, n_M_finding, 1, 12, 0, 0) :: c_M_box_123
def c_M_box_117 : List eg_I := .inl (117, 3, .sipush (-1000000000000000005), 116, 0) :: c_M_box_120
def c_M_box_116 : List eg_I := .inl (116, 1, .aload 0, 0, 0) :: c_M_box_117
def c_M_box_113 : List eg_I := .inl (113, 3, .if_icmp .ne (11), 124, 0) :: c_M_box_116
def c_M_box_111 : List eg_I := .inl (111, 2, .iconst (6), 0, 0) :: c_M_box_113
def c_M_box_108 : List eg_I := .inl (108, 3, .getfield 296, 12, 20) :: c_M_box_111
def c_M_box_107 : List eg_I := .inl (107, 1, .aload 0, 0, 0) :: c_M_box_108
def c_M_box_106 : List eg_I := .inl (106, 1, .lreturn, 0, 0) :: []
def c_M_box_103 : List eg_I := .inr (103, 1, 112, n_M_finding, 1, 12, 0, 0) :: c_M_box_106
def c_M_box_100 : List eg_I := .inl (100, 3, .sipush (-1000000000000000001), 110, 0) :: c_M_box_103
def c_M_box_99 : List eg_I := .inl (99, 1, .aload 0, 0, 0) :: c_M_box_100
def c_M_box_96 : List eg_I := .inl (96, 3, .if_icmp .le (11), 107, 0) :: c_M_box_99
def c_M_box_93 : List eg_I := .inl (93, 3, .iconst (300), 0, 0) :: c_M_box_96
def c_M_box_92 : List eg_I := .inl (92, 1, .iadd, 0, 0) :: c_M_box_93
def c_M_box_90 : List eg_I := .inl (90, 2, .iload 6, 0, 0) :: c_M_box_92
def c_M_box_89 : List eg_I := .inl (89, 1, .iload 3, 0, 0) :: c_M_box_90
def c_M_box_86 : List eg_I := .inl (86, 3, .if_icmp .gt (13), 99, 0) :: c_M_box_89
def c_M_box_83 : List eg_I := .inl (83, 3, .iconst (300), 0, 0) :: c_M_box_86
def c_M_box_82 : List eg_I := .inl (82, 1, .iadd, 0, 0) :: c_M_box_83
def c_M_box_80 : List eg_I := .inl (80, 2, .iload 5, 0, 0) :: c_M_box_82
def c_M_box_79 : List eg_I := .inl (79, 1, .iload 2, 0, 0) :: c_M_box_80
def c_M_box_76 : List eg_I := .inl (76, 3, .if_icmp .gt (23), 99, 0) :: c_M_box_79
def c_M_box_73 : List eg_I := .inl (73, 3, .iconst (300), 0, 0) :: c_M_box_76
def c_M_box_72 : List eg_I := .inl (72, 1, .iadd, 0, 0) :: c_M_box_73
def c_M_box_70 : List eg_I := .inl (70, 2, .iload 4, 0, 0) :: c_M_box_72
def c_M_box_69 : List eg_I := .inl (69, 1, .iload 1, 0, 0) :: c_M_box_70
def c_M_box_66 : List eg_I := .inl (66, 3, .ifCond .eq (33), 99, 0) :: c_M_box_69
def c_M_box_64 : List eg_I := .inl (64, 2, .iload 7, 0, 0) :: c_M_box_66
def c_M_box_62 : List eg_I := .inl (62, 2, .istore 7, 0, 0) :: c_M_box_64
def c_M_box_61 : List eg_I := .inl (61, 1, .iconst (0), 0, 0) :: c_M_box_62
def c_M_box_58 : List eg_I := .inl (58, 3, .goto (4), 62, 0) :: []
def c_M_box_57 : List eg_I := .inl (57, 1, .iconst (1), 0, 0) :: c_M_box_58
def c_M_box_54 : List eg_I := .inl (54, 3, .ifCond .eq (7), 61, 0) :: c_M_box_57
def c_M_box_51 : List eg_I := .inr (51, 0, 95, n_M_isIn, 3, 12, 0, 0) :: c_M_box_54
def c_M_box_48 : List eg_I := .inl (48, 3, .iconst (300), 0, 0) :: c_M_box_51
def c_M_box_47 : List eg_I := .inl (47, 1, .iconst (1), 0, 0) :: c_M_box_48
def c_M_box_45 : List eg_I := .inl (45, 2, .iload 6, 0, 0) :: c_M_box_47
def c_M_box_42 : List eg_I := .inl (42, 3, .ifCond .eq (19), 61, 0) :: c_M_box_45
def c_M_box_39 : List eg_I := .inr (39, 0, 95, n_M_isIn, 3, 12, 0, 0) :: c_M_box_42
def c_M_box_36 : List eg_I := .inl (36, 3, .iconst (300), 0, 0) :: c_M_box_39
def c_M_box_35 : List eg_I := .inl (35, 1, .iconst (1), 0, 0) :: c_M_box_36
def c_M_box_33 : List eg_I := .inl (33, 2, .iload 5, 0, 0) :: c_M_box_35
def c_M_box_30 : List eg_I := .inl (30, 3, .ifCond .eq (31), 61, 0) :: c_M_box_33
def c_M_box_27 : List eg_I := .inr (27, 0, 95, n_M_isIn, 3, 12, 0, 0) :: c_M_box_30
def c_M_box_24 : List eg_I := .inl (24, 3, .iconst (300), 0, 0) :: c_M_box_27
def c_M_box_23 : List eg_I := .inl (23, 1, .iconst (1), 0, 0) :: c_M_box_24
def c_M_box_21 : List eg_I := .inl (21, 2, .iload 4, 0, 0) :: c_M_box_23
def c_M_box_18 : List eg_I := .inl (18, 3, .ifCond .eq (43), 61, 0) :: c_M_box_21
def c_M_box_15 : List eg_I := .inr (15, 0, 107, n_M_isNear, 1, 12, 0, 0) :: c_M_box_18
def c_M_box_14 : List eg_I := .inl (14, 1, .iload 3, 0, 0) :: c_M_box_15
def c_M_box_11 : List eg_I := .inl (11, 3, .ifCond .eq (50), 61, 0) :: c_M_box_14
def c_M_box_8 : List eg_I := .inr (8, 0, 107, n_M_isNear, 1, 12, 0, 0) :: c_M_box_11
def c_M_box_7 : List eg_I := .inl (7, 1, .iload 2, 0, 0) :: c_M_box_8
def c_M_box_4 : List eg_I := .inl (4, 3, .ifCond .eq (57), 61, 0) :: c_M_box_7
def c_M_box_1 : List eg_I := .inr (1, 0, 107, n_M_isNear, 1, 12, 0, 0) :: c_M_box_4
def c_M_box_0 : List eg_I := .inl (0, 1, .iload 1, 0, 0) :: c_M_box_1
section
variable {rm : Room} {K : Nat → Nat → Nat → eg_Lo → List Value → List eg_E → Prop} {Q : Option Value → List eg_E → Prop} {kc ks : Nat} {loc : eg_Lo} {st : List Value} {h : List eg_E}
theorem s_M_box_0 {x : Int32} {l0 : Option Value} {l : eg_Lo} : wps rm K Q c_M_box_0 kc ks (l0 :: some (.int x) :: l) (st) h = wps rm K Q c_M_box_1 kc ks (l0 :: some (.int x) :: l) (.int x :: st) h := gk_iload rfl
theorem s_M_box_1  {a1 : Value} : wps rm K Q c_M_box_1 kc ks loc (a1 :: st) h = (st.length ≤ 4 ∧ eg_Cs n_M_isNear [a1] h (fun v h9 => wps rm K Q c_M_box_4 kc ks loc (v.toList ++ st) h9)) := eg_c0_1
theorem s_M_box_4 {x : Int32} : wps rm K Q c_M_box_4 kc ks loc (.int x :: st) h = ((x = 0 → K 61 kc ks loc st h) ∧ (¬ x = 0 → wps rm K Q c_M_box_7 kc ks loc (st) h)) := gk_if1_eq
theorem s_M_box_7 {x : Int32} {l0 l1 : Option Value} {l : eg_Lo} : wps rm K Q c_M_box_7 kc ks (l0 :: l1 :: some (.int x) :: l) (st) h = wps rm K Q c_M_box_8 kc ks (l0 :: l1 :: some (.int x) :: l) (.int x :: st) h := gk_iload rfl
theorem s_M_box_8  {a1 : Value} : wps rm K Q c_M_box_8 kc ks loc (a1 :: st) h = (st.length ≤ 4 ∧ eg_Cs n_M_isNear [a1] h (fun v h9 => wps rm K Q c_M_box_11 kc ks loc (v.toList ++ st) h9)) := eg_c0_1
theorem s_M_box_11 {x : Int32} : wps rm K Q c_M_box_11 kc ks loc (.int x :: st) h = ((x = 0 → K 61 kc ks loc st h) ∧ (¬ x = 0 → wps rm K Q c_M_box_14 kc ks loc (st) h)) := gk_if1_eq
theorem s_M_box_14 {x : Int32} {l0 l1 l2 : Option Value} {l : eg_Lo} : wps rm K Q c_M_box_14 kc ks (l0 :: l1 :: l2 :: some (.int x) :: l) (st) h = wps rm K Q c_M_box_15 kc ks (l0 :: l1 :: l2 :: some (.int x) :: l) (.int x :: st) h := gk_iload rfl
theorem s_M_box_15  {a1 : Value} : wps rm K Q c_M_box_15 kc ks loc (a1 :: st) h = (st.length ≤ 4 ∧ eg_Cs n_M_isNear [a1] h (fun v h9 => wps rm K Q c_M_box_18 kc ks loc (v.toList ++ st) h9)) := eg_c0_1
theorem s_M_box_18 {x : Int32} : wps rm K Q c_M_box_18 kc ks loc (.int x :: st) h = ((x = 0 → K 61 kc ks loc st h) ∧ (¬ x = 0 → wps rm K Q c_M_box_21 kc ks loc (st) h)) := gk_if1_eq
theorem s_M_box_21 {x : Int32} {l0 l1 l2 l3 : Option Value} {l : eg_Lo} : wps rm K Q c_M_box_21 kc ks (l0 :: l1 :: l2 :: l3 :: some (.int x) :: l) (st) h = wps rm K Q c_M_box_23 kc ks (l0 :: l1 :: l2 :: l3 :: some (.int x) :: l) (.int x :: st) h := gk_iload rfl
theorem s_M_box_23  : wps rm K Q c_M_box_23 kc ks loc (st) h = wps rm K Q c_M_box_24 kc ks loc (.int (1) :: st) h := gk_ic (by decide)
theorem s_M_box_24  : wps rm K Q c_M_box_24 kc ks loc (st) h = wps rm K Q c_M_box_27 kc ks loc (.int (300) :: st) h := gk_ic (by decide)
theorem s_M_box_27  {a1 : Value} {a2 : Value} {a3 : Value} : wps rm K Q c_M_box_27 kc ks loc (a3 :: a2 :: a1 :: st) h = (st.length ≤ 4 ∧ eg_Cs n_M_isIn [a1, a2, a3] h (fun v h9 => wps rm K Q c_M_box_30 kc ks loc (v.toList ++ st) h9)) := eg_c0_3
theorem s_M_box_30 {x : Int32} : wps rm K Q c_M_box_30 kc ks loc (.int x :: st) h = ((x = 0 → K 61 kc ks loc st h) ∧ (¬ x = 0 → wps rm K Q c_M_box_33 kc ks loc (st) h)) := gk_if1_eq
theorem s_M_box_33 {x : Int32} {l0 l1 l2 l3 l4 : Option Value} {l : eg_Lo} : wps rm K Q c_M_box_33 kc ks (l0 :: l1 :: l2 :: l3 :: l4 :: some (.int x) :: l) (st) h = wps rm K Q c_M_box_35 kc ks (l0 :: l1 :: l2 :: l3 :: l4 :: some (.int x) :: l) (.int x :: st) h := gk_iload rfl
theorem s_M_box_35  : wps rm K Q c_M_box_35 kc ks loc (st) h = wps rm K Q c_M_box_36 kc ks loc (.int (1) :: st) h := gk_ic (by decide)
theorem s_M_box_36  : wps rm K Q c_M_box_36 kc ks loc (st) h = wps rm K Q c_M_box_39 kc ks loc (.int (300) :: st) h := gk_ic (by decide)
theorem s_M_box_39  {a1 : Value} {a2 : Value} {a3 : Value} : wps rm K Q c_M_box_39 kc ks loc (a3 :: a2 :: a1 :: st) h = (st.length ≤ 4 ∧ eg_Cs n_M_isIn [a1, a2, a3] h (fun v h9 => wps rm K Q c_M_box_42 kc ks loc (v.toList ++ st) h9)) := eg_c0_3
theorem s_M_box_42 {x : Int32} : wps rm K Q c_M_box_42 kc ks loc (.int x :: st) h = ((x = 0 → K 61 kc ks loc st h) ∧ (¬ x = 0 → wps rm K Q c_M_box_45 kc ks loc (st) h)) := gk_if1_eq
theorem s_M_box_45 {x : Int32} {l0 l1 l2 l3 l4 l5 : Option Value} {l : eg_Lo} : wps rm K Q c_M_box_45 kc ks (l0 :: l1 :: l2 :: l3 :: l4 :: l5 :: some (.int x) :: l) (st) h = wps rm K Q c_M_box_47 kc ks (l0 :: l1 :: l2 :: l3 :: l4 :: l5 :: some (.int x) :: l) (.int x :: st) h := gk_iload rfl
theorem s_M_box_47  : wps rm K Q c_M_box_47 kc ks loc (st) h = wps rm K Q c_M_box_48 kc ks loc (.int (1) :: st) h := gk_ic (by decide)
theorem s_M_box_48  : wps rm K Q c_M_box_48 kc ks loc (st) h = wps rm K Q c_M_box_51 kc ks loc (.int (300) :: st) h := gk_ic (by decide)
theorem s_M_box_51  {a1 : Value} {a2 : Value} {a3 : Value} : wps rm K Q c_M_box_51 kc ks loc (a3 :: a2 :: a1 :: st) h = (st.length ≤ 4 ∧ eg_Cs n_M_isIn [a1, a2, a3] h (fun v h9 => wps rm K Q c_M_box_54 kc ks loc (v.toList ++ st) h9)) := eg_c0_3
theorem s_M_box_54 {x : Int32} : wps rm K Q c_M_box_54 kc ks loc (.int x :: st) h = ((x = 0 → K 61 kc ks loc st h) ∧ (¬ x = 0 → wps rm K Q c_M_box_57 kc ks loc (st) h)) := gk_if1_eq
theorem s_M_box_57  : wps rm K Q c_M_box_57 kc ks loc (st) h = wps rm K Q c_M_box_58 kc ks loc (.int (1) :: st) h := gk_ic (by decide)
theorem s_M_box_58  : wps rm K Q c_M_box_58 kc ks loc (st) h = K 62 kc ks loc st h := gk_goto
theorem s_M_box_61  : wps rm K Q c_M_box_61 kc ks loc (st) h = wps rm K Q c_M_box_62 kc ks loc (.int (0) :: st) h := gk_ic (by decide)
theorem s_M_box_62 {x : Int32} : wps rm K Q c_M_box_62 kc ks loc (.int x :: st) h = wps rm K Q c_M_box_64 kc ks (eg_set1 loc 7 (.int x)) (st) h := gk_istore
theorem s_M_box_64 {x : Int32} {l0 l1 l2 l3 l4 l5 l6 : Option Value} {l : eg_Lo} : wps rm K Q c_M_box_64 kc ks (l0 :: l1 :: l2 :: l3 :: l4 :: l5 :: l6 :: some (.int x) :: l) (st) h = wps rm K Q c_M_box_66 kc ks (l0 :: l1 :: l2 :: l3 :: l4 :: l5 :: l6 :: some (.int x) :: l) (.int x :: st) h := gk_iload rfl
theorem s_M_box_66 {x : Int32} : wps rm K Q c_M_box_66 kc ks loc (.int x :: st) h = ((x = 0 → K 99 kc ks loc st h) ∧ (¬ x = 0 → wps rm K Q c_M_box_69 kc ks loc (st) h)) := gk_if1_eq
theorem s_M_box_69 {x : Int32} {l0 : Option Value} {l : eg_Lo} : wps rm K Q c_M_box_69 kc ks (l0 :: some (.int x) :: l) (st) h = wps rm K Q c_M_box_70 kc ks (l0 :: some (.int x) :: l) (.int x :: st) h := gk_iload rfl
theorem s_M_box_70 {x : Int32} {l0 l1 l2 l3 : Option Value} {l : eg_Lo} : wps rm K Q c_M_box_70 kc ks (l0 :: l1 :: l2 :: l3 :: some (.int x) :: l) (st) h = wps rm K Q c_M_box_72 kc ks (l0 :: l1 :: l2 :: l3 :: some (.int x) :: l) (.int x :: st) h := gk_iload rfl
theorem s_M_box_72 {x y : Int32} : wps rm K Q c_M_box_72 kc ks loc (.int y :: .int x :: st) h = wps rm K Q c_M_box_73 kc ks loc (.int (x + y) :: st) h := gk_iadd
theorem s_M_box_73  : wps rm K Q c_M_box_73 kc ks loc (st) h = wps rm K Q c_M_box_76 kc ks loc (.int (300) :: st) h := gk_ic (by decide)
theorem s_M_box_76 {x y : Int32} : wps rm K Q c_M_box_76 kc ks loc (.int y :: .int x :: st) h = ((y < x → K 99 kc ks loc st h) ∧ (¬ y < x → wps rm K Q c_M_box_79 kc ks loc (st) h)) := gk_if2_gt
theorem s_M_box_79 {x : Int32} {l0 l1 : Option Value} {l : eg_Lo} : wps rm K Q c_M_box_79 kc ks (l0 :: l1 :: some (.int x) :: l) (st) h = wps rm K Q c_M_box_80 kc ks (l0 :: l1 :: some (.int x) :: l) (.int x :: st) h := gk_iload rfl
theorem s_M_box_80 {x : Int32} {l0 l1 l2 l3 l4 : Option Value} {l : eg_Lo} : wps rm K Q c_M_box_80 kc ks (l0 :: l1 :: l2 :: l3 :: l4 :: some (.int x) :: l) (st) h = wps rm K Q c_M_box_82 kc ks (l0 :: l1 :: l2 :: l3 :: l4 :: some (.int x) :: l) (.int x :: st) h := gk_iload rfl
theorem s_M_box_82 {x y : Int32} : wps rm K Q c_M_box_82 kc ks loc (.int y :: .int x :: st) h = wps rm K Q c_M_box_83 kc ks loc (.int (x + y) :: st) h := gk_iadd
theorem s_M_box_83  : wps rm K Q c_M_box_83 kc ks loc (st) h = wps rm K Q c_M_box_86 kc ks loc (.int (300) :: st) h := gk_ic (by decide)
theorem s_M_box_86 {x y : Int32} : wps rm K Q c_M_box_86 kc ks loc (.int y :: .int x :: st) h = ((y < x → K 99 kc ks loc st h) ∧ (¬ y < x → wps rm K Q c_M_box_89 kc ks loc (st) h)) := gk_if2_gt
theorem s_M_box_89 {x : Int32} {l0 l1 l2 : Option Value} {l : eg_Lo} : wps rm K Q c_M_box_89 kc ks (l0 :: l1 :: l2 :: some (.int x) :: l) (st) h = wps rm K Q c_M_box_90 kc ks (l0 :: l1 :: l2 :: some (.int x) :: l) (.int x :: st) h := gk_iload rfl
theorem s_M_box_90 {x : Int32} {l0 l1 l2 l3 l4 l5 : Option Value} {l : eg_Lo} : wps rm K Q c_M_box_90 kc ks (l0 :: l1 :: l2 :: l3 :: l4 :: l5 :: some (.int x) :: l) (st) h = wps rm K Q c_M_box_92 kc ks (l0 :: l1 :: l2 :: l3 :: l4 :: l5 :: some (.int x) :: l) (.int x :: st) h := gk_iload rfl
theorem s_M_box_92 {x y : Int32} : wps rm K Q c_M_box_92 kc ks loc (.int y :: .int x :: st) h = wps rm K Q c_M_box_93 kc ks loc (.int (x + y) :: st) h := gk_iadd
theorem s_M_box_93  : wps rm K Q c_M_box_93 kc ks loc (st) h = wps rm K Q c_M_box_96 kc ks loc (.int (300) :: st) h := gk_ic (by decide)
theorem s_M_box_96 {x y : Int32} : wps rm K Q c_M_box_96 kc ks loc (.int y :: .int x :: st) h = ((x ≤ y → K 107 kc ks loc st h) ∧ (¬ x ≤ y → wps rm K Q c_M_box_99 kc ks loc (st) h)) := gk_if2_le
theorem s_M_box_99 {x : Nat} {l : eg_Lo} : wps rm K Q c_M_box_99 kc ks (some (.ref x) :: l) (st) h = wps rm K Q c_M_box_100 kc ks (some (.ref x) :: l) (.ref x :: st) h := gk_aload rfl
theorem s_M_box_100  : wps rm K Q c_M_box_100 kc ks loc (st) h = wps rm K Q c_M_box_103 kc ks loc (.long (-1000000000000000001) :: st) h := gk_lc (by decide)
theorem s_M_box_103  {a1 : Value} {x : Nat} : wps rm K Q c_M_box_103 kc ks loc (a1 :: .ref (x + 1) :: st) h = (eg_cls h x 12 ∧ st.length ≤ 4 ∧ eg_Cs n_M_finding (.ref (x + 1) :: [a1]) h (fun v h9 => wps rm K Q c_M_box_106 kc ks loc (v.toList ++ st) h9)) := eg_c1_1
theorem s_M_box_106 {x : Int64} : wps rm K Q c_M_box_106 kc ks loc ([.long x]) h = (kc = rm.cells ∧ Q (some (.long x)) h) := gk_lret
theorem s_M_box_107 {x : Nat} {l : eg_Lo} : wps rm K Q c_M_box_107 kc ks (some (.ref x) :: l) (st) h = wps rm K Q c_M_box_108 kc ks (some (.ref x) :: l) (.ref x :: st) h := gk_aload rfl
theorem s_M_box_108 {x : Nat} : wps rm K Q c_M_box_108 kc ks loc (.ref (x + 1) :: st) h = eg_gf h x 12 20 (fun v => wps rm K Q c_M_box_111 kc ks loc (v :: st) h) := gk_gf
theorem s_M_box_111  : wps rm K Q c_M_box_111 kc ks loc (st) h = wps rm K Q c_M_box_113 kc ks loc (.int (6) :: st) h := gk_ic (by decide)
theorem s_M_box_113 {x y : Int32} : wps rm K Q c_M_box_113 kc ks loc (.int y :: .int x :: st) h = ((¬ x = y → K 124 kc ks loc st h) ∧ (x = y → wps rm K Q c_M_box_116 kc ks loc (st) h)) := gk_if2_ne
theorem s_M_box_116 {x : Nat} {l : eg_Lo} : wps rm K Q c_M_box_116 kc ks (some (.ref x) :: l) (st) h = wps rm K Q c_M_box_117 kc ks (some (.ref x) :: l) (.ref x :: st) h := gk_aload rfl
theorem s_M_box_117  : wps rm K Q c_M_box_117 kc ks loc (st) h = wps rm K Q c_M_box_120 kc ks loc (.long (-1000000000000000005) :: st) h := gk_lc (by decide)
theorem s_M_box_120  {a1 : Value} {x : Nat} : wps rm K Q c_M_box_120 kc ks loc (a1 :: .ref (x + 1) :: st) h = (eg_cls h x 12 ∧ st.length ≤ 4 ∧ eg_Cs n_M_finding (.ref (x + 1) :: [a1]) h (fun v h9 => wps rm K Q c_M_box_123 kc ks loc (v.toList ++ st) h9)) := eg_c1_1
theorem s_M_box_123 {x : Int64} : wps rm K Q c_M_box_123 kc ks loc ([.long x]) h = (kc = rm.cells ∧ Q (some (.long x)) h) := gk_lret
theorem s_M_box_124  : wps rm K Q c_M_box_124 kc ks loc (st) h = wps rm K Q c_M_box_126 kc ks loc (.int (6) :: st) h := gk_ic (by decide)
theorem s_M_box_126 {x : Nat} {l : eg_Lo} : wps rm K Q c_M_box_126 kc ks (some (.ref x) :: l) (st) h = wps rm K Q c_M_box_127 kc ks (some (.ref x) :: l) (.ref x :: st) h := gk_aload rfl
theorem s_M_box_127 {x : Nat} : wps rm K Q c_M_box_127 kc ks loc (.ref (x + 1) :: st) h = eg_gf h x 12 20 (fun v => wps rm K Q c_M_box_130 kc ks loc (v :: st) h) := gk_gf
theorem s_M_box_130 {x y : Int32} : wps rm K Q c_M_box_130 kc ks loc (.int y :: .int x :: st) h = wps rm K Q c_M_box_131 kc ks loc (.int (x * y) :: st) h := gk_imul
theorem s_M_box_131 {x : Int32} : wps rm K Q c_M_box_131 kc ks loc (.int x :: st) h = wps rm K Q c_M_box_133 kc ks (eg_set1 loc 8 (.int x)) (st) h := gk_istore
theorem s_M_box_133 {x : Nat} {l : eg_Lo} : wps rm K Q c_M_box_133 kc ks (some (.ref x) :: l) (st) h = wps rm K Q c_M_box_134 kc ks (some (.ref x) :: l) (.ref x :: st) h := gk_aload rfl
theorem s_M_box_134 {x : Nat} : wps rm K Q c_M_box_134 kc ks loc (.ref (x + 1) :: st) h = eg_gf h x 12 21 (fun v => wps rm K Q c_M_box_137 kc ks loc (v :: st) h) := gk_gf
theorem s_M_box_137 {x : Int32} {l0 l1 l2 l3 l4 l5 l6 l7 : Option Value} {l : eg_Lo} : wps rm K Q c_M_box_137 kc ks (l0 :: l1 :: l2 :: l3 :: l4 :: l5 :: l6 :: l7 :: some (.int x) :: l) (st) h = wps rm K Q c_M_box_139 kc ks (l0 :: l1 :: l2 :: l3 :: l4 :: l5 :: l6 :: l7 :: some (.int x) :: l) (.int x :: st) h := gk_iload rfl
theorem s_M_box_139 {x : Int32} {l0 : Option Value} {l : eg_Lo} : wps rm K Q c_M_box_139 kc ks (l0 :: some (.int x) :: l) (st) h = wps rm K Q c_M_box_140 kc ks (l0 :: some (.int x) :: l) (.int x :: st) h := gk_iload rfl
theorem s_M_box_140 {x : Nat} {i : Int32} {v : Int32} : wps rm K Q c_M_box_140 kc ks loc (.int v :: .int i :: .ref (x + 1) :: st) h = eg_is h x i v (fun h9 => wps rm K Q c_M_box_141 kc ks loc (st) h9) := gk_iastore
theorem s_M_box_141 {x : Nat} {l : eg_Lo} : wps rm K Q c_M_box_141 kc ks (some (.ref x) :: l) (st) h = wps rm K Q c_M_box_142 kc ks (some (.ref x) :: l) (.ref x :: st) h := gk_aload rfl
theorem s_M_box_142 {x : Nat} : wps rm K Q c_M_box_142 kc ks loc (.ref (x + 1) :: st) h = eg_gf h x 12 21 (fun v => wps rm K Q c_M_box_145 kc ks loc (v :: st) h) := gk_gf
theorem s_M_box_145 {x : Int32} {l0 l1 l2 l3 l4 l5 l6 l7 : Option Value} {l : eg_Lo} : wps rm K Q c_M_box_145 kc ks (l0 :: l1 :: l2 :: l3 :: l4 :: l5 :: l6 :: l7 :: some (.int x) :: l) (st) h = wps rm K Q c_M_box_147 kc ks (l0 :: l1 :: l2 :: l3 :: l4 :: l5 :: l6 :: l7 :: some (.int x) :: l) (.int x :: st) h := gk_iload rfl
theorem s_M_box_147  : wps rm K Q c_M_box_147 kc ks loc (st) h = wps rm K Q c_M_box_148 kc ks loc (.int (1) :: st) h := gk_ic (by decide)
theorem s_M_box_148 {x y : Int32} : wps rm K Q c_M_box_148 kc ks loc (.int y :: .int x :: st) h = wps rm K Q c_M_box_149 kc ks loc (.int (x + y) :: st) h := gk_iadd
theorem s_M_box_149 {x : Int32} {l0 : Option Value} {l : eg_Lo} : wps rm K Q c_M_box_149 kc ks (l0 :: some (.int x) :: l) (st) h = wps rm K Q c_M_box_150 kc ks (l0 :: some (.int x) :: l) (.int x :: st) h := gk_iload rfl
theorem s_M_box_150 {x : Int32} {l0 l1 l2 l3 : Option Value} {l : eg_Lo} : wps rm K Q c_M_box_150 kc ks (l0 :: l1 :: l2 :: l3 :: some (.int x) :: l) (st) h = wps rm K Q c_M_box_152 kc ks (l0 :: l1 :: l2 :: l3 :: some (.int x) :: l) (.int x :: st) h := gk_iload rfl
theorem s_M_box_152 {x y : Int32} : wps rm K Q c_M_box_152 kc ks loc (.int y :: .int x :: st) h = wps rm K Q c_M_box_153 kc ks loc (.int (x + y) :: st) h := gk_iadd
theorem s_M_box_153 {x : Nat} {i : Int32} {v : Int32} : wps rm K Q c_M_box_153 kc ks loc (.int v :: .int i :: .ref (x + 1) :: st) h = eg_is h x i v (fun h9 => wps rm K Q c_M_box_154 kc ks loc (st) h9) := gk_iastore
theorem s_M_box_154 {x : Nat} {l : eg_Lo} : wps rm K Q c_M_box_154 kc ks (some (.ref x) :: l) (st) h = wps rm K Q c_M_box_155 kc ks (some (.ref x) :: l) (.ref x :: st) h := gk_aload rfl
theorem s_M_box_155 {x : Nat} : wps rm K Q c_M_box_155 kc ks loc (.ref (x + 1) :: st) h = eg_gf h x 12 21 (fun v => wps rm K Q c_M_box_158 kc ks loc (v :: st) h) := gk_gf
theorem s_M_box_158 {x : Int32} {l0 l1 l2 l3 l4 l5 l6 l7 : Option Value} {l : eg_Lo} : wps rm K Q c_M_box_158 kc ks (l0 :: l1 :: l2 :: l3 :: l4 :: l5 :: l6 :: l7 :: some (.int x) :: l) (st) h = wps rm K Q c_M_box_160 kc ks (l0 :: l1 :: l2 :: l3 :: l4 :: l5 :: l6 :: l7 :: some (.int x) :: l) (.int x :: st) h := gk_iload rfl
theorem s_M_box_160  : wps rm K Q c_M_box_160 kc ks loc (st) h = wps rm K Q c_M_box_161 kc ks loc (.int (2) :: st) h := gk_ic (by decide)
theorem s_M_box_161 {x y : Int32} : wps rm K Q c_M_box_161 kc ks loc (.int y :: .int x :: st) h = wps rm K Q c_M_box_162 kc ks loc (.int (x + y) :: st) h := gk_iadd
theorem s_M_box_162 {x : Int32} {l0 l1 : Option Value} {l : eg_Lo} : wps rm K Q c_M_box_162 kc ks (l0 :: l1 :: some (.int x) :: l) (st) h = wps rm K Q c_M_box_163 kc ks (l0 :: l1 :: some (.int x) :: l) (.int x :: st) h := gk_iload rfl
theorem s_M_box_163 {x : Nat} {i : Int32} {v : Int32} : wps rm K Q c_M_box_163 kc ks loc (.int v :: .int i :: .ref (x + 1) :: st) h = eg_is h x i v (fun h9 => wps rm K Q c_M_box_164 kc ks loc (st) h9) := gk_iastore
theorem s_M_box_164 {x : Nat} {l : eg_Lo} : wps rm K Q c_M_box_164 kc ks (some (.ref x) :: l) (st) h = wps rm K Q c_M_box_165 kc ks (some (.ref x) :: l) (.ref x :: st) h := gk_aload rfl
theorem s_M_box_165 {x : Nat} : wps rm K Q c_M_box_165 kc ks loc (.ref (x + 1) :: st) h = eg_gf h x 12 21 (fun v => wps rm K Q c_M_box_168 kc ks loc (v :: st) h) := gk_gf
theorem s_M_box_168 {x : Int32} {l0 l1 l2 l3 l4 l5 l6 l7 : Option Value} {l : eg_Lo} : wps rm K Q c_M_box_168 kc ks (l0 :: l1 :: l2 :: l3 :: l4 :: l5 :: l6 :: l7 :: some (.int x) :: l) (st) h = wps rm K Q c_M_box_170 kc ks (l0 :: l1 :: l2 :: l3 :: l4 :: l5 :: l6 :: l7 :: some (.int x) :: l) (.int x :: st) h := gk_iload rfl
theorem s_M_box_170  : wps rm K Q c_M_box_170 kc ks loc (st) h = wps rm K Q c_M_box_171 kc ks loc (.int (3) :: st) h := gk_ic (by decide)
theorem s_M_box_171 {x y : Int32} : wps rm K Q c_M_box_171 kc ks loc (.int y :: .int x :: st) h = wps rm K Q c_M_box_172 kc ks loc (.int (x + y) :: st) h := gk_iadd
theorem s_M_box_172 {x : Int32} {l0 l1 : Option Value} {l : eg_Lo} : wps rm K Q c_M_box_172 kc ks (l0 :: l1 :: some (.int x) :: l) (st) h = wps rm K Q c_M_box_173 kc ks (l0 :: l1 :: some (.int x) :: l) (.int x :: st) h := gk_iload rfl
theorem s_M_box_173 {x : Int32} {l0 l1 l2 l3 l4 : Option Value} {l : eg_Lo} : wps rm K Q c_M_box_173 kc ks (l0 :: l1 :: l2 :: l3 :: l4 :: some (.int x) :: l) (st) h = wps rm K Q c_M_box_175 kc ks (l0 :: l1 :: l2 :: l3 :: l4 :: some (.int x) :: l) (.int x :: st) h := gk_iload rfl
theorem s_M_box_175 {x y : Int32} : wps rm K Q c_M_box_175 kc ks loc (.int y :: .int x :: st) h = wps rm K Q c_M_box_176 kc ks loc (.int (x + y) :: st) h := gk_iadd
theorem s_M_box_176 {x : Nat} {i : Int32} {v : Int32} : wps rm K Q c_M_box_176 kc ks loc (.int v :: .int i :: .ref (x + 1) :: st) h = eg_is h x i v (fun h9 => wps rm K Q c_M_box_177 kc ks loc (st) h9) := gk_iastore
theorem s_M_box_177 {x : Nat} {l : eg_Lo} : wps rm K Q c_M_box_177 kc ks (some (.ref x) :: l) (st) h = wps rm K Q c_M_box_178 kc ks (some (.ref x) :: l) (.ref x :: st) h := gk_aload rfl
theorem s_M_box_178 {x : Nat} : wps rm K Q c_M_box_178 kc ks loc (.ref (x + 1) :: st) h = eg_gf h x 12 21 (fun v => wps rm K Q c_M_box_181 kc ks loc (v :: st) h) := gk_gf
theorem s_M_box_181 {x : Int32} {l0 l1 l2 l3 l4 l5 l6 l7 : Option Value} {l : eg_Lo} : wps rm K Q c_M_box_181 kc ks (l0 :: l1 :: l2 :: l3 :: l4 :: l5 :: l6 :: l7 :: some (.int x) :: l) (st) h = wps rm K Q c_M_box_183 kc ks (l0 :: l1 :: l2 :: l3 :: l4 :: l5 :: l6 :: l7 :: some (.int x) :: l) (.int x :: st) h := gk_iload rfl
theorem s_M_box_183  : wps rm K Q c_M_box_183 kc ks loc (st) h = wps rm K Q c_M_box_184 kc ks loc (.int (4) :: st) h := gk_ic (by decide)
theorem s_M_box_184 {x y : Int32} : wps rm K Q c_M_box_184 kc ks loc (.int y :: .int x :: st) h = wps rm K Q c_M_box_185 kc ks loc (.int (x + y) :: st) h := gk_iadd
theorem s_M_box_185 {x : Int32} {l0 l1 l2 : Option Value} {l : eg_Lo} : wps rm K Q c_M_box_185 kc ks (l0 :: l1 :: l2 :: some (.int x) :: l) (st) h = wps rm K Q c_M_box_186 kc ks (l0 :: l1 :: l2 :: some (.int x) :: l) (.int x :: st) h := gk_iload rfl
theorem s_M_box_186 {x : Nat} {i : Int32} {v : Int32} : wps rm K Q c_M_box_186 kc ks loc (.int v :: .int i :: .ref (x + 1) :: st) h = eg_is h x i v (fun h9 => wps rm K Q c_M_box_187 kc ks loc (st) h9) := gk_iastore
theorem s_M_box_187 {x : Nat} {l : eg_Lo} : wps rm K Q c_M_box_187 kc ks (some (.ref x) :: l) (st) h = wps rm K Q c_M_box_188 kc ks (some (.ref x) :: l) (.ref x :: st) h := gk_aload rfl
theorem s_M_box_188 {x : Nat} : wps rm K Q c_M_box_188 kc ks loc (.ref (x + 1) :: st) h = eg_gf h x 12 21 (fun v => wps rm K Q c_M_box_191 kc ks loc (v :: st) h) := gk_gf
theorem s_M_box_191 {x : Int32} {l0 l1 l2 l3 l4 l5 l6 l7 : Option Value} {l : eg_Lo} : wps rm K Q c_M_box_191 kc ks (l0 :: l1 :: l2 :: l3 :: l4 :: l5 :: l6 :: l7 :: some (.int x) :: l) (st) h = wps rm K Q c_M_box_193 kc ks (l0 :: l1 :: l2 :: l3 :: l4 :: l5 :: l6 :: l7 :: some (.int x) :: l) (.int x :: st) h := gk_iload rfl
theorem s_M_box_193  : wps rm K Q c_M_box_193 kc ks loc (st) h = wps rm K Q c_M_box_194 kc ks loc (.int (5) :: st) h := gk_ic (by decide)
theorem s_M_box_194 {x y : Int32} : wps rm K Q c_M_box_194 kc ks loc (.int y :: .int x :: st) h = wps rm K Q c_M_box_195 kc ks loc (.int (x + y) :: st) h := gk_iadd
theorem s_M_box_195 {x : Int32} {l0 l1 l2 : Option Value} {l : eg_Lo} : wps rm K Q c_M_box_195 kc ks (l0 :: l1 :: l2 :: some (.int x) :: l) (st) h = wps rm K Q c_M_box_196 kc ks (l0 :: l1 :: l2 :: some (.int x) :: l) (.int x :: st) h := gk_iload rfl
theorem s_M_box_196 {x : Int32} {l0 l1 l2 l3 l4 l5 : Option Value} {l : eg_Lo} : wps rm K Q c_M_box_196 kc ks (l0 :: l1 :: l2 :: l3 :: l4 :: l5 :: some (.int x) :: l) (st) h = wps rm K Q c_M_box_198 kc ks (l0 :: l1 :: l2 :: l3 :: l4 :: l5 :: some (.int x) :: l) (.int x :: st) h := gk_iload rfl
theorem s_M_box_198 {x y : Int32} : wps rm K Q c_M_box_198 kc ks loc (.int y :: .int x :: st) h = wps rm K Q c_M_box_199 kc ks loc (.int (x + y) :: st) h := gk_iadd
theorem s_M_box_199 {x : Nat} {i : Int32} {v : Int32} : wps rm K Q c_M_box_199 kc ks loc (.int v :: .int i :: .ref (x + 1) :: st) h = eg_is h x i v (fun h9 => wps rm K Q c_M_box_200 kc ks loc (st) h9) := gk_iastore
theorem s_M_box_200 {x : Nat} {l : eg_Lo} : wps rm K Q c_M_box_200 kc ks (some (.ref x) :: l) (st) h = wps rm K Q c_M_box_201 kc ks (some (.ref x) :: l) (.ref x :: st) h := gk_aload rfl
theorem s_M_box_201 {x : Nat} : wps rm K Q c_M_box_201 kc ks loc (.ref x :: st) h = wps rm K Q c_M_box_202 kc ks loc (.ref x :: .ref x :: st) h := gk_dup
theorem s_M_box_202 {x : Nat} : wps rm K Q c_M_box_202 kc ks loc (.ref (x + 1) :: st) h = eg_gf h x 12 20 (fun v => wps rm K Q c_M_box_205 kc ks loc (v :: st) h) := gk_gf
theorem s_M_box_205  : wps rm K Q c_M_box_205 kc ks loc (st) h = wps rm K Q c_M_box_206 kc ks loc (.int (1) :: st) h := gk_ic (by decide)
theorem s_M_box_206 {x y : Int32} : wps rm K Q c_M_box_206 kc ks loc (.int y :: .int x :: st) h = wps rm K Q c_M_box_207 kc ks loc (.int (x + y) :: st) h := gk_iadd
theorem s_M_box_207 {x : Nat} {v : Value} : wps rm K Q c_M_box_207 kc ks loc (v :: .ref (x + 1) :: st) h = eg_pf h x 12 20 v (fun h9 => wps rm K Q c_M_box_210 kc ks loc (st) h9) := gk_pf
theorem s_M_box_210 {x : Nat} {l : eg_Lo} : wps rm K Q c_M_box_210 kc ks (some (.ref x) :: l) (st) h = wps rm K Q c_M_box_211 kc ks (some (.ref x) :: l) (.ref x :: st) h := gk_aload rfl
theorem s_M_box_211 {x : Nat} : wps rm K Q c_M_box_211 kc ks loc (.ref (x + 1) :: st) h = eg_gf h x 12 20 (fun v => wps rm K Q c_M_box_214 kc ks loc (v :: st) h) := gk_gf
theorem s_M_box_214  : wps rm K Q c_M_box_214 kc ks loc (st) h = wps rm K Q c_M_box_215 kc ks loc (.int (1) :: st) h := gk_ic (by decide)
theorem s_M_box_215 {x y : Int32} : wps rm K Q c_M_box_215 kc ks loc (.int y :: .int x :: st) h = wps rm K Q c_M_box_216 kc ks loc (.int (x - y) :: st) h := gk_isub
theorem s_M_box_216 {x : Int32} : wps rm K Q c_M_box_216 kc ks loc (.int x :: st) h = wps rm K Q c_M_box_217 kc ks loc (.long (x.toInt64) :: st) h := gk_i2l
theorem s_M_box_217 {x : Int64} : wps rm K Q c_M_box_217 kc ks loc ([.long x]) h = (kc = rm.cells ∧ Q (some (.long x)) h) := gk_lret
def T_M_box : List (Nat × List eg_I) := [(61, c_M_box_61), (62, c_M_box_62), (99, c_M_box_99), (107, c_M_box_107), (124, c_M_box_124)]
theorem j_M_box_61 {R : Nat → Nat → Nat → eg_Lo → List Value → List eg_E → Prop} {f pc0 : Nat} : eg_run rm R Q T_M_box (f + 1) 61 kc ks loc st h = wps rm (eg_run rm R Q T_M_box f) Q c_M_box_61 kc ks loc st h := rfl
theorem j_M_box_62 {R : Nat → Nat → Nat → eg_Lo → List Value → List eg_E → Prop} {f pc0 : Nat} : eg_run rm R Q T_M_box (f + 1) 62 kc ks loc st h = wps rm (eg_run rm R Q T_M_box f) Q c_M_box_62 kc ks loc st h := rfl
theorem j_M_box_99 {R : Nat → Nat → Nat → eg_Lo → List Value → List eg_E → Prop} {f pc0 : Nat} : eg_run rm R Q T_M_box (f + 1) 99 kc ks loc st h = wps rm (eg_run rm R Q T_M_box f) Q c_M_box_99 kc ks loc st h := rfl
theorem j_M_box_107 {R : Nat → Nat → Nat → eg_Lo → List Value → List eg_E → Prop} {f pc0 : Nat} : eg_run rm R Q T_M_box (f + 1) 107 kc ks loc st h = wps rm (eg_run rm R Q T_M_box f) Q c_M_box_107 kc ks loc st h := rfl
theorem j_M_box_124 {R : Nat → Nat → Nat → eg_Lo → List Value → List eg_E → Prop} {f pc0 : Nat} : eg_run rm R Q T_M_box (f + 1) 124 kc ks loc st h = wps rm (eg_run rm R Q T_M_box f) Q c_M_box_124 kc ks loc st h := rfl
end
theorem y_M_box_0 : eg_seq m_M_box 0 c_M_box_0 = true := by decide +kernel
theorem y_M_box_61 : eg_seq m_M_box 61 c_M_box_61 = true := by decide +kernel
theorem y_M_box_107 : eg_seq m_M_box 107 c_M_box_107 = true := by decide +kernel
theorem y_M_box_124 : eg_seq m_M_box 124 c_M_box_124 = true := by decide +kernel
theorem q_M_box : ∀ q ∈ T_M_box, eg_seq m_M_box q.1 q.2 = true := by
  intro q hq
  simp only [T_M_box, List.mem_cons, List.not_mem_nil, or_false] at hq
  rcases hq with rfl | rfl | rfl | rfl | rfl
  · exact y_M_box_61
  · exact (eg_seq_drop y_M_box_61 1 : eg_seq m_M_box 62 c_M_box_62 = true)
  · exact (eg_seq_drop y_M_box_61 19 : eg_seq m_M_box 99 c_M_box_99 = true)
  · exact y_M_box_107
  · exact y_M_box_124
theorem md_M_box : eg_md n_M_box = m_M_box := rfl
theorem mn_M_box : n_M_box < 202 := Nat.le_of_ble_eq_true rfl
theorem b_M_box {as : List Value} {h : List eg_E} {Q : Option Value → List eg_E → Prop} (hf : (eg_fl as).length ≤ 9) : wps (eg_rm m_M_box) (eg_run (eg_rm m_M_box) (eg_R m_M_box Q (h.length + 0)) Q T_M_box 7) Q c_M_box_0 0 0 (eg_entry 9 as) [] h → eg_Runs n_M_box as h Q := eg_begin2 md_M_box mn_M_box y_M_box_0 q_M_box hf
/-! ===== M_unbox ===== -/
def c_M_unbox_12 : List eg_I := .inl (12, 1, .lreturn, 0, 0) :: []
def c_M_unbox_11 : List eg_I := .inl (11, 1, .i2l, 0, 0) :: c_M_unbox_12
def c_M_unbox_10 : List eg_I := .inl (10, 1, .iload 1, 0, 0) :: c_M_unbox_11
def c_M_unbox_7 : List eg_I := .inl (7, 3, .putfield 296, 12, 20) :: c_M_unbox_10
def c_M_unbox_6 : List eg_I := .inl (6, 1, .iconst (0), 0, 0) :: c_M_unbox_7
def c_M_unbox_5 : List eg_I := .inl (5, 1, .aload 0, 0, 0) :: c_M_unbox_6
def c_M_unbox_4 : List eg_I := .inl (4, 1, .istore 1, 0, 0) :: c_M_unbox_5
def c_M_unbox_1 : List eg_I := .inl (1, 3, .getfield 296, 12, 20) :: c_M_unbox_4
def c_M_unbox_0 : List eg_I := .inl (0, 1, .aload 0, 0, 0) :: c_M_unbox_1
section
variable {rm : Room} {K : Nat → Nat → Nat → eg_Lo → List Value → List eg_E → Prop} {Q : Option Value → List eg_E → Prop} {kc ks : Nat} {loc : eg_Lo} {st : List Value} {h : List eg_E}
theorem s_M_unbox_0 {x : Nat} {l : eg_Lo} : wps rm K Q c_M_unbox_0 kc ks (some (.ref x) :: l) (st) h = wps rm K Q c_M_unbox_1 kc ks (some (.ref x) :: l) (.ref x :: st) h := gk_aload rfl
theorem s_M_unbox_1 {x : Nat} : wps rm K Q c_M_unbox_1 kc ks loc (.ref (x + 1) :: st) h = eg_gf h x 12 20 (fun v => wps rm K Q c_M_unbox_4 kc ks loc (v :: st) h) := gk_gf
theorem s_M_unbox_4 {x : Int32} : wps rm K Q c_M_unbox_4 kc ks loc (.int x :: st) h = wps rm K Q c_M_unbox_5 kc ks (eg_set1 loc 1 (.int x)) (st) h := gk_istore
theorem s_M_unbox_5 {x : Nat} {l : eg_Lo} : wps rm K Q c_M_unbox_5 kc ks (some (.ref x) :: l) (st) h = wps rm K Q c_M_unbox_6 kc ks (some (.ref x) :: l) (.ref x :: st) h := gk_aload rfl
theorem s_M_unbox_6  : wps rm K Q c_M_unbox_6 kc ks loc (st) h = wps rm K Q c_M_unbox_7 kc ks loc (.int (0) :: st) h := gk_ic (by decide)
theorem s_M_unbox_7 {x : Nat} {v : Value} : wps rm K Q c_M_unbox_7 kc ks loc (v :: .ref (x + 1) :: st) h = eg_pf h x 12 20 v (fun h9 => wps rm K Q c_M_unbox_10 kc ks loc (st) h9) := gk_pf
theorem s_M_unbox_10 {x : Int32} {l0 : Option Value} {l : eg_Lo} : wps rm K Q c_M_unbox_10 kc ks (l0 :: some (.int x) :: l) (st) h = wps rm K Q c_M_unbox_11 kc ks (l0 :: some (.int x) :: l) (.int x :: st) h := gk_iload rfl
theorem s_M_unbox_11 {x : Int32} : wps rm K Q c_M_unbox_11 kc ks loc (.int x :: st) h = wps rm K Q c_M_unbox_12 kc ks loc (.long (x.toInt64) :: st) h := gk_i2l
theorem s_M_unbox_12 {x : Int64} : wps rm K Q c_M_unbox_12 kc ks loc ([.long x]) h = (kc = rm.cells ∧ Q (some (.long x)) h) := gk_lret
def T_M_unbox : List (Nat × List eg_I) := []
end
theorem y_M_unbox_0 : eg_seq m_M_unbox 0 c_M_unbox_0 = true := by decide +kernel
theorem q_M_unbox : ∀ q ∈ T_M_unbox, eg_seq m_M_unbox q.1 q.2 = true := by
  intro q hq
  cases hq
theorem md_M_unbox : eg_md n_M_unbox = m_M_unbox := rfl
theorem mn_M_unbox : n_M_unbox < 202 := Nat.le_of_ble_eq_true rfl
theorem b_M_unbox {as : List Value} {h : List eg_E} {Q : Option Value → List eg_E → Prop} (hf : (eg_fl as).length ≤ 2) : wps (eg_rm m_M_unbox) (eg_run (eg_rm m_M_unbox) (eg_R m_M_unbox Q (h.length + 0)) Q T_M_unbox 2) Q c_M_unbox_0 0 0 (eg_entry 2 as) [] h → eg_Runs n_M_unbox as h Q := eg_begin2 md_M_unbox mn_M_unbox y_M_unbox_0 q_M_unbox hf
/-! ===== M_cut ===== -/
def c_M_cut_143 : List eg_I := .inl (143, 1, .ireturn, 0, 1) :: []
def c_M_cut_142 : List eg_I := .inl (142, 1, .iconst (1), 0, 0) :: c_M_cut_143
def c_M_cut_139 : List eg_I := .inl (139, 3, .putfield 305, 12, 42) :: c_M_cut_142
def c_M_cut_137 : List eg_I := .inl (137, 2, .lload 10, 0, 0) :: c_M_cut_139
def c_M_cut_136 : List eg_I := .inl (136, 1, .aload 0, 0, 0) :: c_M_cut_137
def c_M_cut_133 : List eg_I := .inl (133, 3, .putfield 308, 12, 41) :: c_M_cut_136
def c_M_cut_131 : List eg_I := .inl (131, 2, .lload 8, 0, 0) :: c_M_cut_133
def c_M_cut_130 : List eg_I := .inl (130, 1, .aload 0, 0, 0) :: c_M_cut_131
def c_M_cut_127 : List eg_I := .inl (127, 3, .ifCond .ge (15), 142, 0) :: c_M_cut_130
def c_M_cut_126 : List eg_I := .inl (126, 1, .lcmp, 0, 0) :: c_M_cut_127
def c_M_cut_125 : List eg_I := .inl (125, 1, .lmul, 0, 0) :: c_M_cut_126
def c_M_cut_123 : List eg_I := .inl (123, 2, .lload 10, 0, 0) :: c_M_cut_125
def c_M_cut_120 : List eg_I := .inl (120, 3, .getfield 308, 12, 41) :: c_M_cut_123
def c_M_cut_119 : List eg_I := .inl (119, 1, .aload 0, 0, 0) :: c_M_cut_120
def c_M_cut_118 : List eg_I := .inl (118, 1, .lmul, 0, 0) :: c_M_cut_119
def c_M_cut_115 : List eg_I := .inl (115, 3, .getfield 305, 12, 42) :: c_M_cut_118
def c_M_cut_114 : List eg_I := .inl (114, 1, .aload 0, 0, 0) :: c_M_cut_115
def c_M_cut_112 : List eg_I := .inl (112, 2, .lload 8, 0, 0) :: c_M_cut_114
def c_M_cut_109 : List eg_I := .inl (109, 3, .putfield 299, 12, 40) :: c_M_cut_112
def c_M_cut_107 : List eg_I := .inl (107, 2, .lload 10, 0, 0) :: c_M_cut_109
def c_M_cut_106 : List eg_I := .inl (106, 1, .aload 0, 0, 0) :: c_M_cut_107
def c_M_cut_103 : List eg_I := .inl (103, 3, .putfield 302, 12, 39) :: c_M_cut_106
def c_M_cut_101 : List eg_I := .inl (101, 2, .lload 6, 0, 0) :: c_M_cut_103
def c_M_cut_100 : List eg_I := .inl (100, 1, .aload 0, 0, 0) :: c_M_cut_101
def c_M_cut_97 : List eg_I := .inl (97, 3, .ifCond .le (15), 112, 0) :: c_M_cut_100
def c_M_cut_96 : List eg_I := .inl (96, 1, .lcmp, 0, 0) :: c_M_cut_97
def c_M_cut_95 : List eg_I := .inl (95, 1, .lmul, 0, 0) :: c_M_cut_96
def c_M_cut_93 : List eg_I := .inl (93, 2, .lload 10, 0, 0) :: c_M_cut_95
def c_M_cut_90 : List eg_I := .inl (90, 3, .getfield 302, 12, 39) :: c_M_cut_93
def c_M_cut_89 : List eg_I := .inl (89, 1, .aload 0, 0, 0) :: c_M_cut_90
def c_M_cut_88 : List eg_I := .inl (88, 1, .lmul, 0, 0) :: c_M_cut_89
def c_M_cut_85 : List eg_I := .inl (85, 3, .getfield 299, 12, 40) :: c_M_cut_88
def c_M_cut_84 : List eg_I := .inl (84, 1, .aload 0, 0, 0) :: c_M_cut_85
def c_M_cut_82 : List eg_I := .inl (82, 2, .lload 6, 0, 0) :: c_M_cut_84
def c_M_cut_80 : List eg_I := .inl (80, 2, .lstore 10, 0, 0) :: c_M_cut_82
def c_M_cut_79 : List eg_I := .inl (79, 1, .i2l, 0, 0) :: c_M_cut_80
def c_M_cut_78 : List eg_I := .inl (78, 1, .ineg, 0, 0) :: c_M_cut_79
def c_M_cut_76 : List eg_I := .inl (76, 2, .iload 5, 0, 0) :: c_M_cut_78
def c_M_cut_73 : List eg_I := .inl (73, 3, .goto (7), 80, 0) :: []
def c_M_cut_72 : List eg_I := .inl (72, 1, .i2l, 0, 0) :: c_M_cut_73
def c_M_cut_70 : List eg_I := .inl (70, 2, .iload 5, 0, 0) :: c_M_cut_72
def c_M_cut_67 : List eg_I := .inl (67, 3, .ifCond .le (9), 76, 0) :: c_M_cut_70
def c_M_cut_65 : List eg_I := .inl (65, 2, .iload 5, 0, 0) :: c_M_cut_67
def c_M_cut_63 : List eg_I := .inl (63, 2, .lstore 8, 0, 0) :: c_M_cut_65
def c_M_cut_62 : List eg_I := .inl (62, 1, .i2l, 0, 0) :: c_M_cut_63
def c_M_cut_61 : List eg_I := .inl (61, 1, .isub, 0, 0) :: c_M_cut_62
def c_M_cut_60 : List eg_I := .inl (60, 1, .iload 3, 0, 0) :: c_M_cut_61
def c_M_cut_59 : List eg_I := .inl (59, 1, .iload 1, 0, 0) :: c_M_cut_60
def c_M_cut_56 : List eg_I := .inl (56, 3, .goto (7), 63, 0) :: []
def c_M_cut_55 : List eg_I := .inl (55, 1, .i2l, 0, 0) :: c_M_cut_56
def c_M_cut_54 : List eg_I := .inl (54, 1, .isub, 0, 0) :: c_M_cut_55
def c_M_cut_53 : List eg_I := .inl (53, 1, .iload 1, 0, 0) :: c_M_cut_54
def c_M_cut_51 : List eg_I := .inl (51, 2, .iload 4, 0, 0) :: c_M_cut_53
def c_M_cut_48 : List eg_I := .inl (48, 3, .ifCond .le (11), 59, 0) :: c_M_cut_51
def c_M_cut_46 : List eg_I := .inl (46, 2, .iload 5, 0, 0) :: c_M_cut_48
def c_M_cut_44 : List eg_I := .inl (44, 2, .lstore 6, 0, 0) :: c_M_cut_46
def c_M_cut_43 : List eg_I := .inl (43, 1, .i2l, 0, 0) :: c_M_cut_44
def c_M_cut_42 : List eg_I := .inl (42, 1, .isub, 0, 0) :: c_M_cut_43
def c_M_cut_40 : List eg_I := .inl (40, 2, .iload 4, 0, 0) :: c_M_cut_42
def c_M_cut_39 : List eg_I := .inl (39, 1, .iload 1, 0, 0) :: c_M_cut_40
def c_M_cut_36 : List eg_I := .inl (36, 3, .goto (8), 44, 0) :: []
def c_M_cut_35 : List eg_I := .inl (35, 1, .i2l, 0, 0) :: c_M_cut_36
def c_M_cut_34 : List eg_I := .inl (34, 1, .isub, 0, 0) :: c_M_cut_35
def c_M_cut_33 : List eg_I := .inl (33, 1, .iload 1, 0, 0) :: c_M_cut_34
def c_M_cut_32 : List eg_I := .inl (32, 1, .iload 3, 0, 0) :: c_M_cut_33
def c_M_cut_29 : List eg_I := .inl (29, 3, .ifCond .le (10), 39, 0) :: c_M_cut_32
def c_M_cut_27 : List eg_I := .inl (27, 2, .iload 5, 0, 0) :: c_M_cut_29
def c_M_cut_26 : List eg_I := .inl (26, 1, .ireturn, 0, 1) :: []
def c_M_cut_25 : List eg_I := .inl (25, 1, .iconst (0), 0, 0) :: c_M_cut_26
def c_M_cut_22 : List eg_I := .inl (22, 3, .goto (4), 26, 0) :: []
def c_M_cut_21 : List eg_I := .inl (21, 1, .iconst (1), 0, 0) :: c_M_cut_22
def c_M_cut_18 : List eg_I := .inl (18, 3, .if_icmp .ge (7), 25, 0) :: c_M_cut_21
def c_M_cut_16 : List eg_I := .inl (16, 2, .iload 4, 0, 0) :: c_M_cut_18
def c_M_cut_15 : List eg_I := .inl (15, 1, .iload 1, 0, 0) :: c_M_cut_16
def c_M_cut_12 : List eg_I := .inl (12, 3, .if_icmp .le (13), 25, 0) :: c_M_cut_15
def c_M_cut_11 : List eg_I := .inl (11, 1, .iload 3, 0, 0) :: c_M_cut_12
def c_M_cut_10 : List eg_I := .inl (10, 1, .iload 1, 0, 0) :: c_M_cut_11
def c_M_cut_7 : List eg_I := .inl (7, 3, .ifCond .ne (20), 27, 0) :: c_M_cut_10
def c_M_cut_5 : List eg_I := .inl (5, 2, .iload 5, 0, 0) :: c_M_cut_7
def c_M_cut_3 : List eg_I := .inl (3, 2, .istore 5, 0, 0) :: c_M_cut_5
def c_M_cut_2 : List eg_I := .inl (2, 1, .isub, 0, 0) :: c_M_cut_3
def c_M_cut_1 : List eg_I := .inl (1, 1, .iload 1, 0, 0) :: c_M_cut_2
def c_M_cut_0 : List eg_I := .inl (0, 1, .iload 2, 0, 0) :: c_M_cut_1
section
variable {rm : Room} {K : Nat → Nat → Nat → eg_Lo → List Value → List eg_E → Prop} {Q : Option Value → List eg_E → Prop} {kc ks : Nat} {loc : eg_Lo} {st : List Value} {h : List eg_E}
theorem s_M_cut_0 {x : Int32} {l0 l1 : Option Value} {l : eg_Lo} : wps rm K Q c_M_cut_0 kc ks (l0 :: l1 :: some (.int x) :: l) (st) h = wps rm K Q c_M_cut_1 kc ks (l0 :: l1 :: some (.int x) :: l) (.int x :: st) h := gk_iload rfl
theorem s_M_cut_1 {x : Int32} {l0 : Option Value} {l : eg_Lo} : wps rm K Q c_M_cut_1 kc ks (l0 :: some (.int x) :: l) (st) h = wps rm K Q c_M_cut_2 kc ks (l0 :: some (.int x) :: l) (.int x :: st) h := gk_iload rfl
theorem s_M_cut_2 {x y : Int32} : wps rm K Q c_M_cut_2 kc ks loc (.int y :: .int x :: st) h = wps rm K Q c_M_cut_3 kc ks loc (.int (x - y) :: st) h := gk_isub
theorem s_M_cut_3 {x : Int32} : wps rm K Q c_M_cut_3 kc ks loc (.int x :: st) h = wps rm K Q c_M_cut_5 kc ks (eg_set1 loc 5 (.int x)) (st) h := gk_istore
theorem s_M_cut_5 {x : Int32} {l0 l1 l2 l3 l4 : Option Value} {l : eg_Lo} : wps rm K Q c_M_cut_5 kc ks (l0 :: l1 :: l2 :: l3 :: l4 :: some (.int x) :: l) (st) h = wps rm K Q c_M_cut_7 kc ks (l0 :: l1 :: l2 :: l3 :: l4 :: some (.int x) :: l) (.int x :: st) h := gk_iload rfl
theorem s_M_cut_7 {x : Int32} : wps rm K Q c_M_cut_7 kc ks loc (.int x :: st) h = ((¬ x = 0 → K 27 kc ks loc st h) ∧ (x = 0 → wps rm K Q c_M_cut_10 kc ks loc (st) h)) := gk_if1_ne
theorem s_M_cut_10 {x : Int32} {l0 : Option Value} {l : eg_Lo} : wps rm K Q c_M_cut_10 kc ks (l0 :: some (.int x) :: l) (st) h = wps rm K Q c_M_cut_11 kc ks (l0 :: some (.int x) :: l) (.int x :: st) h := gk_iload rfl
theorem s_M_cut_11 {x : Int32} {l0 l1 l2 : Option Value} {l : eg_Lo} : wps rm K Q c_M_cut_11 kc ks (l0 :: l1 :: l2 :: some (.int x) :: l) (st) h = wps rm K Q c_M_cut_12 kc ks (l0 :: l1 :: l2 :: some (.int x) :: l) (.int x :: st) h := gk_iload rfl
theorem s_M_cut_12 {x y : Int32} : wps rm K Q c_M_cut_12 kc ks loc (.int y :: .int x :: st) h = ((x ≤ y → K 25 kc ks loc st h) ∧ (¬ x ≤ y → wps rm K Q c_M_cut_15 kc ks loc (st) h)) := gk_if2_le
theorem s_M_cut_15 {x : Int32} {l0 : Option Value} {l : eg_Lo} : wps rm K Q c_M_cut_15 kc ks (l0 :: some (.int x) :: l) (st) h = wps rm K Q c_M_cut_16 kc ks (l0 :: some (.int x) :: l) (.int x :: st) h := gk_iload rfl
theorem s_M_cut_16 {x : Int32} {l0 l1 l2 l3 : Option Value} {l : eg_Lo} : wps rm K Q c_M_cut_16 kc ks (l0 :: l1 :: l2 :: l3 :: some (.int x) :: l) (st) h = wps rm K Q c_M_cut_18 kc ks (l0 :: l1 :: l2 :: l3 :: some (.int x) :: l) (.int x :: st) h := gk_iload rfl
theorem s_M_cut_18 {x y : Int32} : wps rm K Q c_M_cut_18 kc ks loc (.int y :: .int x :: st) h = ((y ≤ x → K 25 kc ks loc st h) ∧ (¬ y ≤ x → wps rm K Q c_M_cut_21 kc ks loc (st) h)) := gk_if2_ge
theorem s_M_cut_21  : wps rm K Q c_M_cut_21 kc ks loc (st) h = wps rm K Q c_M_cut_22 kc ks loc (.int (1) :: st) h := gk_ic (by decide)
theorem s_M_cut_22  : wps rm K Q c_M_cut_22 kc ks loc (st) h = K 26 kc ks loc st h := gk_goto
theorem s_M_cut_25  : wps rm K Q c_M_cut_25 kc ks loc (st) h = wps rm K Q c_M_cut_26 kc ks loc (.int (0) :: st) h := gk_ic (by decide)
theorem s_M_cut_26 {x : Int32} : wps rm K Q c_M_cut_26 kc ks loc ([.int x]) h = (kc = rm.cells ∧ ((1 : Nat) = 1 → x = 0 ∨ x = 1) ∧ Q (some (.int x)) h) := gk_iret
theorem s_M_cut_27 {x : Int32} {l0 l1 l2 l3 l4 : Option Value} {l : eg_Lo} : wps rm K Q c_M_cut_27 kc ks (l0 :: l1 :: l2 :: l3 :: l4 :: some (.int x) :: l) (st) h = wps rm K Q c_M_cut_29 kc ks (l0 :: l1 :: l2 :: l3 :: l4 :: some (.int x) :: l) (.int x :: st) h := gk_iload rfl
theorem s_M_cut_29 {x : Int32} : wps rm K Q c_M_cut_29 kc ks loc (.int x :: st) h = ((x ≤ 0 → K 39 kc ks loc st h) ∧ (¬ x ≤ 0 → wps rm K Q c_M_cut_32 kc ks loc (st) h)) := gk_if1_le
theorem s_M_cut_32 {x : Int32} {l0 l1 l2 : Option Value} {l : eg_Lo} : wps rm K Q c_M_cut_32 kc ks (l0 :: l1 :: l2 :: some (.int x) :: l) (st) h = wps rm K Q c_M_cut_33 kc ks (l0 :: l1 :: l2 :: some (.int x) :: l) (.int x :: st) h := gk_iload rfl
theorem s_M_cut_33 {x : Int32} {l0 : Option Value} {l : eg_Lo} : wps rm K Q c_M_cut_33 kc ks (l0 :: some (.int x) :: l) (st) h = wps rm K Q c_M_cut_34 kc ks (l0 :: some (.int x) :: l) (.int x :: st) h := gk_iload rfl
theorem s_M_cut_34 {x y : Int32} : wps rm K Q c_M_cut_34 kc ks loc (.int y :: .int x :: st) h = wps rm K Q c_M_cut_35 kc ks loc (.int (x - y) :: st) h := gk_isub
theorem s_M_cut_35 {x : Int32} : wps rm K Q c_M_cut_35 kc ks loc (.int x :: st) h = wps rm K Q c_M_cut_36 kc ks loc (.long (x.toInt64) :: st) h := gk_i2l
theorem s_M_cut_36  : wps rm K Q c_M_cut_36 kc ks loc (st) h = K 44 kc ks loc st h := gk_goto
theorem s_M_cut_39 {x : Int32} {l0 : Option Value} {l : eg_Lo} : wps rm K Q c_M_cut_39 kc ks (l0 :: some (.int x) :: l) (st) h = wps rm K Q c_M_cut_40 kc ks (l0 :: some (.int x) :: l) (.int x :: st) h := gk_iload rfl
theorem s_M_cut_40 {x : Int32} {l0 l1 l2 l3 : Option Value} {l : eg_Lo} : wps rm K Q c_M_cut_40 kc ks (l0 :: l1 :: l2 :: l3 :: some (.int x) :: l) (st) h = wps rm K Q c_M_cut_42 kc ks (l0 :: l1 :: l2 :: l3 :: some (.int x) :: l) (.int x :: st) h := gk_iload rfl
theorem s_M_cut_42 {x y : Int32} : wps rm K Q c_M_cut_42 kc ks loc (.int y :: .int x :: st) h = wps rm K Q c_M_cut_43 kc ks loc (.int (x - y) :: st) h := gk_isub
theorem s_M_cut_43 {x : Int32} : wps rm K Q c_M_cut_43 kc ks loc (.int x :: st) h = wps rm K Q c_M_cut_44 kc ks loc (.long (x.toInt64) :: st) h := gk_i2l
theorem s_M_cut_44 {x : Int64} : wps rm K Q c_M_cut_44 kc ks loc (.long x :: st) h = wps rm K Q c_M_cut_46 kc ks (eg_set2 loc 6 (.long x)) (st) h := gk_lstore
theorem s_M_cut_46 {x : Int32} {l0 l1 l2 l3 l4 : Option Value} {l : eg_Lo} : wps rm K Q c_M_cut_46 kc ks (l0 :: l1 :: l2 :: l3 :: l4 :: some (.int x) :: l) (st) h = wps rm K Q c_M_cut_48 kc ks (l0 :: l1 :: l2 :: l3 :: l4 :: some (.int x) :: l) (.int x :: st) h := gk_iload rfl
theorem s_M_cut_48 {x : Int32} : wps rm K Q c_M_cut_48 kc ks loc (.int x :: st) h = ((x ≤ 0 → K 59 kc ks loc st h) ∧ (¬ x ≤ 0 → wps rm K Q c_M_cut_51 kc ks loc (st) h)) := gk_if1_le
theorem s_M_cut_51 {x : Int32} {l0 l1 l2 l3 : Option Value} {l : eg_Lo} : wps rm K Q c_M_cut_51 kc ks (l0 :: l1 :: l2 :: l3 :: some (.int x) :: l) (st) h = wps rm K Q c_M_cut_53 kc ks (l0 :: l1 :: l2 :: l3 :: some (.int x) :: l) (.int x :: st) h := gk_iload rfl
theorem s_M_cut_53 {x : Int32} {l0 : Option Value} {l : eg_Lo} : wps rm K Q c_M_cut_53 kc ks (l0 :: some (.int x) :: l) (st) h = wps rm K Q c_M_cut_54 kc ks (l0 :: some (.int x) :: l) (.int x :: st) h := gk_iload rfl
theorem s_M_cut_54 {x y : Int32} : wps rm K Q c_M_cut_54 kc ks loc (.int y :: .int x :: st) h = wps rm K Q c_M_cut_55 kc ks loc (.int (x - y) :: st) h := gk_isub
theorem s_M_cut_55 {x : Int32} : wps rm K Q c_M_cut_55 kc ks loc (.int x :: st) h = wps rm K Q c_M_cut_56 kc ks loc (.long (x.toInt64) :: st) h := gk_i2l
theorem s_M_cut_56  : wps rm K Q c_M_cut_56 kc ks loc (st) h = K 63 kc ks loc st h := gk_goto
theorem s_M_cut_59 {x : Int32} {l0 : Option Value} {l : eg_Lo} : wps rm K Q c_M_cut_59 kc ks (l0 :: some (.int x) :: l) (st) h = wps rm K Q c_M_cut_60 kc ks (l0 :: some (.int x) :: l) (.int x :: st) h := gk_iload rfl
theorem s_M_cut_60 {x : Int32} {l0 l1 l2 : Option Value} {l : eg_Lo} : wps rm K Q c_M_cut_60 kc ks (l0 :: l1 :: l2 :: some (.int x) :: l) (st) h = wps rm K Q c_M_cut_61 kc ks (l0 :: l1 :: l2 :: some (.int x) :: l) (.int x :: st) h := gk_iload rfl
theorem s_M_cut_61 {x y : Int32} : wps rm K Q c_M_cut_61 kc ks loc (.int y :: .int x :: st) h = wps rm K Q c_M_cut_62 kc ks loc (.int (x - y) :: st) h := gk_isub
theorem s_M_cut_62 {x : Int32} : wps rm K Q c_M_cut_62 kc ks loc (.int x :: st) h = wps rm K Q c_M_cut_63 kc ks loc (.long (x.toInt64) :: st) h := gk_i2l
theorem s_M_cut_63 {x : Int64} : wps rm K Q c_M_cut_63 kc ks loc (.long x :: st) h = wps rm K Q c_M_cut_65 kc ks (eg_set2 loc 8 (.long x)) (st) h := gk_lstore
theorem s_M_cut_65 {x : Int32} {l0 l1 l2 l3 l4 : Option Value} {l : eg_Lo} : wps rm K Q c_M_cut_65 kc ks (l0 :: l1 :: l2 :: l3 :: l4 :: some (.int x) :: l) (st) h = wps rm K Q c_M_cut_67 kc ks (l0 :: l1 :: l2 :: l3 :: l4 :: some (.int x) :: l) (.int x :: st) h := gk_iload rfl
theorem s_M_cut_67 {x : Int32} : wps rm K Q c_M_cut_67 kc ks loc (.int x :: st) h = ((x ≤ 0 → K 76 kc ks loc st h) ∧ (¬ x ≤ 0 → wps rm K Q c_M_cut_70 kc ks loc (st) h)) := gk_if1_le
theorem s_M_cut_70 {x : Int32} {l0 l1 l2 l3 l4 : Option Value} {l : eg_Lo} : wps rm K Q c_M_cut_70 kc ks (l0 :: l1 :: l2 :: l3 :: l4 :: some (.int x) :: l) (st) h = wps rm K Q c_M_cut_72 kc ks (l0 :: l1 :: l2 :: l3 :: l4 :: some (.int x) :: l) (.int x :: st) h := gk_iload rfl
theorem s_M_cut_72 {x : Int32} : wps rm K Q c_M_cut_72 kc ks loc (.int x :: st) h = wps rm K Q c_M_cut_73 kc ks loc (.long (x.toInt64) :: st) h := gk_i2l
theorem s_M_cut_73  : wps rm K Q c_M_cut_73 kc ks loc (st) h = K 80 kc ks loc st h := gk_goto
theorem s_M_cut_76 {x : Int32} {l0 l1 l2 l3 l4 : Option Value} {l : eg_Lo} : wps rm K Q c_M_cut_76 kc ks (l0 :: l1 :: l2 :: l3 :: l4 :: some (.int x) :: l) (st) h = wps rm K Q c_M_cut_78 kc ks (l0 :: l1 :: l2 :: l3 :: l4 :: some (.int x) :: l) (.int x :: st) h := gk_iload rfl
theorem s_M_cut_78 {x : Int32} : wps rm K Q c_M_cut_78 kc ks loc (.int x :: st) h = wps rm K Q c_M_cut_79 kc ks loc (.int (-x) :: st) h := gk_ineg
theorem s_M_cut_79 {x : Int32} : wps rm K Q c_M_cut_79 kc ks loc (.int x :: st) h = wps rm K Q c_M_cut_80 kc ks loc (.long (x.toInt64) :: st) h := gk_i2l
theorem s_M_cut_80 {x : Int64} : wps rm K Q c_M_cut_80 kc ks loc (.long x :: st) h = wps rm K Q c_M_cut_82 kc ks (eg_set2 loc 10 (.long x)) (st) h := gk_lstore
theorem s_M_cut_82 {x : Int64} {l0 l1 l2 l3 l4 l5 : Option Value} {l : eg_Lo} : wps rm K Q c_M_cut_82 kc ks (l0 :: l1 :: l2 :: l3 :: l4 :: l5 :: some (.long x) :: l) (st) h = wps rm K Q c_M_cut_84 kc ks (l0 :: l1 :: l2 :: l3 :: l4 :: l5 :: some (.long x) :: l) (.long x :: st) h := gk_lload rfl
theorem s_M_cut_84 {x : Nat} {l : eg_Lo} : wps rm K Q c_M_cut_84 kc ks (some (.ref x) :: l) (st) h = wps rm K Q c_M_cut_85 kc ks (some (.ref x) :: l) (.ref x :: st) h := gk_aload rfl
theorem s_M_cut_85 {x : Nat} : wps rm K Q c_M_cut_85 kc ks loc (.ref (x + 1) :: st) h = eg_gf h x 12 40 (fun v => wps rm K Q c_M_cut_88 kc ks loc (v :: st) h) := gk_gf
theorem s_M_cut_88 {x y : Int64} : wps rm K Q c_M_cut_88 kc ks loc (.long y :: .long x :: st) h = wps rm K Q c_M_cut_89 kc ks loc (.long (x * y) :: st) h := gk_lmul
theorem s_M_cut_89 {x : Nat} {l : eg_Lo} : wps rm K Q c_M_cut_89 kc ks (some (.ref x) :: l) (st) h = wps rm K Q c_M_cut_90 kc ks (some (.ref x) :: l) (.ref x :: st) h := gk_aload rfl
theorem s_M_cut_90 {x : Nat} : wps rm K Q c_M_cut_90 kc ks loc (.ref (x + 1) :: st) h = eg_gf h x 12 39 (fun v => wps rm K Q c_M_cut_93 kc ks loc (v :: st) h) := gk_gf
theorem s_M_cut_93 {x : Int64} {l0 l1 l2 l3 l4 l5 l6 l7 l8 l9 : Option Value} {l : eg_Lo} : wps rm K Q c_M_cut_93 kc ks (l0 :: l1 :: l2 :: l3 :: l4 :: l5 :: l6 :: l7 :: l8 :: l9 :: some (.long x) :: l) (st) h = wps rm K Q c_M_cut_95 kc ks (l0 :: l1 :: l2 :: l3 :: l4 :: l5 :: l6 :: l7 :: l8 :: l9 :: some (.long x) :: l) (.long x :: st) h := gk_lload rfl
theorem s_M_cut_95 {x y : Int64} : wps rm K Q c_M_cut_95 kc ks loc (.long y :: .long x :: st) h = wps rm K Q c_M_cut_96 kc ks loc (.long (x * y) :: st) h := gk_lmul
theorem s_M_cut_96 {x y : Int64} : wps rm K Q c_M_cut_96 kc ks loc (.long y :: .long x :: st) h = wps rm K Q c_M_cut_97 kc ks loc (.int (lg_cmp x y) :: st) h := gk_lcmp
theorem s_M_cut_97 {x : Int32} : wps rm K Q c_M_cut_97 kc ks loc (.int x :: st) h = ((x ≤ 0 → K 112 kc ks loc st h) ∧ (¬ x ≤ 0 → wps rm K Q c_M_cut_100 kc ks loc (st) h)) := gk_if1_le
theorem s_M_cut_100 {x : Nat} {l : eg_Lo} : wps rm K Q c_M_cut_100 kc ks (some (.ref x) :: l) (st) h = wps rm K Q c_M_cut_101 kc ks (some (.ref x) :: l) (.ref x :: st) h := gk_aload rfl
theorem s_M_cut_101 {x : Int64} {l0 l1 l2 l3 l4 l5 : Option Value} {l : eg_Lo} : wps rm K Q c_M_cut_101 kc ks (l0 :: l1 :: l2 :: l3 :: l4 :: l5 :: some (.long x) :: l) (st) h = wps rm K Q c_M_cut_103 kc ks (l0 :: l1 :: l2 :: l3 :: l4 :: l5 :: some (.long x) :: l) (.long x :: st) h := gk_lload rfl
theorem s_M_cut_103 {x : Nat} {v : Value} : wps rm K Q c_M_cut_103 kc ks loc (v :: .ref (x + 1) :: st) h = eg_pf h x 12 39 v (fun h9 => wps rm K Q c_M_cut_106 kc ks loc (st) h9) := gk_pf
theorem s_M_cut_106 {x : Nat} {l : eg_Lo} : wps rm K Q c_M_cut_106 kc ks (some (.ref x) :: l) (st) h = wps rm K Q c_M_cut_107 kc ks (some (.ref x) :: l) (.ref x :: st) h := gk_aload rfl
theorem s_M_cut_107 {x : Int64} {l0 l1 l2 l3 l4 l5 l6 l7 l8 l9 : Option Value} {l : eg_Lo} : wps rm K Q c_M_cut_107 kc ks (l0 :: l1 :: l2 :: l3 :: l4 :: l5 :: l6 :: l7 :: l8 :: l9 :: some (.long x) :: l) (st) h = wps rm K Q c_M_cut_109 kc ks (l0 :: l1 :: l2 :: l3 :: l4 :: l5 :: l6 :: l7 :: l8 :: l9 :: some (.long x) :: l) (.long x :: st) h := gk_lload rfl
theorem s_M_cut_109 {x : Nat} {v : Value} : wps rm K Q c_M_cut_109 kc ks loc (v :: .ref (x + 1) :: st) h = eg_pf h x 12 40 v (fun h9 => wps rm K Q c_M_cut_112 kc ks loc (st) h9) := gk_pf
theorem s_M_cut_112 {x : Int64} {l0 l1 l2 l3 l4 l5 l6 l7 : Option Value} {l : eg_Lo} : wps rm K Q c_M_cut_112 kc ks (l0 :: l1 :: l2 :: l3 :: l4 :: l5 :: l6 :: l7 :: some (.long x) :: l) (st) h = wps rm K Q c_M_cut_114 kc ks (l0 :: l1 :: l2 :: l3 :: l4 :: l5 :: l6 :: l7 :: some (.long x) :: l) (.long x :: st) h := gk_lload rfl
theorem s_M_cut_114 {x : Nat} {l : eg_Lo} : wps rm K Q c_M_cut_114 kc ks (some (.ref x) :: l) (st) h = wps rm K Q c_M_cut_115 kc ks (some (.ref x) :: l) (.ref x :: st) h := gk_aload rfl
theorem s_M_cut_115 {x : Nat} : wps rm K Q c_M_cut_115 kc ks loc (.ref (x + 1) :: st) h = eg_gf h x 12 42 (fun v => wps rm K Q c_M_cut_118 kc ks loc (v :: st) h) := gk_gf
theorem s_M_cut_118 {x y : Int64} : wps rm K Q c_M_cut_118 kc ks loc (.long y :: .long x :: st) h = wps rm K Q c_M_cut_119 kc ks loc (.long (x * y) :: st) h := gk_lmul
theorem s_M_cut_119 {x : Nat} {l : eg_Lo} : wps rm K Q c_M_cut_119 kc ks (some (.ref x) :: l) (st) h = wps rm K Q c_M_cut_120 kc ks (some (.ref x) :: l) (.ref x :: st) h := gk_aload rfl
theorem s_M_cut_120 {x : Nat} : wps rm K Q c_M_cut_120 kc ks loc (.ref (x + 1) :: st) h = eg_gf h x 12 41 (fun v => wps rm K Q c_M_cut_123 kc ks loc (v :: st) h) := gk_gf
theorem s_M_cut_123 {x : Int64} {l0 l1 l2 l3 l4 l5 l6 l7 l8 l9 : Option Value} {l : eg_Lo} : wps rm K Q c_M_cut_123 kc ks (l0 :: l1 :: l2 :: l3 :: l4 :: l5 :: l6 :: l7 :: l8 :: l9 :: some (.long x) :: l) (st) h = wps rm K Q c_M_cut_125 kc ks (l0 :: l1 :: l2 :: l3 :: l4 :: l5 :: l6 :: l7 :: l8 :: l9 :: some (.long x) :: l) (.long x :: st) h := gk_lload rfl
theorem s_M_cut_125 {x y : Int64} : wps rm K Q c_M_cut_125 kc ks loc (.long y :: .long x :: st) h = wps rm K Q c_M_cut_126 kc ks loc (.long (x * y) :: st) h := gk_lmul
theorem s_M_cut_126 {x y : Int64} : wps rm K Q c_M_cut_126 kc ks loc (.long y :: .long x :: st) h = wps rm K Q c_M_cut_127 kc ks loc (.int (lg_cmp x y) :: st) h := gk_lcmp
theorem s_M_cut_127 {x : Int32} : wps rm K Q c_M_cut_127 kc ks loc (.int x :: st) h = ((0 ≤ x → K 142 kc ks loc st h) ∧ (¬ 0 ≤ x → wps rm K Q c_M_cut_130 kc ks loc (st) h)) := gk_if1_ge
theorem s_M_cut_130 {x : Nat} {l : eg_Lo} : wps rm K Q c_M_cut_130 kc ks (some (.ref x) :: l) (st) h = wps rm K Q c_M_cut_131 kc ks (some (.ref x) :: l) (.ref x :: st) h := gk_aload rfl
theorem s_M_cut_131 {x : Int64} {l0 l1 l2 l3 l4 l5 l6 l7 : Option Value} {l : eg_Lo} : wps rm K Q c_M_cut_131 kc ks (l0 :: l1 :: l2 :: l3 :: l4 :: l5 :: l6 :: l7 :: some (.long x) :: l) (st) h = wps rm K Q c_M_cut_133 kc ks (l0 :: l1 :: l2 :: l3 :: l4 :: l5 :: l6 :: l7 :: some (.long x) :: l) (.long x :: st) h := gk_lload rfl
theorem s_M_cut_133 {x : Nat} {v : Value} : wps rm K Q c_M_cut_133 kc ks loc (v :: .ref (x + 1) :: st) h = eg_pf h x 12 41 v (fun h9 => wps rm K Q c_M_cut_136 kc ks loc (st) h9) := gk_pf
theorem s_M_cut_136 {x : Nat} {l : eg_Lo} : wps rm K Q c_M_cut_136 kc ks (some (.ref x) :: l) (st) h = wps rm K Q c_M_cut_137 kc ks (some (.ref x) :: l) (.ref x :: st) h := gk_aload rfl
theorem s_M_cut_137 {x : Int64} {l0 l1 l2 l3 l4 l5 l6 l7 l8 l9 : Option Value} {l : eg_Lo} : wps rm K Q c_M_cut_137 kc ks (l0 :: l1 :: l2 :: l3 :: l4 :: l5 :: l6 :: l7 :: l8 :: l9 :: some (.long x) :: l) (st) h = wps rm K Q c_M_cut_139 kc ks (l0 :: l1 :: l2 :: l3 :: l4 :: l5 :: l6 :: l7 :: l8 :: l9 :: some (.long x) :: l) (.long x :: st) h := gk_lload rfl
theorem s_M_cut_139 {x : Nat} {v : Value} : wps rm K Q c_M_cut_139 kc ks loc (v :: .ref (x + 1) :: st) h = eg_pf h x 12 42 v (fun h9 => wps rm K Q c_M_cut_142 kc ks loc (st) h9) := gk_pf
theorem s_M_cut_142  : wps rm K Q c_M_cut_142 kc ks loc (st) h = wps rm K Q c_M_cut_143 kc ks loc (.int (1) :: st) h := gk_ic (by decide)
theorem s_M_cut_143 {x : Int32} : wps rm K Q c_M_cut_143 kc ks loc ([.int x]) h = (kc = rm.cells ∧ ((1 : Nat) = 1 → x = 0 ∨ x = 1) ∧ Q (some (.int x)) h) := gk_iret
def T_M_cut : List (Nat × List eg_I) := [(25, c_M_cut_25), (26, c_M_cut_26), (27, c_M_cut_27), (39, c_M_cut_39), (44, c_M_cut_44), (59, c_M_cut_59), (63, c_M_cut_63), (76, c_M_cut_76), (80, c_M_cut_80), (112, c_M_cut_112), (142, c_M_cut_142)]
theorem j_M_cut_25 {R : Nat → Nat → Nat → eg_Lo → List Value → List eg_E → Prop} {f pc0 : Nat} : eg_run rm R Q T_M_cut (f + 1) 25 kc ks loc st h = wps rm (eg_run rm R Q T_M_cut f) Q c_M_cut_25 kc ks loc st h := rfl
theorem j_M_cut_26 {R : Nat → Nat → Nat → eg_Lo → List Value → List eg_E → Prop} {f pc0 : Nat} : eg_run rm R Q T_M_cut (f + 1) 26 kc ks loc st h = wps rm (eg_run rm R Q T_M_cut f) Q c_M_cut_26 kc ks loc st h := rfl
theorem j_M_cut_27 {R : Nat → Nat → Nat → eg_Lo → List Value → List eg_E → Prop} {f pc0 : Nat} : eg_run rm R Q T_M_cut (f + 1) 27 kc ks loc st h = wps rm (eg_run rm R Q T_M_cut f) Q c_M_cut_27 kc ks loc st h := rfl
theorem j_M_cut_39 {R : Nat → Nat → Nat → eg_Lo → List Value → List eg_E → Prop} {f pc0 : Nat} : eg_run rm R Q T_M_cut (f + 1) 39 kc ks loc st h = wps rm (eg_run rm R Q T_M_cut f) Q c_M_cut_39 kc ks loc st h := rfl
theorem j_M_cut_44 {R : Nat → Nat → Nat → eg_Lo → List Value → List eg_E → Prop} {f pc0 : Nat} : eg_run rm R Q T_M_cut (f + 1) 44 kc ks loc st h = wps rm (eg_run rm R Q T_M_cut f) Q c_M_cut_44 kc ks loc st h := rfl
theorem j_M_cut_59 {R : Nat → Nat → Nat → eg_Lo → List Value → List eg_E → Prop} {f pc0 : Nat} : eg_run rm R Q T_M_cut (f + 1) 59 kc ks loc st h = wps rm (eg_run rm R Q T_M_cut f) Q c_M_cut_59 kc ks loc st h := rfl
theorem j_M_cut_63 {R : Nat → Nat → Nat → eg_Lo → List Value → List eg_E → Prop} {f pc0 : Nat} : eg_run rm R Q T_M_cut (f + 1) 63 kc ks loc st h = wps rm (eg_run rm R Q T_M_cut f) Q c_M_cut_63 kc ks loc st h := rfl
theorem j_M_cut_76 {R : Nat → Nat → Nat → eg_Lo → List Value → List eg_E → Prop} {f pc0 : Nat} : eg_run rm R Q T_M_cut (f + 1) 76 kc ks loc st h = wps rm (eg_run rm R Q T_M_cut f) Q c_M_cut_76 kc ks loc st h := rfl
theorem j_M_cut_80 {R : Nat → Nat → Nat → eg_Lo → List Value → List eg_E → Prop} {f pc0 : Nat} : eg_run rm R Q T_M_cut (f + 1) 80 kc ks loc st h = wps rm (eg_run rm R Q T_M_cut f) Q c_M_cut_80 kc ks loc st h := rfl
theorem j_M_cut_112 {R : Nat → Nat → Nat → eg_Lo → List Value → List eg_E → Prop} {f pc0 : Nat} : eg_run rm R Q T_M_cut (f + 1) 112 kc ks loc st h = wps rm (eg_run rm R Q T_M_cut f) Q c_M_cut_112 kc ks loc st h := rfl
theorem j_M_cut_142 {R : Nat → Nat → Nat → eg_Lo → List Value → List eg_E → Prop} {f pc0 : Nat} : eg_run rm R Q T_M_cut (f + 1) 142 kc ks loc st h = wps rm (eg_run rm R Q T_M_cut f) Q c_M_cut_142 kc ks loc st h := rfl
end
theorem y_M_cut_0 : eg_seq m_M_cut 0 c_M_cut_0 = true := by decide +kernel
theorem y_M_cut_25 : eg_seq m_M_cut 25 c_M_cut_25 = true := by decide +kernel
theorem y_M_cut_27 : eg_seq m_M_cut 27 c_M_cut_27 = true := by decide +kernel
theorem y_M_cut_39 : eg_seq m_M_cut 39 c_M_cut_39 = true := by decide +kernel
theorem y_M_cut_59 : eg_seq m_M_cut 59 c_M_cut_59 = true := by decide +kernel
theorem y_M_cut_76 : eg_seq m_M_cut 76 c_M_cut_76 = true := by decide +kernel
theorem q_M_cut : ∀ q ∈ T_M_cut, eg_seq m_M_cut q.1 q.2 = true := by
  intro q hq
  simp only [T_M_cut, List.mem_cons, List.not_mem_nil, or_false] at hq
  rcases hq with rfl | rfl | rfl | rfl | rfl | rfl | rfl | rfl | rfl | rfl | rfl
  · exact y_M_cut_25
  · exact (eg_seq_drop y_M_cut_25 1 : eg_seq m_M_cut 26 c_M_cut_26 = true)
  · exact y_M_cut_27
  · exact y_M_cut_39
  · exact (eg_seq_drop y_M_cut_39 4 : eg_seq m_M_cut 44 c_M_cut_44 = true)
  · exact y_M_cut_59
  · exact (eg_seq_drop y_M_cut_59 4 : eg_seq m_M_cut 63 c_M_cut_63 = true)
  · exact y_M_cut_76
  · exact (eg_seq_drop y_M_cut_76 3 : eg_seq m_M_cut 80 c_M_cut_80 = true)
  · exact (eg_seq_drop y_M_cut_76 20 : eg_seq m_M_cut 112 c_M_cut_112 = true)
  · exact (eg_seq_drop y_M_cut_76 36 : eg_seq m_M_cut 142 c_M_cut_142 = true)
theorem md_M_cut : eg_md n_M_cut = m_M_cut := rfl
theorem mn_M_cut : n_M_cut < 202 := Nat.le_of_ble_eq_true rfl
theorem b_M_cut {as : List Value} {h : List eg_E} {Q : Option Value → List eg_E → Prop} (hf : (eg_fl as).length ≤ 12) : wps (eg_rm m_M_cut) (eg_run (eg_rm m_M_cut) (eg_R m_M_cut Q (h.length + 0)) Q T_M_cut 13) Q c_M_cut_0 0 0 (eg_entry 12 as) [] h → eg_Runs n_M_cut as h Q := eg_begin2 md_M_cut mn_M_cut y_M_cut_0 q_M_cut hf
/-! ===== M_goesInto ===== -/
def c_M_goesInto_209 : List eg_I := .inl (209, 1, .ireturn, 0, 1) :: []
def c_M_goesInto_208 : List eg_I := .inl (208, 1, .iconst (0), 0, 0) :: c_M_goesInto_209
def c_M_goesInto_205 : List eg_I := .inl (205, 3, .goto (4), 209, 0) :: []
def c_M_goesInto_204 : List eg_I := .inl (204, 1, .iconst (1), 0, 0) :: c_M_goesInto_205
def c_M_goesInto_201 : List eg_I := .inl (201, 3, .ifCond .le (7), 208, 0) :: c_M_goesInto_204
def c_M_goesInto_200 : List eg_I := .inl (200, 1, .lcmp, 0, 0) :: c_M_goesInto_201
def c_M_goesInto_199 : List eg_I := .inl (199, 1, .sipush (0), 0, 0) :: c_M_goesInto_200
def c_M_goesInto_196 : List eg_I := .inl (196, 3, .getfield 308, 12, 41) :: c_M_goesInto_199
def c_M_goesInto_195 : List eg_I := .inl (195, 1, .aload 0, 0, 0) :: c_M_goesInto_196
def c_M_goesInto_192 : List eg_I := .inl (192, 3, .ifCond .ge (16), 208, 0) :: c_M_goesInto_195
def c_M_goesInto_191 : List eg_I := .inl (191, 1, .lcmp, 0, 0) :: c_M_goesInto_192
def c_M_goesInto_188 : List eg_I := .inl (188, 3, .getfield 299, 12, 40) :: c_M_goesInto_191
def c_M_goesInto_187 : List eg_I := .inl (187, 1, .aload 0, 0, 0) :: c_M_goesInto_188
def c_M_goesInto_184 : List eg_I := .inl (184, 3, .getfield 302, 12, 39) :: c_M_goesInto_187
def c_M_goesInto_183 : List eg_I := .inl (183, 1, .aload 0, 0, 0) :: c_M_goesInto_184
def c_M_goesInto_180 : List eg_I := .inl (180, 3, .ifCond .ge (28), 208, 0) :: c_M_goesInto_183
def c_M_goesInto_179 : List eg_I := .inl (179, 1, .lcmp, 0, 0) :: c_M_goesInto_180
def c_M_goesInto_178 : List eg_I := .inl (178, 1, .lmul, 0, 0) :: c_M_goesInto_179
def c_M_goesInto_175 : List eg_I := .inl (175, 3, .getfield 299, 12, 40) :: c_M_goesInto_178
def c_M_goesInto_174 : List eg_I := .inl (174, 1, .aload 0, 0, 0) :: c_M_goesInto_175
def c_M_goesInto_171 : List eg_I := .inl (171, 3, .getfield 308, 12, 41) :: c_M_goesInto_174
def c_M_goesInto_170 : List eg_I := .inl (170, 1, .aload 0, 0, 0) :: c_M_goesInto_171
def c_M_goesInto_169 : List eg_I := .inl (169, 1, .lmul, 0, 0) :: c_M_goesInto_170
def c_M_goesInto_166 : List eg_I := .inl (166, 3, .getfield 305, 12, 42) :: c_M_goesInto_169
def c_M_goesInto_165 : List eg_I := .inl (165, 1, .aload 0, 0, 0) :: c_M_goesInto_166
def c_M_goesInto_162 : List eg_I := .inl (162, 3, .getfield 302, 12, 39) :: c_M_goesInto_165
def c_M_goesInto_161 : List eg_I := .inl (161, 1, .aload 0, 0, 0) :: c_M_goesInto_162
def c_M_goesInto_158 : List eg_I := .inl (158, 3, .ifCond .eq (50), 208, 0) :: c_M_goesInto_161
def c_M_goesInto_156 : List eg_I := .inl (156, 2, .iload 4, 0, 0) :: c_M_goesInto_158
def c_M_goesInto_154 : List eg_I := .inl (154, 2, .istore 4, 0, 0) :: c_M_goesInto_156
def c_M_goesInto_153 : List eg_I := .inl (153, 1, .iconst (0), 0, 0) :: c_M_goesInto_154
def c_M_goesInto_150 : List eg_I := .inl (150, 3, .goto (4), 154, 0) :: []
def c_M_goesInto_149 : List eg_I := .inl (149, 1, .iconst (1), 0, 0) :: c_M_goesInto_150
def c_M_goesInto_146 : List eg_I := .inl (146, 3, .ifCond .eq (7), 153, 0) :: c_M_goesInto_149
def c_M_goesInto_143 : List eg_I := .inr (143, 1, 315, n_M_cut, 4, 12, 0, 0) :: c_M_goesInto_146
def c_M_goesInto_142 : List eg_I := .inl (142, 1, .iaload, 0, 0) :: c_M_goesInto_143
def c_M_goesInto_141 : List eg_I := .inl (141, 1, .iadd, 0, 0) :: c_M_goesInto_142
def c_M_goesInto_140 : List eg_I := .inl (140, 1, .iconst (5), 0, 0) :: c_M_goesInto_141
def c_M_goesInto_139 : List eg_I := .inl (139, 1, .imul, 0, 0) :: c_M_goesInto_140
def c_M_goesInto_138 : List eg_I := .inl (138, 1, .iload 1, 0, 0) :: c_M_goesInto_139
def c_M_goesInto_136 : List eg_I := .inl (136, 2, .iconst (6), 0, 0) :: c_M_goesInto_138
def c_M_goesInto_133 : List eg_I := .inl (133, 3, .getfield 66, 12, 21) :: c_M_goesInto_136
def c_M_goesInto_132 : List eg_I := .inl (132, 1, .aload 0, 0, 0) :: c_M_goesInto_133
def c_M_goesInto_131 : List eg_I := .inl (131, 1, .iaload, 0, 0) :: c_M_goesInto_132
def c_M_goesInto_130 : List eg_I := .inl (130, 1, .iadd, 0, 0) :: c_M_goesInto_131
def c_M_goesInto_129 : List eg_I := .inl (129, 1, .iconst (4), 0, 0) :: c_M_goesInto_130
def c_M_goesInto_128 : List eg_I := .inl (128, 1, .imul, 0, 0) :: c_M_goesInto_129
def c_M_goesInto_127 : List eg_I := .inl (127, 1, .iload 1, 0, 0) :: c_M_goesInto_128
def c_M_goesInto_125 : List eg_I := .inl (125, 2, .iconst (6), 0, 0) :: c_M_goesInto_127
def c_M_goesInto_122 : List eg_I := .inl (122, 3, .getfield 66, 12, 21) :: c_M_goesInto_125
def c_M_goesInto_121 : List eg_I := .inl (121, 1, .aload 0, 0, 0) :: c_M_goesInto_122
def c_M_goesInto_120 : List eg_I := .inl (120, 1, .iaload, 0, 0) :: c_M_goesInto_121
def c_M_goesInto_119 : List eg_I := .inl (119, 1, .iload 3, 0, 0) :: c_M_goesInto_120
def c_M_goesInto_116 : List eg_I := .inl (116, 3, .getfield 19, 12, 3) :: c_M_goesInto_119
def c_M_goesInto_115 : List eg_I := .inl (115, 1, .aload 0, 0, 0) :: c_M_goesInto_116
def c_M_goesInto_114 : List eg_I := .inl (114, 1, .iaload, 0, 0) :: c_M_goesInto_115
def c_M_goesInto_113 : List eg_I := .inl (113, 1, .iload 2, 0, 0) :: c_M_goesInto_114
def c_M_goesInto_110 : List eg_I := .inl (110, 3, .getfield 19, 12, 3) :: c_M_goesInto_113
def c_M_goesInto_109 : List eg_I := .inl (109, 1, .aload 0, 0, 0) :: c_M_goesInto_110
def c_M_goesInto_108 : List eg_I := .inl (108, 1, .aload 0, 0, 0) :: c_M_goesInto_109
def c_M_goesInto_105 : List eg_I := .inl (105, 3, .ifCond .eq (48), 153, 0) :: c_M_goesInto_108
def c_M_goesInto_102 : List eg_I := .inr (102, 1, 315, n_M_cut, 4, 12, 0, 0) :: c_M_goesInto_105
def c_M_goesInto_101 : List eg_I := .inl (101, 1, .iaload, 0, 0) :: c_M_goesInto_102
def c_M_goesInto_100 : List eg_I := .inl (100, 1, .iadd, 0, 0) :: c_M_goesInto_101
def c_M_goesInto_99 : List eg_I := .inl (99, 1, .iconst (3), 0, 0) :: c_M_goesInto_100
def c_M_goesInto_98 : List eg_I := .inl (98, 1, .imul, 0, 0) :: c_M_goesInto_99
def c_M_goesInto_97 : List eg_I := .inl (97, 1, .iload 1, 0, 0) :: c_M_goesInto_98
def c_M_goesInto_95 : List eg_I := .inl (95, 2, .iconst (6), 0, 0) :: c_M_goesInto_97
def c_M_goesInto_92 : List eg_I := .inl (92, 3, .getfield 66, 12, 21) :: c_M_goesInto_95
def c_M_goesInto_91 : List eg_I := .inl (91, 1, .aload 0, 0, 0) :: c_M_goesInto_92
def c_M_goesInto_90 : List eg_I := .inl (90, 1, .iaload, 0, 0) :: c_M_goesInto_91
def c_M_goesInto_89 : List eg_I := .inl (89, 1, .iadd, 0, 0) :: c_M_goesInto_90
def c_M_goesInto_88 : List eg_I := .inl (88, 1, .iconst (2), 0, 0) :: c_M_goesInto_89
def c_M_goesInto_87 : List eg_I := .inl (87, 1, .imul, 0, 0) :: c_M_goesInto_88
def c_M_goesInto_86 : List eg_I := .inl (86, 1, .iload 1, 0, 0) :: c_M_goesInto_87
def c_M_goesInto_84 : List eg_I := .inl (84, 2, .iconst (6), 0, 0) :: c_M_goesInto_86
def c_M_goesInto_81 : List eg_I := .inl (81, 3, .getfield 66, 12, 21) :: c_M_goesInto_84
def c_M_goesInto_80 : List eg_I := .inl (80, 1, .aload 0, 0, 0) :: c_M_goesInto_81
def c_M_goesInto_79 : List eg_I := .inl (79, 1, .iaload, 0, 0) :: c_M_goesInto_80
def c_M_goesInto_78 : List eg_I := .inl (78, 1, .iload 3, 0, 0) :: c_M_goesInto_79
def c_M_goesInto_75 : List eg_I := .inl (75, 3, .getfield 16, 12, 2) :: c_M_goesInto_78
def c_M_goesInto_74 : List eg_I := .inl (74, 1, .aload 0, 0, 0) :: c_M_goesInto_75
def c_M_goesInto_73 : List eg_I := .inl (73, 1, .iaload, 0, 0) :: c_M_goesInto_74
def c_M_goesInto_72 : List eg_I := .inl (72, 1, .iload 2, 0, 0) :: c_M_goesInto_73
def c_M_goesInto_69 : List eg_I := .inl (69, 3, .getfield 16, 12, 2) :: c_M_goesInto_72
def c_M_goesInto_68 : List eg_I := .inl (68, 1, .aload 0, 0, 0) :: c_M_goesInto_69
def c_M_goesInto_67 : List eg_I := .inl (67, 1, .aload 0, 0, 0) :: c_M_goesInto_68
def c_M_goesInto_64 : List eg_I := .inl (64, 3, .ifCond .eq (89), 153, 0) :: c_M_goesInto_67
def c_M_goesInto_61 : List eg_I := .inr (61, 1, 315, n_M_cut, 4, 12, 0, 0) :: c_M_goesInto_64
def c_M_goesInto_60 : List eg_I := .inl (60, 1, .iaload, 0, 0) :: c_M_goesInto_61
def c_M_goesInto_59 : List eg_I := .inl (59, 1, .iadd, 0, 0) :: c_M_goesInto_60
def c_M_goesInto_58 : List eg_I := .inl (58, 1, .iconst (1), 0, 0) :: c_M_goesInto_59
def c_M_goesInto_57 : List eg_I := .inl (57, 1, .imul, 0, 0) :: c_M_goesInto_58
def c_M_goesInto_56 : List eg_I := .inl (56, 1, .iload 1, 0, 0) :: c_M_goesInto_57
def c_M_goesInto_54 : List eg_I := .inl (54, 2, .iconst (6), 0, 0) :: c_M_goesInto_56
def c_M_goesInto_51 : List eg_I := .inl (51, 3, .getfield 66, 12, 21) :: c_M_goesInto_54
def c_M_goesInto_50 : List eg_I := .inl (50, 1, .aload 0, 0, 0) :: c_M_goesInto_51
def c_M_goesInto_49 : List eg_I := .inl (49, 1, .iaload, 0, 0) :: c_M_goesInto_50
def c_M_goesInto_48 : List eg_I := .inl (48, 1, .imul, 0, 0) :: c_M_goesInto_49
def c_M_goesInto_47 : List eg_I := .inl (47, 1, .iload 1, 0, 0) :: c_M_goesInto_48
def c_M_goesInto_45 : List eg_I := .inl (45, 2, .iconst (6), 0, 0) :: c_M_goesInto_47
def c_M_goesInto_42 : List eg_I := .inl (42, 3, .getfield 66, 12, 21) :: c_M_goesInto_45
def c_M_goesInto_41 : List eg_I := .inl (41, 1, .aload 0, 0, 0) :: c_M_goesInto_42
def c_M_goesInto_40 : List eg_I := .inl (40, 1, .iaload, 0, 0) :: c_M_goesInto_41
def c_M_goesInto_39 : List eg_I := .inl (39, 1, .iload 3, 0, 0) :: c_M_goesInto_40
def c_M_goesInto_36 : List eg_I := .inl (36, 3, .getfield 13, 12, 1) :: c_M_goesInto_39
def c_M_goesInto_35 : List eg_I := .inl (35, 1, .aload 0, 0, 0) :: c_M_goesInto_36
def c_M_goesInto_34 : List eg_I := .inl (34, 1, .iaload, 0, 0) :: c_M_goesInto_35
def c_M_goesInto_33 : List eg_I := .inl (33, 1, .iload 2, 0, 0) :: c_M_goesInto_34
def c_M_goesInto_30 : List eg_I := .inl (30, 3, .getfield 13, 12, 1) :: c_M_goesInto_33
def c_M_goesInto_29 : List eg_I := .inl (29, 1, .aload 0, 0, 0) :: c_M_goesInto_30
def c_M_goesInto_28 : List eg_I := .inl (28, 1, .aload 0, 0, 0) :: c_M_goesInto_29
def c_M_goesInto_25 : List eg_I := .inl (25, 3, .putfield 305, 12, 42) :: c_M_goesInto_28
def c_M_goesInto_22 : List eg_I := .inl (22, 3, .sipush (1000000), 311, 0) :: c_M_goesInto_25
def c_M_goesInto_21 : List eg_I := .inl (21, 1, .aload 0, 0, 0) :: c_M_goesInto_22
def c_M_goesInto_18 : List eg_I := .inl (18, 3, .putfield 308, 12, 41) :: c_M_goesInto_21
def c_M_goesInto_15 : List eg_I := .inl (15, 3, .sipush (1000001), 313, 0) :: c_M_goesInto_18
def c_M_goesInto_14 : List eg_I := .inl (14, 1, .aload 0, 0, 0) :: c_M_goesInto_15
def c_M_goesInto_11 : List eg_I := .inl (11, 3, .putfield 299, 12, 40) :: c_M_goesInto_14
def c_M_goesInto_8 : List eg_I := .inl (8, 3, .sipush (1000000), 311, 0) :: c_M_goesInto_11
def c_M_goesInto_7 : List eg_I := .inl (7, 1, .aload 0, 0, 0) :: c_M_goesInto_8
def c_M_goesInto_4 : List eg_I := .inl (4, 3, .putfield 302, 12, 39) :: c_M_goesInto_7
def c_M_goesInto_1 : List eg_I := .inl (1, 3, .sipush (-1), 136, 0) :: c_M_goesInto_4
def c_M_goesInto_0 : List eg_I := .inl (0, 1, .aload 0, 0, 0) :: c_M_goesInto_1
section
variable {rm : Room} {K : Nat → Nat → Nat → eg_Lo → List Value → List eg_E → Prop} {Q : Option Value → List eg_E → Prop} {kc ks : Nat} {loc : eg_Lo} {st : List Value} {h : List eg_E}
theorem s_M_goesInto_0 {x : Nat} {l : eg_Lo} : wps rm K Q c_M_goesInto_0 kc ks (some (.ref x) :: l) (st) h = wps rm K Q c_M_goesInto_1 kc ks (some (.ref x) :: l) (.ref x :: st) h := gk_aload rfl
theorem s_M_goesInto_1  : wps rm K Q c_M_goesInto_1 kc ks loc (st) h = wps rm K Q c_M_goesInto_4 kc ks loc (.long (-1) :: st) h := gk_lc (by decide)
theorem s_M_goesInto_4 {x : Nat} {v : Value} : wps rm K Q c_M_goesInto_4 kc ks loc (v :: .ref (x + 1) :: st) h = eg_pf h x 12 39 v (fun h9 => wps rm K Q c_M_goesInto_7 kc ks loc (st) h9) := gk_pf
theorem s_M_goesInto_7 {x : Nat} {l : eg_Lo} : wps rm K Q c_M_goesInto_7 kc ks (some (.ref x) :: l) (st) h = wps rm K Q c_M_goesInto_8 kc ks (some (.ref x) :: l) (.ref x :: st) h := gk_aload rfl
theorem s_M_goesInto_8  : wps rm K Q c_M_goesInto_8 kc ks loc (st) h = wps rm K Q c_M_goesInto_11 kc ks loc (.long (1000000) :: st) h := gk_lc (by decide)
theorem s_M_goesInto_11 {x : Nat} {v : Value} : wps rm K Q c_M_goesInto_11 kc ks loc (v :: .ref (x + 1) :: st) h = eg_pf h x 12 40 v (fun h9 => wps rm K Q c_M_goesInto_14 kc ks loc (st) h9) := gk_pf
theorem s_M_goesInto_14 {x : Nat} {l : eg_Lo} : wps rm K Q c_M_goesInto_14 kc ks (some (.ref x) :: l) (st) h = wps rm K Q c_M_goesInto_15 kc ks (some (.ref x) :: l) (.ref x :: st) h := gk_aload rfl
theorem s_M_goesInto_15  : wps rm K Q c_M_goesInto_15 kc ks loc (st) h = wps rm K Q c_M_goesInto_18 kc ks loc (.long (1000001) :: st) h := gk_lc (by decide)
theorem s_M_goesInto_18 {x : Nat} {v : Value} : wps rm K Q c_M_goesInto_18 kc ks loc (v :: .ref (x + 1) :: st) h = eg_pf h x 12 41 v (fun h9 => wps rm K Q c_M_goesInto_21 kc ks loc (st) h9) := gk_pf
theorem s_M_goesInto_21 {x : Nat} {l : eg_Lo} : wps rm K Q c_M_goesInto_21 kc ks (some (.ref x) :: l) (st) h = wps rm K Q c_M_goesInto_22 kc ks (some (.ref x) :: l) (.ref x :: st) h := gk_aload rfl
theorem s_M_goesInto_22  : wps rm K Q c_M_goesInto_22 kc ks loc (st) h = wps rm K Q c_M_goesInto_25 kc ks loc (.long (1000000) :: st) h := gk_lc (by decide)
theorem s_M_goesInto_25 {x : Nat} {v : Value} : wps rm K Q c_M_goesInto_25 kc ks loc (v :: .ref (x + 1) :: st) h = eg_pf h x 12 42 v (fun h9 => wps rm K Q c_M_goesInto_28 kc ks loc (st) h9) := gk_pf
theorem s_M_goesInto_28 {x : Nat} {l : eg_Lo} : wps rm K Q c_M_goesInto_28 kc ks (some (.ref x) :: l) (st) h = wps rm K Q c_M_goesInto_29 kc ks (some (.ref x) :: l) (.ref x :: st) h := gk_aload rfl
theorem s_M_goesInto_29 {x : Nat} {l : eg_Lo} : wps rm K Q c_M_goesInto_29 kc ks (some (.ref x) :: l) (st) h = wps rm K Q c_M_goesInto_30 kc ks (some (.ref x) :: l) (.ref x :: st) h := gk_aload rfl
theorem s_M_goesInto_30 {x : Nat} : wps rm K Q c_M_goesInto_30 kc ks loc (.ref (x + 1) :: st) h = eg_gf h x 12 1 (fun v => wps rm K Q c_M_goesInto_33 kc ks loc (v :: st) h) := gk_gf
theorem s_M_goesInto_33 {x : Int32} {l0 l1 : Option Value} {l : eg_Lo} : wps rm K Q c_M_goesInto_33 kc ks (l0 :: l1 :: some (.int x) :: l) (st) h = wps rm K Q c_M_goesInto_34 kc ks (l0 :: l1 :: some (.int x) :: l) (.int x :: st) h := gk_iload rfl
theorem s_M_goesInto_34 {x : Nat} {i : Int32} : wps rm K Q c_M_goesInto_34 kc ks loc (.int i :: .ref (x + 1) :: st) h = eg_ia h x i (fun v => wps rm K Q c_M_goesInto_35 kc ks loc (.int v :: st) h) := gk_iaload
theorem s_M_goesInto_35 {x : Nat} {l : eg_Lo} : wps rm K Q c_M_goesInto_35 kc ks (some (.ref x) :: l) (st) h = wps rm K Q c_M_goesInto_36 kc ks (some (.ref x) :: l) (.ref x :: st) h := gk_aload rfl
theorem s_M_goesInto_36 {x : Nat} : wps rm K Q c_M_goesInto_36 kc ks loc (.ref (x + 1) :: st) h = eg_gf h x 12 1 (fun v => wps rm K Q c_M_goesInto_39 kc ks loc (v :: st) h) := gk_gf
theorem s_M_goesInto_39 {x : Int32} {l0 l1 l2 : Option Value} {l : eg_Lo} : wps rm K Q c_M_goesInto_39 kc ks (l0 :: l1 :: l2 :: some (.int x) :: l) (st) h = wps rm K Q c_M_goesInto_40 kc ks (l0 :: l1 :: l2 :: some (.int x) :: l) (.int x :: st) h := gk_iload rfl
theorem s_M_goesInto_40 {x : Nat} {i : Int32} : wps rm K Q c_M_goesInto_40 kc ks loc (.int i :: .ref (x + 1) :: st) h = eg_ia h x i (fun v => wps rm K Q c_M_goesInto_41 kc ks loc (.int v :: st) h) := gk_iaload
theorem s_M_goesInto_41 {x : Nat} {l : eg_Lo} : wps rm K Q c_M_goesInto_41 kc ks (some (.ref x) :: l) (st) h = wps rm K Q c_M_goesInto_42 kc ks (some (.ref x) :: l) (.ref x :: st) h := gk_aload rfl
theorem s_M_goesInto_42 {x : Nat} : wps rm K Q c_M_goesInto_42 kc ks loc (.ref (x + 1) :: st) h = eg_gf h x 12 21 (fun v => wps rm K Q c_M_goesInto_45 kc ks loc (v :: st) h) := gk_gf
theorem s_M_goesInto_45  : wps rm K Q c_M_goesInto_45 kc ks loc (st) h = wps rm K Q c_M_goesInto_47 kc ks loc (.int (6) :: st) h := gk_ic (by decide)
theorem s_M_goesInto_47 {x : Int32} {l0 : Option Value} {l : eg_Lo} : wps rm K Q c_M_goesInto_47 kc ks (l0 :: some (.int x) :: l) (st) h = wps rm K Q c_M_goesInto_48 kc ks (l0 :: some (.int x) :: l) (.int x :: st) h := gk_iload rfl
theorem s_M_goesInto_48 {x y : Int32} : wps rm K Q c_M_goesInto_48 kc ks loc (.int y :: .int x :: st) h = wps rm K Q c_M_goesInto_49 kc ks loc (.int (x * y) :: st) h := gk_imul
theorem s_M_goesInto_49 {x : Nat} {i : Int32} : wps rm K Q c_M_goesInto_49 kc ks loc (.int i :: .ref (x + 1) :: st) h = eg_ia h x i (fun v => wps rm K Q c_M_goesInto_50 kc ks loc (.int v :: st) h) := gk_iaload
theorem s_M_goesInto_50 {x : Nat} {l : eg_Lo} : wps rm K Q c_M_goesInto_50 kc ks (some (.ref x) :: l) (st) h = wps rm K Q c_M_goesInto_51 kc ks (some (.ref x) :: l) (.ref x :: st) h := gk_aload rfl
theorem s_M_goesInto_51 {x : Nat} : wps rm K Q c_M_goesInto_51 kc ks loc (.ref (x + 1) :: st) h = eg_gf h x 12 21 (fun v => wps rm K Q c_M_goesInto_54 kc ks loc (v :: st) h) := gk_gf
theorem s_M_goesInto_54  : wps rm K Q c_M_goesInto_54 kc ks loc (st) h = wps rm K Q c_M_goesInto_56 kc ks loc (.int (6) :: st) h := gk_ic (by decide)
theorem s_M_goesInto_56 {x : Int32} {l0 : Option Value} {l : eg_Lo} : wps rm K Q c_M_goesInto_56 kc ks (l0 :: some (.int x) :: l) (st) h = wps rm K Q c_M_goesInto_57 kc ks (l0 :: some (.int x) :: l) (.int x :: st) h := gk_iload rfl
theorem s_M_goesInto_57 {x y : Int32} : wps rm K Q c_M_goesInto_57 kc ks loc (.int y :: .int x :: st) h = wps rm K Q c_M_goesInto_58 kc ks loc (.int (x * y) :: st) h := gk_imul
theorem s_M_goesInto_58  : wps rm K Q c_M_goesInto_58 kc ks loc (st) h = wps rm K Q c_M_goesInto_59 kc ks loc (.int (1) :: st) h := gk_ic (by decide)
theorem s_M_goesInto_59 {x y : Int32} : wps rm K Q c_M_goesInto_59 kc ks loc (.int y :: .int x :: st) h = wps rm K Q c_M_goesInto_60 kc ks loc (.int (x + y) :: st) h := gk_iadd
theorem s_M_goesInto_60 {x : Nat} {i : Int32} : wps rm K Q c_M_goesInto_60 kc ks loc (.int i :: .ref (x + 1) :: st) h = eg_ia h x i (fun v => wps rm K Q c_M_goesInto_61 kc ks loc (.int v :: st) h) := gk_iaload
theorem s_M_goesInto_61  {a1 : Value} {a2 : Value} {a3 : Value} {a4 : Value} {x : Nat} : wps rm K Q c_M_goesInto_61 kc ks loc (a4 :: a3 :: a2 :: a1 :: .ref (x + 1) :: st) h = (eg_cls h x 12 ∧ st.length ≤ 4 ∧ eg_Cs n_M_cut (.ref (x + 1) :: [a1, a2, a3, a4]) h (fun v h9 => wps rm K Q c_M_goesInto_64 kc ks loc (v.toList ++ st) h9)) := eg_c1_4
theorem s_M_goesInto_64 {x : Int32} : wps rm K Q c_M_goesInto_64 kc ks loc (.int x :: st) h = ((x = 0 → K 153 kc ks loc st h) ∧ (¬ x = 0 → wps rm K Q c_M_goesInto_67 kc ks loc (st) h)) := gk_if1_eq
theorem s_M_goesInto_67 {x : Nat} {l : eg_Lo} : wps rm K Q c_M_goesInto_67 kc ks (some (.ref x) :: l) (st) h = wps rm K Q c_M_goesInto_68 kc ks (some (.ref x) :: l) (.ref x :: st) h := gk_aload rfl
theorem s_M_goesInto_68 {x : Nat} {l : eg_Lo} : wps rm K Q c_M_goesInto_68 kc ks (some (.ref x) :: l) (st) h = wps rm K Q c_M_goesInto_69 kc ks (some (.ref x) :: l) (.ref x :: st) h := gk_aload rfl
theorem s_M_goesInto_69 {x : Nat} : wps rm K Q c_M_goesInto_69 kc ks loc (.ref (x + 1) :: st) h = eg_gf h x 12 2 (fun v => wps rm K Q c_M_goesInto_72 kc ks loc (v :: st) h) := gk_gf
theorem s_M_goesInto_72 {x : Int32} {l0 l1 : Option Value} {l : eg_Lo} : wps rm K Q c_M_goesInto_72 kc ks (l0 :: l1 :: some (.int x) :: l) (st) h = wps rm K Q c_M_goesInto_73 kc ks (l0 :: l1 :: some (.int x) :: l) (.int x :: st) h := gk_iload rfl
theorem s_M_goesInto_73 {x : Nat} {i : Int32} : wps rm K Q c_M_goesInto_73 kc ks loc (.int i :: .ref (x + 1) :: st) h = eg_ia h x i (fun v => wps rm K Q c_M_goesInto_74 kc ks loc (.int v :: st) h) := gk_iaload
theorem s_M_goesInto_74 {x : Nat} {l : eg_Lo} : wps rm K Q c_M_goesInto_74 kc ks (some (.ref x) :: l) (st) h = wps rm K Q c_M_goesInto_75 kc ks (some (.ref x) :: l) (.ref x :: st) h := gk_aload rfl
theorem s_M_goesInto_75 {x : Nat} : wps rm K Q c_M_goesInto_75 kc ks loc (.ref (x + 1) :: st) h = eg_gf h x 12 2 (fun v => wps rm K Q c_M_goesInto_78 kc ks loc (v :: st) h) := gk_gf
theorem s_M_goesInto_78 {x : Int32} {l0 l1 l2 : Option Value} {l : eg_Lo} : wps rm K Q c_M_goesInto_78 kc ks (l0 :: l1 :: l2 :: some (.int x) :: l) (st) h = wps rm K Q c_M_goesInto_79 kc ks (l0 :: l1 :: l2 :: some (.int x) :: l) (.int x :: st) h := gk_iload rfl
theorem s_M_goesInto_79 {x : Nat} {i : Int32} : wps rm K Q c_M_goesInto_79 kc ks loc (.int i :: .ref (x + 1) :: st) h = eg_ia h x i (fun v => wps rm K Q c_M_goesInto_80 kc ks loc (.int v :: st) h) := gk_iaload
theorem s_M_goesInto_80 {x : Nat} {l : eg_Lo} : wps rm K Q c_M_goesInto_80 kc ks (some (.ref x) :: l) (st) h = wps rm K Q c_M_goesInto_81 kc ks (some (.ref x) :: l) (.ref x :: st) h := gk_aload rfl
theorem s_M_goesInto_81 {x : Nat} : wps rm K Q c_M_goesInto_81 kc ks loc (.ref (x + 1) :: st) h = eg_gf h x 12 21 (fun v => wps rm K Q c_M_goesInto_84 kc ks loc (v :: st) h) := gk_gf
theorem s_M_goesInto_84  : wps rm K Q c_M_goesInto_84 kc ks loc (st) h = wps rm K Q c_M_goesInto_86 kc ks loc (.int (6) :: st) h := gk_ic (by decide)
theorem s_M_goesInto_86 {x : Int32} {l0 : Option Value} {l : eg_Lo} : wps rm K Q c_M_goesInto_86 kc ks (l0 :: some (.int x) :: l) (st) h = wps rm K Q c_M_goesInto_87 kc ks (l0 :: some (.int x) :: l) (.int x :: st) h := gk_iload rfl
theorem s_M_goesInto_87 {x y : Int32} : wps rm K Q c_M_goesInto_87 kc ks loc (.int y :: .int x :: st) h = wps rm K Q c_M_goesInto_88 kc ks loc (.int (x * y) :: st) h := gk_imul
theorem s_M_goesInto_88  : wps rm K Q c_M_goesInto_88 kc ks loc (st) h = wps rm K Q c_M_goesInto_89 kc ks loc (.int (2) :: st) h := gk_ic (by decide)
theorem s_M_goesInto_89 {x y : Int32} : wps rm K Q c_M_goesInto_89 kc ks loc (.int y :: .int x :: st) h = wps rm K Q c_M_goesInto_90 kc ks loc (.int (x + y) :: st) h := gk_iadd
theorem s_M_goesInto_90 {x : Nat} {i : Int32} : wps rm K Q c_M_goesInto_90 kc ks loc (.int i :: .ref (x + 1) :: st) h = eg_ia h x i (fun v => wps rm K Q c_M_goesInto_91 kc ks loc (.int v :: st) h) := gk_iaload
theorem s_M_goesInto_91 {x : Nat} {l : eg_Lo} : wps rm K Q c_M_goesInto_91 kc ks (some (.ref x) :: l) (st) h = wps rm K Q c_M_goesInto_92 kc ks (some (.ref x) :: l) (.ref x :: st) h := gk_aload rfl
theorem s_M_goesInto_92 {x : Nat} : wps rm K Q c_M_goesInto_92 kc ks loc (.ref (x + 1) :: st) h = eg_gf h x 12 21 (fun v => wps rm K Q c_M_goesInto_95 kc ks loc (v :: st) h) := gk_gf
theorem s_M_goesInto_95  : wps rm K Q c_M_goesInto_95 kc ks loc (st) h = wps rm K Q c_M_goesInto_97 kc ks loc (.int (6) :: st) h := gk_ic (by decide)
theorem s_M_goesInto_97 {x : Int32} {l0 : Option Value} {l : eg_Lo} : wps rm K Q c_M_goesInto_97 kc ks (l0 :: some (.int x) :: l) (st) h = wps rm K Q c_M_goesInto_98 kc ks (l0 :: some (.int x) :: l) (.int x :: st) h := gk_iload rfl
theorem s_M_goesInto_98 {x y : Int32} : wps rm K Q c_M_goesInto_98 kc ks loc (.int y :: .int x :: st) h = wps rm K Q c_M_goesInto_99 kc ks loc (.int (x * y) :: st) h := gk_imul
theorem s_M_goesInto_99  : wps rm K Q c_M_goesInto_99 kc ks loc (st) h = wps rm K Q c_M_goesInto_100 kc ks loc (.int (3) :: st) h := gk_ic (by decide)
theorem s_M_goesInto_100 {x y : Int32} : wps rm K Q c_M_goesInto_100 kc ks loc (.int y :: .int x :: st) h = wps rm K Q c_M_goesInto_101 kc ks loc (.int (x + y) :: st) h := gk_iadd
theorem s_M_goesInto_101 {x : Nat} {i : Int32} : wps rm K Q c_M_goesInto_101 kc ks loc (.int i :: .ref (x + 1) :: st) h = eg_ia h x i (fun v => wps rm K Q c_M_goesInto_102 kc ks loc (.int v :: st) h) := gk_iaload
theorem s_M_goesInto_102  {a1 : Value} {a2 : Value} {a3 : Value} {a4 : Value} {x : Nat} : wps rm K Q c_M_goesInto_102 kc ks loc (a4 :: a3 :: a2 :: a1 :: .ref (x + 1) :: st) h = (eg_cls h x 12 ∧ st.length ≤ 4 ∧ eg_Cs n_M_cut (.ref (x + 1) :: [a1, a2, a3, a4]) h (fun v h9 => wps rm K Q c_M_goesInto_105 kc ks loc (v.toList ++ st) h9)) := eg_c1_4
theorem s_M_goesInto_105 {x : Int32} : wps rm K Q c_M_goesInto_105 kc ks loc (.int x :: st) h = ((x = 0 → K 153 kc ks loc st h) ∧ (¬ x = 0 → wps rm K Q c_M_goesInto_108 kc ks loc (st) h)) := gk_if1_eq
theorem s_M_goesInto_108 {x : Nat} {l : eg_Lo} : wps rm K Q c_M_goesInto_108 kc ks (some (.ref x) :: l) (st) h = wps rm K Q c_M_goesInto_109 kc ks (some (.ref x) :: l) (.ref x :: st) h := gk_aload rfl
theorem s_M_goesInto_109 {x : Nat} {l : eg_Lo} : wps rm K Q c_M_goesInto_109 kc ks (some (.ref x) :: l) (st) h = wps rm K Q c_M_goesInto_110 kc ks (some (.ref x) :: l) (.ref x :: st) h := gk_aload rfl
theorem s_M_goesInto_110 {x : Nat} : wps rm K Q c_M_goesInto_110 kc ks loc (.ref (x + 1) :: st) h = eg_gf h x 12 3 (fun v => wps rm K Q c_M_goesInto_113 kc ks loc (v :: st) h) := gk_gf
theorem s_M_goesInto_113 {x : Int32} {l0 l1 : Option Value} {l : eg_Lo} : wps rm K Q c_M_goesInto_113 kc ks (l0 :: l1 :: some (.int x) :: l) (st) h = wps rm K Q c_M_goesInto_114 kc ks (l0 :: l1 :: some (.int x) :: l) (.int x :: st) h := gk_iload rfl
theorem s_M_goesInto_114 {x : Nat} {i : Int32} : wps rm K Q c_M_goesInto_114 kc ks loc (.int i :: .ref (x + 1) :: st) h = eg_ia h x i (fun v => wps rm K Q c_M_goesInto_115 kc ks loc (.int v :: st) h) := gk_iaload
theorem s_M_goesInto_115 {x : Nat} {l : eg_Lo} : wps rm K Q c_M_goesInto_115 kc ks (some (.ref x) :: l) (st) h = wps rm K Q c_M_goesInto_116 kc ks (some (.ref x) :: l) (.ref x :: st) h := gk_aload rfl
theorem s_M_goesInto_116 {x : Nat} : wps rm K Q c_M_goesInto_116 kc ks loc (.ref (x + 1) :: st) h = eg_gf h x 12 3 (fun v => wps rm K Q c_M_goesInto_119 kc ks loc (v :: st) h) := gk_gf
theorem s_M_goesInto_119 {x : Int32} {l0 l1 l2 : Option Value} {l : eg_Lo} : wps rm K Q c_M_goesInto_119 kc ks (l0 :: l1 :: l2 :: some (.int x) :: l) (st) h = wps rm K Q c_M_goesInto_120 kc ks (l0 :: l1 :: l2 :: some (.int x) :: l) (.int x :: st) h := gk_iload rfl
theorem s_M_goesInto_120 {x : Nat} {i : Int32} : wps rm K Q c_M_goesInto_120 kc ks loc (.int i :: .ref (x + 1) :: st) h = eg_ia h x i (fun v => wps rm K Q c_M_goesInto_121 kc ks loc (.int v :: st) h) := gk_iaload
theorem s_M_goesInto_121 {x : Nat} {l : eg_Lo} : wps rm K Q c_M_goesInto_121 kc ks (some (.ref x) :: l) (st) h = wps rm K Q c_M_goesInto_122 kc ks (some (.ref x) :: l) (.ref x :: st) h := gk_aload rfl
theorem s_M_goesInto_122 {x : Nat} : wps rm K Q c_M_goesInto_122 kc ks loc (.ref (x + 1) :: st) h = eg_gf h x 12 21 (fun v => wps rm K Q c_M_goesInto_125 kc ks loc (v :: st) h) := gk_gf
theorem s_M_goesInto_125  : wps rm K Q c_M_goesInto_125 kc ks loc (st) h = wps rm K Q c_M_goesInto_127 kc ks loc (.int (6) :: st) h := gk_ic (by decide)
theorem s_M_goesInto_127 {x : Int32} {l0 : Option Value} {l : eg_Lo} : wps rm K Q c_M_goesInto_127 kc ks (l0 :: some (.int x) :: l) (st) h = wps rm K Q c_M_goesInto_128 kc ks (l0 :: some (.int x) :: l) (.int x :: st) h := gk_iload rfl
theorem s_M_goesInto_128 {x y : Int32} : wps rm K Q c_M_goesInto_128 kc ks loc (.int y :: .int x :: st) h = wps rm K Q c_M_goesInto_129 kc ks loc (.int (x * y) :: st) h := gk_imul
theorem s_M_goesInto_129  : wps rm K Q c_M_goesInto_129 kc ks loc (st) h = wps rm K Q c_M_goesInto_130 kc ks loc (.int (4) :: st) h := gk_ic (by decide)
theorem s_M_goesInto_130 {x y : Int32} : wps rm K Q c_M_goesInto_130 kc ks loc (.int y :: .int x :: st) h = wps rm K Q c_M_goesInto_131 kc ks loc (.int (x + y) :: st) h := gk_iadd
theorem s_M_goesInto_131 {x : Nat} {i : Int32} : wps rm K Q c_M_goesInto_131 kc ks loc (.int i :: .ref (x + 1) :: st) h = eg_ia h x i (fun v => wps rm K Q c_M_goesInto_132 kc ks loc (.int v :: st) h) := gk_iaload
theorem s_M_goesInto_132 {x : Nat} {l : eg_Lo} : wps rm K Q c_M_goesInto_132 kc ks (some (.ref x) :: l) (st) h = wps rm K Q c_M_goesInto_133 kc ks (some (.ref x) :: l) (.ref x :: st) h := gk_aload rfl
theorem s_M_goesInto_133 {x : Nat} : wps rm K Q c_M_goesInto_133 kc ks loc (.ref (x + 1) :: st) h = eg_gf h x 12 21 (fun v => wps rm K Q c_M_goesInto_136 kc ks loc (v :: st) h) := gk_gf
theorem s_M_goesInto_136  : wps rm K Q c_M_goesInto_136 kc ks loc (st) h = wps rm K Q c_M_goesInto_138 kc ks loc (.int (6) :: st) h := gk_ic (by decide)
theorem s_M_goesInto_138 {x : Int32} {l0 : Option Value} {l : eg_Lo} : wps rm K Q c_M_goesInto_138 kc ks (l0 :: some (.int x) :: l) (st) h = wps rm K Q c_M_goesInto_139 kc ks (l0 :: some (.int x) :: l) (.int x :: st) h := gk_iload rfl
theorem s_M_goesInto_139 {x y : Int32} : wps rm K Q c_M_goesInto_139 kc ks loc (.int y :: .int x :: st) h = wps rm K Q c_M_goesInto_140 kc ks loc (.int (x * y) :: st) h := gk_imul
theorem s_M_goesInto_140  : wps rm K Q c_M_goesInto_140 kc ks loc (st) h = wps rm K Q c_M_goesInto_141 kc ks loc (.int (5) :: st) h := gk_ic (by decide)
theorem s_M_goesInto_141 {x y : Int32} : wps rm K Q c_M_goesInto_141 kc ks loc (.int y :: .int x :: st) h = wps rm K Q c_M_goesInto_142 kc ks loc (.int (x + y) :: st) h := gk_iadd
theorem s_M_goesInto_142 {x : Nat} {i : Int32} : wps rm K Q c_M_goesInto_142 kc ks loc (.int i :: .ref (x + 1) :: st) h = eg_ia h x i (fun v => wps rm K Q c_M_goesInto_143 kc ks loc (.int v :: st) h) := gk_iaload
theorem s_M_goesInto_143  {a1 : Value} {a2 : Value} {a3 : Value} {a4 : Value} {x : Nat} : wps rm K Q c_M_goesInto_143 kc ks loc (a4 :: a3 :: a2 :: a1 :: .ref (x + 1) :: st) h = (eg_cls h x 12 ∧ st.length ≤ 4 ∧ eg_Cs n_M_cut (.ref (x + 1) :: [a1, a2, a3, a4]) h (fun v h9 => wps rm K Q c_M_goesInto_146 kc ks loc (v.toList ++ st) h9)) := eg_c1_4
theorem s_M_goesInto_146 {x : Int32} : wps rm K Q c_M_goesInto_146 kc ks loc (.int x :: st) h = ((x = 0 → K 153 kc ks loc st h) ∧ (¬ x = 0 → wps rm K Q c_M_goesInto_149 kc ks loc (st) h)) := gk_if1_eq
theorem s_M_goesInto_149  : wps rm K Q c_M_goesInto_149 kc ks loc (st) h = wps rm K Q c_M_goesInto_150 kc ks loc (.int (1) :: st) h := gk_ic (by decide)
theorem s_M_goesInto_150  : wps rm K Q c_M_goesInto_150 kc ks loc (st) h = K 154 kc ks loc st h := gk_goto
theorem s_M_goesInto_153  : wps rm K Q c_M_goesInto_153 kc ks loc (st) h = wps rm K Q c_M_goesInto_154 kc ks loc (.int (0) :: st) h := gk_ic (by decide)
theorem s_M_goesInto_154 {x : Int32} : wps rm K Q c_M_goesInto_154 kc ks loc (.int x :: st) h = wps rm K Q c_M_goesInto_156 kc ks (eg_set1 loc 4 (.int x)) (st) h := gk_istore
theorem s_M_goesInto_156 {x : Int32} {l0 l1 l2 l3 : Option Value} {l : eg_Lo} : wps rm K Q c_M_goesInto_156 kc ks (l0 :: l1 :: l2 :: l3 :: some (.int x) :: l) (st) h = wps rm K Q c_M_goesInto_158 kc ks (l0 :: l1 :: l2 :: l3 :: some (.int x) :: l) (.int x :: st) h := gk_iload rfl
theorem s_M_goesInto_158 {x : Int32} : wps rm K Q c_M_goesInto_158 kc ks loc (.int x :: st) h = ((x = 0 → K 208 kc ks loc st h) ∧ (¬ x = 0 → wps rm K Q c_M_goesInto_161 kc ks loc (st) h)) := gk_if1_eq
theorem s_M_goesInto_161 {x : Nat} {l : eg_Lo} : wps rm K Q c_M_goesInto_161 kc ks (some (.ref x) :: l) (st) h = wps rm K Q c_M_goesInto_162 kc ks (some (.ref x) :: l) (.ref x :: st) h := gk_aload rfl
theorem s_M_goesInto_162 {x : Nat} : wps rm K Q c_M_goesInto_162 kc ks loc (.ref (x + 1) :: st) h = eg_gf h x 12 39 (fun v => wps rm K Q c_M_goesInto_165 kc ks loc (v :: st) h) := gk_gf
theorem s_M_goesInto_165 {x : Nat} {l : eg_Lo} : wps rm K Q c_M_goesInto_165 kc ks (some (.ref x) :: l) (st) h = wps rm K Q c_M_goesInto_166 kc ks (some (.ref x) :: l) (.ref x :: st) h := gk_aload rfl
theorem s_M_goesInto_166 {x : Nat} : wps rm K Q c_M_goesInto_166 kc ks loc (.ref (x + 1) :: st) h = eg_gf h x 12 42 (fun v => wps rm K Q c_M_goesInto_169 kc ks loc (v :: st) h) := gk_gf
theorem s_M_goesInto_169 {x y : Int64} : wps rm K Q c_M_goesInto_169 kc ks loc (.long y :: .long x :: st) h = wps rm K Q c_M_goesInto_170 kc ks loc (.long (x * y) :: st) h := gk_lmul
theorem s_M_goesInto_170 {x : Nat} {l : eg_Lo} : wps rm K Q c_M_goesInto_170 kc ks (some (.ref x) :: l) (st) h = wps rm K Q c_M_goesInto_171 kc ks (some (.ref x) :: l) (.ref x :: st) h := gk_aload rfl
theorem s_M_goesInto_171 {x : Nat} : wps rm K Q c_M_goesInto_171 kc ks loc (.ref (x + 1) :: st) h = eg_gf h x 12 41 (fun v => wps rm K Q c_M_goesInto_174 kc ks loc (v :: st) h) := gk_gf
theorem s_M_goesInto_174 {x : Nat} {l : eg_Lo} : wps rm K Q c_M_goesInto_174 kc ks (some (.ref x) :: l) (st) h = wps rm K Q c_M_goesInto_175 kc ks (some (.ref x) :: l) (.ref x :: st) h := gk_aload rfl
theorem s_M_goesInto_175 {x : Nat} : wps rm K Q c_M_goesInto_175 kc ks loc (.ref (x + 1) :: st) h = eg_gf h x 12 40 (fun v => wps rm K Q c_M_goesInto_178 kc ks loc (v :: st) h) := gk_gf
theorem s_M_goesInto_178 {x y : Int64} : wps rm K Q c_M_goesInto_178 kc ks loc (.long y :: .long x :: st) h = wps rm K Q c_M_goesInto_179 kc ks loc (.long (x * y) :: st) h := gk_lmul
theorem s_M_goesInto_179 {x y : Int64} : wps rm K Q c_M_goesInto_179 kc ks loc (.long y :: .long x :: st) h = wps rm K Q c_M_goesInto_180 kc ks loc (.int (lg_cmp x y) :: st) h := gk_lcmp
theorem s_M_goesInto_180 {x : Int32} : wps rm K Q c_M_goesInto_180 kc ks loc (.int x :: st) h = ((0 ≤ x → K 208 kc ks loc st h) ∧ (¬ 0 ≤ x → wps rm K Q c_M_goesInto_183 kc ks loc (st) h)) := gk_if1_ge
theorem s_M_goesInto_183 {x : Nat} {l : eg_Lo} : wps rm K Q c_M_goesInto_183 kc ks (some (.ref x) :: l) (st) h = wps rm K Q c_M_goesInto_184 kc ks (some (.ref x) :: l) (.ref x :: st) h := gk_aload rfl
theorem s_M_goesInto_184 {x : Nat} : wps rm K Q c_M_goesInto_184 kc ks loc (.ref (x + 1) :: st) h = eg_gf h x 12 39 (fun v => wps rm K Q c_M_goesInto_187 kc ks loc (v :: st) h) := gk_gf
theorem s_M_goesInto_187 {x : Nat} {l : eg_Lo} : wps rm K Q c_M_goesInto_187 kc ks (some (.ref x) :: l) (st) h = wps rm K Q c_M_goesInto_188 kc ks (some (.ref x) :: l) (.ref x :: st) h := gk_aload rfl
theorem s_M_goesInto_188 {x : Nat} : wps rm K Q c_M_goesInto_188 kc ks loc (.ref (x + 1) :: st) h = eg_gf h x 12 40 (fun v => wps rm K Q c_M_goesInto_191 kc ks loc (v :: st) h) := gk_gf
theorem s_M_goesInto_191 {x y : Int64} : wps rm K Q c_M_goesInto_191 kc ks loc (.long y :: .long x :: st) h = wps rm K Q c_M_goesInto_192 kc ks loc (.int (lg_cmp x y) :: st) h := gk_lcmp
theorem s_M_goesInto_192 {x : Int32} : wps rm K Q c_M_goesInto_192 kc ks loc (.int x :: st) h = ((0 ≤ x → K 208 kc ks loc st h) ∧ (¬ 0 ≤ x → wps rm K Q c_M_goesInto_195 kc ks loc (st) h)) := gk_if1_ge
theorem s_M_goesInto_195 {x : Nat} {l : eg_Lo} : wps rm K Q c_M_goesInto_195 kc ks (some (.ref x) :: l) (st) h = wps rm K Q c_M_goesInto_196 kc ks (some (.ref x) :: l) (.ref x :: st) h := gk_aload rfl
theorem s_M_goesInto_196 {x : Nat} : wps rm K Q c_M_goesInto_196 kc ks loc (.ref (x + 1) :: st) h = eg_gf h x 12 41 (fun v => wps rm K Q c_M_goesInto_199 kc ks loc (v :: st) h) := gk_gf
theorem s_M_goesInto_199  : wps rm K Q c_M_goesInto_199 kc ks loc (st) h = wps rm K Q c_M_goesInto_200 kc ks loc (.long (0) :: st) h := gk_lc (by decide)
theorem s_M_goesInto_200 {x y : Int64} : wps rm K Q c_M_goesInto_200 kc ks loc (.long y :: .long x :: st) h = wps rm K Q c_M_goesInto_201 kc ks loc (.int (lg_cmp x y) :: st) h := gk_lcmp
theorem s_M_goesInto_201 {x : Int32} : wps rm K Q c_M_goesInto_201 kc ks loc (.int x :: st) h = ((x ≤ 0 → K 208 kc ks loc st h) ∧ (¬ x ≤ 0 → wps rm K Q c_M_goesInto_204 kc ks loc (st) h)) := gk_if1_le
theorem s_M_goesInto_204  : wps rm K Q c_M_goesInto_204 kc ks loc (st) h = wps rm K Q c_M_goesInto_205 kc ks loc (.int (1) :: st) h := gk_ic (by decide)
theorem s_M_goesInto_205  : wps rm K Q c_M_goesInto_205 kc ks loc (st) h = K 209 kc ks loc st h := gk_goto
theorem s_M_goesInto_208  : wps rm K Q c_M_goesInto_208 kc ks loc (st) h = wps rm K Q c_M_goesInto_209 kc ks loc (.int (0) :: st) h := gk_ic (by decide)
theorem s_M_goesInto_209 {x : Int32} : wps rm K Q c_M_goesInto_209 kc ks loc ([.int x]) h = (kc = rm.cells ∧ ((1 : Nat) = 1 → x = 0 ∨ x = 1) ∧ Q (some (.int x)) h) := gk_iret
def T_M_goesInto : List (Nat × List eg_I) := [(153, c_M_goesInto_153), (154, c_M_goesInto_154), (208, c_M_goesInto_208), (209, c_M_goesInto_209)]
theorem j_M_goesInto_153 {R : Nat → Nat → Nat → eg_Lo → List Value → List eg_E → Prop} {f pc0 : Nat} : eg_run rm R Q T_M_goesInto (f + 1) 153 kc ks loc st h = wps rm (eg_run rm R Q T_M_goesInto f) Q c_M_goesInto_153 kc ks loc st h := rfl
theorem j_M_goesInto_154 {R : Nat → Nat → Nat → eg_Lo → List Value → List eg_E → Prop} {f pc0 : Nat} : eg_run rm R Q T_M_goesInto (f + 1) 154 kc ks loc st h = wps rm (eg_run rm R Q T_M_goesInto f) Q c_M_goesInto_154 kc ks loc st h := rfl
theorem j_M_goesInto_208 {R : Nat → Nat → Nat → eg_Lo → List Value → List eg_E → Prop} {f pc0 : Nat} : eg_run rm R Q T_M_goesInto (f + 1) 208 kc ks loc st h = wps rm (eg_run rm R Q T_M_goesInto f) Q c_M_goesInto_208 kc ks loc st h := rfl
theorem j_M_goesInto_209 {R : Nat → Nat → Nat → eg_Lo → List Value → List eg_E → Prop} {f pc0 : Nat} : eg_run rm R Q T_M_goesInto (f + 1) 209 kc ks loc st h = wps rm (eg_run rm R Q T_M_goesInto f) Q c_M_goesInto_209 kc ks loc st h := rfl
end
theorem y_M_goesInto_0 : eg_seq m_M_goesInto 0 c_M_goesInto_0 = true := by decide +kernel
theorem y_M_goesInto_153 : eg_seq m_M_goesInto 153 c_M_goesInto_153 = true := by decide +kernel
theorem y_M_goesInto_208 : eg_seq m_M_goesInto 208 c_M_goesInto_208 = true := by decide +kernel
theorem q_M_goesInto : ∀ q ∈ T_M_goesInto, eg_seq m_M_goesInto q.1 q.2 = true := by
  intro q hq
  simp only [T_M_goesInto, List.mem_cons, List.not_mem_nil, or_false] at hq
  rcases hq with rfl | rfl | rfl | rfl
  · exact y_M_goesInto_153
  · exact (eg_seq_drop y_M_goesInto_153 1 : eg_seq m_M_goesInto 154 c_M_goesInto_154 = true)
  · exact y_M_goesInto_208
  · exact (eg_seq_drop y_M_goesInto_208 1 : eg_seq m_M_goesInto 209 c_M_goesInto_209 = true)
theorem md_M_goesInto : eg_md n_M_goesInto = m_M_goesInto := rfl
theorem mn_M_goesInto : n_M_goesInto < 202 := Nat.le_of_ble_eq_true rfl
theorem b_M_goesInto {as : List Value} {h : List eg_E} {Q : Option Value → List eg_E → Prop} (hf : (eg_fl as).length ≤ 5) : wps (eg_rm m_M_goesInto) (eg_run (eg_rm m_M_goesInto) (eg_R m_M_goesInto Q (h.length + 0)) Q T_M_goesInto 6) Q c_M_goesInto_0 0 0 (eg_entry 5 as) [] h → eg_Runs n_M_goesInto as h Q := eg_begin2 md_M_goesInto mn_M_goesInto y_M_goesInto_0 q_M_goesInto hf
/-! ===== M_intoOf ===== -/
def z_M_intoOf_2 : List eg_I := [.inl (2, 0, .nop, 0, 0)]
def c_M_intoOf_29 : List eg_I := .inl (29, 1, .ireturn, 0, 0) :: []
def c_M_intoOf_28 : List eg_I := .inl (28, 1, .iconst (-1), 0, 0) :: c_M_intoOf_29
def c_M_intoOf_25 : List eg_I := .inl (25, 3, .goto (-23), 2, 0) :: []
def c_M_intoOf_22 : List eg_I := .inl (22, 3, .iinc 3 (1), 0, 0) :: c_M_intoOf_25
def c_M_intoOf_21 : List eg_I := .inl (21, 1, .ireturn, 0, 0) :: []
def c_M_intoOf_20 : List eg_I := .inl (20, 1, .iload 3, 0, 0) :: c_M_intoOf_21
def c_M_intoOf_17 : List eg_I := .inl (17, 3, .ifCond .eq (5), 22, 0) :: c_M_intoOf_20
def c_M_intoOf_14 : List eg_I := .inr (14, 1, 318, n_M_goesInto, 3, 12, 0, 0) :: c_M_intoOf_17
def c_M_intoOf_13 : List eg_I := .inl (13, 1, .iload 2, 0, 0) :: c_M_intoOf_14
def c_M_intoOf_12 : List eg_I := .inl (12, 1, .iload 1, 0, 0) :: c_M_intoOf_13
def c_M_intoOf_11 : List eg_I := .inl (11, 1, .iload 3, 0, 0) :: c_M_intoOf_12
def c_M_intoOf_10 : List eg_I := .inl (10, 1, .aload 0, 0, 0) :: c_M_intoOf_11
def c_M_intoOf_7 : List eg_I := .inl (7, 3, .if_icmp .ge (21), 28, 0) :: c_M_intoOf_10
def c_M_intoOf_4 : List eg_I := .inl (4, 3, .getfield 296, 12, 20) :: c_M_intoOf_7
def c_M_intoOf_3 : List eg_I := .inl (3, 1, .aload 0, 0, 0) :: c_M_intoOf_4
def c_M_intoOf_2 : List eg_I := .inl (2, 1, .iload 3, 0, 0) :: c_M_intoOf_3
def c_M_intoOf_1 : List eg_I := .inl (1, 1, .istore 3, 0, 0) :: z_M_intoOf_2
def c_M_intoOf_0 : List eg_I := .inl (0, 1, .iconst (0), 0, 0) :: c_M_intoOf_1
section
variable {rm : Room} {K : Nat → Nat → Nat → eg_Lo → List Value → List eg_E → Prop} {Q : Option Value → List eg_E → Prop} {kc ks : Nat} {loc : eg_Lo} {st : List Value} {h : List eg_E}
theorem s_M_intoOf_0  : wps rm K Q c_M_intoOf_0 kc ks loc (st) h = wps rm K Q c_M_intoOf_1 kc ks loc (.int (0) :: st) h := gk_ic (by decide)
theorem s_M_intoOf_1 {x : Int32} : wps rm K Q c_M_intoOf_1 kc ks loc (.int x :: st) h = wps rm K Q z_M_intoOf_2 kc ks (eg_set1 loc 3 (.int x)) (st) h := gk_istore
theorem s_M_intoOf_2 {x : Int32} {l0 l1 l2 : Option Value} {l : eg_Lo} : wps rm K Q c_M_intoOf_2 kc ks (l0 :: l1 :: l2 :: some (.int x) :: l) (st) h = wps rm K Q c_M_intoOf_3 kc ks (l0 :: l1 :: l2 :: some (.int x) :: l) (.int x :: st) h := gk_iload rfl
theorem s_M_intoOf_3 {x : Nat} {l : eg_Lo} : wps rm K Q c_M_intoOf_3 kc ks (some (.ref x) :: l) (st) h = wps rm K Q c_M_intoOf_4 kc ks (some (.ref x) :: l) (.ref x :: st) h := gk_aload rfl
theorem s_M_intoOf_4 {x : Nat} : wps rm K Q c_M_intoOf_4 kc ks loc (.ref (x + 1) :: st) h = eg_gf h x 12 20 (fun v => wps rm K Q c_M_intoOf_7 kc ks loc (v :: st) h) := gk_gf
theorem s_M_intoOf_7 {x y : Int32} : wps rm K Q c_M_intoOf_7 kc ks loc (.int y :: .int x :: st) h = ((y ≤ x → K 28 kc ks loc st h) ∧ (¬ y ≤ x → wps rm K Q c_M_intoOf_10 kc ks loc (st) h)) := gk_if2_ge
theorem s_M_intoOf_10 {x : Nat} {l : eg_Lo} : wps rm K Q c_M_intoOf_10 kc ks (some (.ref x) :: l) (st) h = wps rm K Q c_M_intoOf_11 kc ks (some (.ref x) :: l) (.ref x :: st) h := gk_aload rfl
theorem s_M_intoOf_11 {x : Int32} {l0 l1 l2 : Option Value} {l : eg_Lo} : wps rm K Q c_M_intoOf_11 kc ks (l0 :: l1 :: l2 :: some (.int x) :: l) (st) h = wps rm K Q c_M_intoOf_12 kc ks (l0 :: l1 :: l2 :: some (.int x) :: l) (.int x :: st) h := gk_iload rfl
theorem s_M_intoOf_12 {x : Int32} {l0 : Option Value} {l : eg_Lo} : wps rm K Q c_M_intoOf_12 kc ks (l0 :: some (.int x) :: l) (st) h = wps rm K Q c_M_intoOf_13 kc ks (l0 :: some (.int x) :: l) (.int x :: st) h := gk_iload rfl
theorem s_M_intoOf_13 {x : Int32} {l0 l1 : Option Value} {l : eg_Lo} : wps rm K Q c_M_intoOf_13 kc ks (l0 :: l1 :: some (.int x) :: l) (st) h = wps rm K Q c_M_intoOf_14 kc ks (l0 :: l1 :: some (.int x) :: l) (.int x :: st) h := gk_iload rfl
theorem s_M_intoOf_14  {a1 : Value} {a2 : Value} {a3 : Value} {x : Nat} : wps rm K Q c_M_intoOf_14 kc ks loc (a3 :: a2 :: a1 :: .ref (x + 1) :: st) h = (eg_cls h x 12 ∧ st.length ≤ 4 ∧ eg_Cs n_M_goesInto (.ref (x + 1) :: [a1, a2, a3]) h (fun v h9 => wps rm K Q c_M_intoOf_17 kc ks loc (v.toList ++ st) h9)) := eg_c1_3
theorem s_M_intoOf_17 {x : Int32} : wps rm K Q c_M_intoOf_17 kc ks loc (.int x :: st) h = ((x = 0 → K 22 kc ks loc st h) ∧ (¬ x = 0 → wps rm K Q c_M_intoOf_20 kc ks loc (st) h)) := gk_if1_eq
theorem s_M_intoOf_20 {x : Int32} {l0 l1 l2 : Option Value} {l : eg_Lo} : wps rm K Q c_M_intoOf_20 kc ks (l0 :: l1 :: l2 :: some (.int x) :: l) (st) h = wps rm K Q c_M_intoOf_21 kc ks (l0 :: l1 :: l2 :: some (.int x) :: l) (.int x :: st) h := gk_iload rfl
theorem s_M_intoOf_21 {x : Int32} : wps rm K Q c_M_intoOf_21 kc ks loc ([.int x]) h = (kc = rm.cells ∧ (0 = 1 → x = 0 ∨ x = 1) ∧ Q (some (.int x)) h) := gk_iret
theorem s_M_intoOf_22 {x : Int32} {l0 l1 l2 : Option Value} {lz : eg_Lo} : wps rm K Q c_M_intoOf_22 kc ks (l0 :: l1 :: l2 :: some (.int x) :: lz) (st) h = wps rm K Q c_M_intoOf_25 kc ks (eg_set1 (l0 :: l1 :: l2 :: some (.int x) :: lz) 3 (.int (x + (1)))) (st) h := gk_iinc rfl (by decide)
theorem s_M_intoOf_25  : wps rm K Q c_M_intoOf_25 kc ks loc (st) h = K 2 kc ks loc st h := gk_goto
theorem s_M_intoOf_28  : wps rm K Q c_M_intoOf_28 kc ks loc (st) h = wps rm K Q c_M_intoOf_29 kc ks loc (.int (-1) :: st) h := gk_ic (by decide)
theorem s_M_intoOf_29 {x : Int32} : wps rm K Q c_M_intoOf_29 kc ks loc ([.int x]) h = (kc = rm.cells ∧ (0 = 1 → x = 0 ∨ x = 1) ∧ Q (some (.int x)) h) := gk_iret
theorem sz_M_intoOf_2 : wps rm K Q z_M_intoOf_2 kc ks loc st h = K 2 kc ks loc st h := gk_nop
def T_M_intoOf : List (Nat × List eg_I) := [(22, c_M_intoOf_22), (28, c_M_intoOf_28)]
theorem j_M_intoOf_22 {R : Nat → Nat → Nat → eg_Lo → List Value → List eg_E → Prop} {f pc0 : Nat} : eg_run rm R Q T_M_intoOf (f + 1) 22 kc ks loc st h = wps rm (eg_run rm R Q T_M_intoOf f) Q c_M_intoOf_22 kc ks loc st h := rfl
theorem j_M_intoOf_28 {R : Nat → Nat → Nat → eg_Lo → List Value → List eg_E → Prop} {f pc0 : Nat} : eg_run rm R Q T_M_intoOf (f + 1) 28 kc ks loc st h = wps rm (eg_run rm R Q T_M_intoOf f) Q c_M_intoOf_28 kc ks loc st h := rfl
theorem j_M_intoOf_2 {R : Nat → Nat → Nat → eg_Lo → List Value → List eg_E → Prop} {f pc0 : Nat} : eg_run rm R Q T_M_intoOf (f + 1) 2 kc ks loc st h = R 2 kc ks loc st h := rfl
end
theorem y_M_intoOf_0 : eg_seq m_M_intoOf 0 c_M_intoOf_0 = true := by decide +kernel
theorem y_M_intoOf_2 : eg_seq m_M_intoOf 2 c_M_intoOf_2 = true := by decide +kernel
theorem y_M_intoOf_22 : eg_seq m_M_intoOf 22 c_M_intoOf_22 = true := by decide +kernel
theorem y_M_intoOf_28 : eg_seq m_M_intoOf 28 c_M_intoOf_28 = true := by decide +kernel
theorem q_M_intoOf : ∀ q ∈ T_M_intoOf, eg_seq m_M_intoOf q.1 q.2 = true := by
  intro q hq
  simp only [T_M_intoOf, List.mem_cons, List.not_mem_nil, or_false] at hq
  rcases hq with rfl | rfl
  · exact y_M_intoOf_22
  · exact y_M_intoOf_28
theorem md_M_intoOf : eg_md n_M_intoOf = m_M_intoOf := rfl
theorem mn_M_intoOf : n_M_intoOf < 202 := Nat.le_of_ble_eq_true rfl
theorem b_M_intoOf {as : List Value} {h : List eg_E} {Q : Option Value → List eg_E → Prop} (hf : (eg_fl as).length ≤ 4) : wps (eg_rm m_M_intoOf) (eg_run (eg_rm m_M_intoOf) (eg_R m_M_intoOf Q (h.length + 0)) Q T_M_intoOf 4) Q c_M_intoOf_0 0 0 (eg_entry 4 as) [] h → eg_Runs n_M_intoOf as h Q := eg_begin2 md_M_intoOf mn_M_intoOf y_M_intoOf_0 q_M_intoOf hf
theorem p_M_intoOf_2 {Q : Option Value → List eg_E → Prop} {n0 kc ks : Nat} {loc : eg_Lo} {st : List Value} {h : List eg_E} : wps (eg_rm m_M_intoOf) (eg_run (eg_rm m_M_intoOf) (eg_R m_M_intoOf Q n0) Q T_M_intoOf 4) Q c_M_intoOf_2 kc ks loc st h → eg_R m_M_intoOf Q n0 2 kc ks loc st h := eg_go2 y_M_intoOf_2 q_M_intoOf
/-! ===== M_move ===== -/
def c_M_move_75 : List eg_I := .inl (75, 1, .lreturn, 0, 0) :: []
def c_M_move_74 : List eg_I := .inl (74, 1, .i2l, 0, 0) :: c_M_move_75
def c_M_move_71 : List eg_I := .inr (71, 1, 321, n_M_intoOf, 2, 12, 0, 0) :: c_M_move_74
def c_M_move_68 : List eg_I := .inr (68, 0, 103, n_M_at_II, 2, 12, 0, 0) :: c_M_move_71
def c_M_move_67 : List eg_I := .inl (67, 1, .iload 3, 0, 0) :: c_M_move_68
def c_M_move_66 : List eg_I := .inl (66, 1, .iload 1, 0, 0) :: c_M_move_67
def c_M_move_63 : List eg_I := .inr (63, 0, 103, n_M_at_II, 2, 12, 0, 0) :: c_M_move_66
def c_M_move_62 : List eg_I := .inl (62, 1, .iload 2, 0, 0) :: c_M_move_63
def c_M_move_61 : List eg_I := .inl (61, 1, .iload 1, 0, 0) :: c_M_move_62
def c_M_move_60 : List eg_I := .inl (60, 1, .aload 0, 0, 0) :: c_M_move_61
def c_M_move_59 : List eg_I := .inl (59, 1, .lreturn, 0, 0) :: []
def c_M_move_56 : List eg_I := .inr (56, 1, 112, n_M_finding, 1, 12, 0, 0) :: c_M_move_59
def c_M_move_53 : List eg_I := .inl (53, 3, .sipush (-1000000000000000007), 126, 0) :: c_M_move_56
def c_M_move_52 : List eg_I := .inl (52, 1, .aload 0, 0, 0) :: c_M_move_53
def c_M_move_49 : List eg_I := .inl (49, 3, .ifCond .eq (11), 60, 0) :: c_M_move_52
def c_M_move_48 : List eg_I := .inl (48, 1, .baload, 0, 0) :: c_M_move_49
def c_M_move_45 : List eg_I := .inr (45, 0, 103, n_M_at_II, 2, 12, 0, 0) :: c_M_move_48
def c_M_move_44 : List eg_I := .inl (44, 1, .iload 3, 0, 0) :: c_M_move_45
def c_M_move_43 : List eg_I := .inl (43, 1, .iload 1, 0, 0) :: c_M_move_44
def c_M_move_40 : List eg_I := .inl (40, 3, .getfield 22, 12, 4) :: c_M_move_43
def c_M_move_39 : List eg_I := .inl (39, 1, .aload 0, 0, 0) :: c_M_move_40
def c_M_move_36 : List eg_I := .inl (36, 3, .ifCond .ne (16), 52, 0) :: c_M_move_39
def c_M_move_35 : List eg_I := .inl (35, 1, .baload, 0, 0) :: c_M_move_36
def c_M_move_32 : List eg_I := .inr (32, 0, 103, n_M_at_II, 2, 12, 0, 0) :: c_M_move_35
def c_M_move_31 : List eg_I := .inl (31, 1, .iload 2, 0, 0) :: c_M_move_32
def c_M_move_30 : List eg_I := .inl (30, 1, .iload 1, 0, 0) :: c_M_move_31
def c_M_move_27 : List eg_I := .inl (27, 3, .getfield 22, 12, 4) :: c_M_move_30
def c_M_move_26 : List eg_I := .inl (26, 1, .aload 0, 0, 0) :: c_M_move_27
def c_M_move_25 : List eg_I := .inl (25, 1, .lreturn, 0, 0) :: []
def c_M_move_22 : List eg_I := .inr (22, 1, 112, n_M_finding, 1, 12, 0, 0) :: c_M_move_25
def c_M_move_19 : List eg_I := .inl (19, 3, .sipush (-1000000000000000001), 110, 0) :: c_M_move_22
def c_M_move_18 : List eg_I := .inl (18, 1, .aload 0, 0, 0) :: c_M_move_19
def c_M_move_15 : List eg_I := .inl (15, 3, .ifCond .ne (11), 26, 0) :: c_M_move_18
def c_M_move_12 : List eg_I := .inr (12, 1, 122, n_M_isPoint, 2, 12, 0, 0) :: c_M_move_15
def c_M_move_11 : List eg_I := .inl (11, 1, .iload 3, 0, 0) :: c_M_move_12
def c_M_move_10 : List eg_I := .inl (10, 1, .iload 1, 0, 0) :: c_M_move_11
def c_M_move_9 : List eg_I := .inl (9, 1, .aload 0, 0, 0) :: c_M_move_10
def c_M_move_6 : List eg_I := .inl (6, 3, .ifCond .eq (12), 18, 0) :: c_M_move_9
def c_M_move_3 : List eg_I := .inr (3, 1, 122, n_M_isPoint, 2, 12, 0, 0) :: c_M_move_6
def c_M_move_2 : List eg_I := .inl (2, 1, .iload 2, 0, 0) :: c_M_move_3
def c_M_move_1 : List eg_I := .inl (1, 1, .iload 1, 0, 0) :: c_M_move_2
def c_M_move_0 : List eg_I := .inl (0, 1, .aload 0, 0, 0) :: c_M_move_1
section
variable {rm : Room} {K : Nat → Nat → Nat → eg_Lo → List Value → List eg_E → Prop} {Q : Option Value → List eg_E → Prop} {kc ks : Nat} {loc : eg_Lo} {st : List Value} {h : List eg_E}
theorem s_M_move_0 {x : Nat} {l : eg_Lo} : wps rm K Q c_M_move_0 kc ks (some (.ref x) :: l) (st) h = wps rm K Q c_M_move_1 kc ks (some (.ref x) :: l) (.ref x :: st) h := gk_aload rfl
theorem s_M_move_1 {x : Int32} {l0 : Option Value} {l : eg_Lo} : wps rm K Q c_M_move_1 kc ks (l0 :: some (.int x) :: l) (st) h = wps rm K Q c_M_move_2 kc ks (l0 :: some (.int x) :: l) (.int x :: st) h := gk_iload rfl
theorem s_M_move_2 {x : Int32} {l0 l1 : Option Value} {l : eg_Lo} : wps rm K Q c_M_move_2 kc ks (l0 :: l1 :: some (.int x) :: l) (st) h = wps rm K Q c_M_move_3 kc ks (l0 :: l1 :: some (.int x) :: l) (.int x :: st) h := gk_iload rfl
theorem s_M_move_3  {a1 : Value} {a2 : Value} {x : Nat} : wps rm K Q c_M_move_3 kc ks loc (a2 :: a1 :: .ref (x + 1) :: st) h = (eg_cls h x 12 ∧ st.length ≤ 4 ∧ eg_Cs n_M_isPoint (.ref (x + 1) :: [a1, a2]) h (fun v h9 => wps rm K Q c_M_move_6 kc ks loc (v.toList ++ st) h9)) := eg_c1_2
theorem s_M_move_6 {x : Int32} : wps rm K Q c_M_move_6 kc ks loc (.int x :: st) h = ((x = 0 → K 18 kc ks loc st h) ∧ (¬ x = 0 → wps rm K Q c_M_move_9 kc ks loc (st) h)) := gk_if1_eq
theorem s_M_move_9 {x : Nat} {l : eg_Lo} : wps rm K Q c_M_move_9 kc ks (some (.ref x) :: l) (st) h = wps rm K Q c_M_move_10 kc ks (some (.ref x) :: l) (.ref x :: st) h := gk_aload rfl
theorem s_M_move_10 {x : Int32} {l0 : Option Value} {l : eg_Lo} : wps rm K Q c_M_move_10 kc ks (l0 :: some (.int x) :: l) (st) h = wps rm K Q c_M_move_11 kc ks (l0 :: some (.int x) :: l) (.int x :: st) h := gk_iload rfl
theorem s_M_move_11 {x : Int32} {l0 l1 l2 : Option Value} {l : eg_Lo} : wps rm K Q c_M_move_11 kc ks (l0 :: l1 :: l2 :: some (.int x) :: l) (st) h = wps rm K Q c_M_move_12 kc ks (l0 :: l1 :: l2 :: some (.int x) :: l) (.int x :: st) h := gk_iload rfl
theorem s_M_move_12  {a1 : Value} {a2 : Value} {x : Nat} : wps rm K Q c_M_move_12 kc ks loc (a2 :: a1 :: .ref (x + 1) :: st) h = (eg_cls h x 12 ∧ st.length ≤ 4 ∧ eg_Cs n_M_isPoint (.ref (x + 1) :: [a1, a2]) h (fun v h9 => wps rm K Q c_M_move_15 kc ks loc (v.toList ++ st) h9)) := eg_c1_2
theorem s_M_move_15 {x : Int32} : wps rm K Q c_M_move_15 kc ks loc (.int x :: st) h = ((¬ x = 0 → K 26 kc ks loc st h) ∧ (x = 0 → wps rm K Q c_M_move_18 kc ks loc (st) h)) := gk_if1_ne
theorem s_M_move_18 {x : Nat} {l : eg_Lo} : wps rm K Q c_M_move_18 kc ks (some (.ref x) :: l) (st) h = wps rm K Q c_M_move_19 kc ks (some (.ref x) :: l) (.ref x :: st) h := gk_aload rfl
theorem s_M_move_19  : wps rm K Q c_M_move_19 kc ks loc (st) h = wps rm K Q c_M_move_22 kc ks loc (.long (-1000000000000000001) :: st) h := gk_lc (by decide)
theorem s_M_move_22  {a1 : Value} {x : Nat} : wps rm K Q c_M_move_22 kc ks loc (a1 :: .ref (x + 1) :: st) h = (eg_cls h x 12 ∧ st.length ≤ 4 ∧ eg_Cs n_M_finding (.ref (x + 1) :: [a1]) h (fun v h9 => wps rm K Q c_M_move_25 kc ks loc (v.toList ++ st) h9)) := eg_c1_1
theorem s_M_move_25 {x : Int64} : wps rm K Q c_M_move_25 kc ks loc ([.long x]) h = (kc = rm.cells ∧ Q (some (.long x)) h) := gk_lret
theorem s_M_move_26 {x : Nat} {l : eg_Lo} : wps rm K Q c_M_move_26 kc ks (some (.ref x) :: l) (st) h = wps rm K Q c_M_move_27 kc ks (some (.ref x) :: l) (.ref x :: st) h := gk_aload rfl
theorem s_M_move_27 {x : Nat} : wps rm K Q c_M_move_27 kc ks loc (.ref (x + 1) :: st) h = eg_gf h x 12 4 (fun v => wps rm K Q c_M_move_30 kc ks loc (v :: st) h) := gk_gf
theorem s_M_move_30 {x : Int32} {l0 : Option Value} {l : eg_Lo} : wps rm K Q c_M_move_30 kc ks (l0 :: some (.int x) :: l) (st) h = wps rm K Q c_M_move_31 kc ks (l0 :: some (.int x) :: l) (.int x :: st) h := gk_iload rfl
theorem s_M_move_31 {x : Int32} {l0 l1 : Option Value} {l : eg_Lo} : wps rm K Q c_M_move_31 kc ks (l0 :: l1 :: some (.int x) :: l) (st) h = wps rm K Q c_M_move_32 kc ks (l0 :: l1 :: some (.int x) :: l) (.int x :: st) h := gk_iload rfl
theorem s_M_move_32  {a1 : Value} {a2 : Value} : wps rm K Q c_M_move_32 kc ks loc (a2 :: a1 :: st) h = (st.length ≤ 4 ∧ eg_Cs n_M_at_II [a1, a2] h (fun v h9 => wps rm K Q c_M_move_35 kc ks loc (v.toList ++ st) h9)) := eg_c0_2
theorem s_M_move_35 {x : Nat} {i : Int32} : wps rm K Q c_M_move_35 kc ks loc (.int i :: .ref (x + 1) :: st) h = eg_ba h x i (fun v => wps rm K Q c_M_move_36 kc ks loc (.int v :: st) h) := gk_baload
theorem s_M_move_36 {x : Int32} : wps rm K Q c_M_move_36 kc ks loc (.int x :: st) h = ((¬ x = 0 → K 52 kc ks loc st h) ∧ (x = 0 → wps rm K Q c_M_move_39 kc ks loc (st) h)) := gk_if1_ne
theorem s_M_move_39 {x : Nat} {l : eg_Lo} : wps rm K Q c_M_move_39 kc ks (some (.ref x) :: l) (st) h = wps rm K Q c_M_move_40 kc ks (some (.ref x) :: l) (.ref x :: st) h := gk_aload rfl
theorem s_M_move_40 {x : Nat} : wps rm K Q c_M_move_40 kc ks loc (.ref (x + 1) :: st) h = eg_gf h x 12 4 (fun v => wps rm K Q c_M_move_43 kc ks loc (v :: st) h) := gk_gf
theorem s_M_move_43 {x : Int32} {l0 : Option Value} {l : eg_Lo} : wps rm K Q c_M_move_43 kc ks (l0 :: some (.int x) :: l) (st) h = wps rm K Q c_M_move_44 kc ks (l0 :: some (.int x) :: l) (.int x :: st) h := gk_iload rfl
theorem s_M_move_44 {x : Int32} {l0 l1 l2 : Option Value} {l : eg_Lo} : wps rm K Q c_M_move_44 kc ks (l0 :: l1 :: l2 :: some (.int x) :: l) (st) h = wps rm K Q c_M_move_45 kc ks (l0 :: l1 :: l2 :: some (.int x) :: l) (.int x :: st) h := gk_iload rfl
theorem s_M_move_45  {a1 : Value} {a2 : Value} : wps rm K Q c_M_move_45 kc ks loc (a2 :: a1 :: st) h = (st.length ≤ 4 ∧ eg_Cs n_M_at_II [a1, a2] h (fun v h9 => wps rm K Q c_M_move_48 kc ks loc (v.toList ++ st) h9)) := eg_c0_2
theorem s_M_move_48 {x : Nat} {i : Int32} : wps rm K Q c_M_move_48 kc ks loc (.int i :: .ref (x + 1) :: st) h = eg_ba h x i (fun v => wps rm K Q c_M_move_49 kc ks loc (.int v :: st) h) := gk_baload
theorem s_M_move_49 {x : Int32} : wps rm K Q c_M_move_49 kc ks loc (.int x :: st) h = ((x = 0 → K 60 kc ks loc st h) ∧ (¬ x = 0 → wps rm K Q c_M_move_52 kc ks loc (st) h)) := gk_if1_eq
theorem s_M_move_52 {x : Nat} {l : eg_Lo} : wps rm K Q c_M_move_52 kc ks (some (.ref x) :: l) (st) h = wps rm K Q c_M_move_53 kc ks (some (.ref x) :: l) (.ref x :: st) h := gk_aload rfl
theorem s_M_move_53  : wps rm K Q c_M_move_53 kc ks loc (st) h = wps rm K Q c_M_move_56 kc ks loc (.long (-1000000000000000007) :: st) h := gk_lc (by decide)
theorem s_M_move_56  {a1 : Value} {x : Nat} : wps rm K Q c_M_move_56 kc ks loc (a1 :: .ref (x + 1) :: st) h = (eg_cls h x 12 ∧ st.length ≤ 4 ∧ eg_Cs n_M_finding (.ref (x + 1) :: [a1]) h (fun v h9 => wps rm K Q c_M_move_59 kc ks loc (v.toList ++ st) h9)) := eg_c1_1
theorem s_M_move_59 {x : Int64} : wps rm K Q c_M_move_59 kc ks loc ([.long x]) h = (kc = rm.cells ∧ Q (some (.long x)) h) := gk_lret
theorem s_M_move_60 {x : Nat} {l : eg_Lo} : wps rm K Q c_M_move_60 kc ks (some (.ref x) :: l) (st) h = wps rm K Q c_M_move_61 kc ks (some (.ref x) :: l) (.ref x :: st) h := gk_aload rfl
theorem s_M_move_61 {x : Int32} {l0 : Option Value} {l : eg_Lo} : wps rm K Q c_M_move_61 kc ks (l0 :: some (.int x) :: l) (st) h = wps rm K Q c_M_move_62 kc ks (l0 :: some (.int x) :: l) (.int x :: st) h := gk_iload rfl
theorem s_M_move_62 {x : Int32} {l0 l1 : Option Value} {l : eg_Lo} : wps rm K Q c_M_move_62 kc ks (l0 :: l1 :: some (.int x) :: l) (st) h = wps rm K Q c_M_move_63 kc ks (l0 :: l1 :: some (.int x) :: l) (.int x :: st) h := gk_iload rfl
theorem s_M_move_63  {a1 : Value} {a2 : Value} : wps rm K Q c_M_move_63 kc ks loc (a2 :: a1 :: st) h = (st.length ≤ 4 ∧ eg_Cs n_M_at_II [a1, a2] h (fun v h9 => wps rm K Q c_M_move_66 kc ks loc (v.toList ++ st) h9)) := eg_c0_2
theorem s_M_move_66 {x : Int32} {l0 : Option Value} {l : eg_Lo} : wps rm K Q c_M_move_66 kc ks (l0 :: some (.int x) :: l) (st) h = wps rm K Q c_M_move_67 kc ks (l0 :: some (.int x) :: l) (.int x :: st) h := gk_iload rfl
theorem s_M_move_67 {x : Int32} {l0 l1 l2 : Option Value} {l : eg_Lo} : wps rm K Q c_M_move_67 kc ks (l0 :: l1 :: l2 :: some (.int x) :: l) (st) h = wps rm K Q c_M_move_68 kc ks (l0 :: l1 :: l2 :: some (.int x) :: l) (.int x :: st) h := gk_iload rfl
theorem s_M_move_68  {a1 : Value} {a2 : Value} : wps rm K Q c_M_move_68 kc ks loc (a2 :: a1 :: st) h = (st.length ≤ 4 ∧ eg_Cs n_M_at_II [a1, a2] h (fun v h9 => wps rm K Q c_M_move_71 kc ks loc (v.toList ++ st) h9)) := eg_c0_2
theorem s_M_move_71  {a1 : Value} {a2 : Value} {x : Nat} : wps rm K Q c_M_move_71 kc ks loc (a2 :: a1 :: .ref (x + 1) :: st) h = (eg_cls h x 12 ∧ st.length ≤ 4 ∧ eg_Cs n_M_intoOf (.ref (x + 1) :: [a1, a2]) h (fun v h9 => wps rm K Q c_M_move_74 kc ks loc (v.toList ++ st) h9)) := eg_c1_2
theorem s_M_move_74 {x : Int32} : wps rm K Q c_M_move_74 kc ks loc (.int x :: st) h = wps rm K Q c_M_move_75 kc ks loc (.long (x.toInt64) :: st) h := gk_i2l
theorem s_M_move_75 {x : Int64} : wps rm K Q c_M_move_75 kc ks loc ([.long x]) h = (kc = rm.cells ∧ Q (some (.long x)) h) := gk_lret
def T_M_move : List (Nat × List eg_I) := [(18, c_M_move_18), (26, c_M_move_26), (52, c_M_move_52), (60, c_M_move_60)]
theorem j_M_move_18 {R : Nat → Nat → Nat → eg_Lo → List Value → List eg_E → Prop} {f pc0 : Nat} : eg_run rm R Q T_M_move (f + 1) 18 kc ks loc st h = wps rm (eg_run rm R Q T_M_move f) Q c_M_move_18 kc ks loc st h := rfl
theorem j_M_move_26 {R : Nat → Nat → Nat → eg_Lo → List Value → List eg_E → Prop} {f pc0 : Nat} : eg_run rm R Q T_M_move (f + 1) 26 kc ks loc st h = wps rm (eg_run rm R Q T_M_move f) Q c_M_move_26 kc ks loc st h := rfl
theorem j_M_move_52 {R : Nat → Nat → Nat → eg_Lo → List Value → List eg_E → Prop} {f pc0 : Nat} : eg_run rm R Q T_M_move (f + 1) 52 kc ks loc st h = wps rm (eg_run rm R Q T_M_move f) Q c_M_move_52 kc ks loc st h := rfl
theorem j_M_move_60 {R : Nat → Nat → Nat → eg_Lo → List Value → List eg_E → Prop} {f pc0 : Nat} : eg_run rm R Q T_M_move (f + 1) 60 kc ks loc st h = wps rm (eg_run rm R Q T_M_move f) Q c_M_move_60 kc ks loc st h := rfl
end
theorem y_M_move_0 : eg_seq m_M_move 0 c_M_move_0 = true := by decide +kernel
theorem y_M_move_26 : eg_seq m_M_move 26 c_M_move_26 = true := by decide +kernel
theorem y_M_move_60 : eg_seq m_M_move 60 c_M_move_60 = true := by decide +kernel
theorem q_M_move : ∀ q ∈ T_M_move, eg_seq m_M_move q.1 q.2 = true := by
  intro q hq
  simp only [T_M_move, List.mem_cons, List.not_mem_nil, or_false] at hq
  rcases hq with rfl | rfl | rfl | rfl
  · exact (eg_seq_drop y_M_move_0 10 : eg_seq m_M_move 18 c_M_move_18 = true)
  · exact y_M_move_26
  · exact (eg_seq_drop y_M_move_26 14 : eg_seq m_M_move 52 c_M_move_52 = true)
  · exact y_M_move_60
theorem md_M_move : eg_md n_M_move = m_M_move := rfl
theorem mn_M_move : n_M_move < 202 := Nat.le_of_ble_eq_true rfl
theorem b_M_move {as : List Value} {h : List eg_E} {Q : Option Value → List eg_E → Prop} (hf : (eg_fl as).length ≤ 4) : wps (eg_rm m_M_move) (eg_run (eg_rm m_M_move) (eg_R m_M_move Q (h.length + 0)) Q T_M_move 6) Q c_M_move_0 0 0 (eg_entry 4 as) [] h → eg_Runs n_M_move as h Q := eg_begin2 md_M_move mn_M_move y_M_move_0 q_M_move hf
/-! ===== M_path ===== -/
def z_M_path_19 : List eg_I := [.inl (19, 0, .nop, 0, 0)]
def c_M_path_73 : List eg_I := .inl (73, 1, .lreturn, 0, 0) :: []
def c_M_path_70 : List eg_I := .inl (70, 3, .sipush (-1), 136, 0) :: c_M_path_73
def c_M_path_67 : List eg_I := .inl (67, 3, .goto (-48), 19, 0) :: []
def c_M_path_64 : List eg_I := .inl (64, 3, .iinc 3 (1), 0, 0) :: c_M_path_67
def c_M_path_63 : List eg_I := .inl (63, 1, .istore 2, 0, 0) :: c_M_path_64
def c_M_path_62 : List eg_I := .inl (62, 1, .iload 3, 0, 0) :: c_M_path_63
def c_M_path_61 : List eg_I := .inl (61, 1, .lreturn, 0, 0) :: []
def c_M_path_60 : List eg_I := .inl (60, 1, .i2l, 0, 0) :: c_M_path_61
def c_M_path_59 : List eg_I := .inl (59, 1, .iload 2, 0, 0) :: c_M_path_60
def c_M_path_56 : List eg_I := .inl (56, 3, .ifCond .lt (6), 62, 0) :: c_M_path_59
def c_M_path_53 : List eg_I := .inr (53, 1, 321, n_M_intoOf, 2, 12, 0, 0) :: c_M_path_56
def c_M_path_50 : List eg_I := .inr (50, 0, 103, n_M_at_II, 2, 12, 0, 0) :: c_M_path_53
def c_M_path_49 : List eg_I := .inl (49, 1, .iload 3, 0, 0) :: c_M_path_50
def c_M_path_48 : List eg_I := .inl (48, 1, .iload 1, 0, 0) :: c_M_path_49
def c_M_path_45 : List eg_I := .inr (45, 0, 103, n_M_at_II, 2, 12, 0, 0) :: c_M_path_48
def c_M_path_44 : List eg_I := .inl (44, 1, .iload 2, 0, 0) :: c_M_path_45
def c_M_path_43 : List eg_I := .inl (43, 1, .iload 1, 0, 0) :: c_M_path_44
def c_M_path_42 : List eg_I := .inl (42, 1, .aload 0, 0, 0) :: c_M_path_43
def c_M_path_39 : List eg_I := .inl (39, 3, .ifCond .lt (23), 62, 0) :: c_M_path_42
def c_M_path_38 : List eg_I := .inl (38, 1, .iload 2, 0, 0) :: c_M_path_39
def c_M_path_35 : List eg_I := .inl (35, 3, .ifCond .eq (29), 64, 0) :: c_M_path_38
def c_M_path_32 : List eg_I := .inr (32, 1, 185, n_M_isHere, 2, 12, 0, 0) :: c_M_path_35
def c_M_path_31 : List eg_I := .inl (31, 1, .iload 3, 0, 0) :: c_M_path_32
def c_M_path_30 : List eg_I := .inl (30, 1, .iload 1, 0, 0) :: c_M_path_31
def c_M_path_29 : List eg_I := .inl (29, 1, .aload 0, 0, 0) :: c_M_path_30
def c_M_path_26 : List eg_I := .inl (26, 3, .if_icmp .ge (44), 70, 0) :: c_M_path_29
def c_M_path_25 : List eg_I := .inl (25, 1, .iaload, 0, 0) :: c_M_path_26
def c_M_path_24 : List eg_I := .inl (24, 1, .iload 1, 0, 0) :: c_M_path_25
def c_M_path_21 : List eg_I := .inl (21, 3, .getfield 9, 12, 0) :: c_M_path_24
def c_M_path_20 : List eg_I := .inl (20, 1, .aload 0, 0, 0) :: c_M_path_21
def c_M_path_19 : List eg_I := .inl (19, 1, .iload 3, 0, 0) :: c_M_path_20
def c_M_path_18 : List eg_I := .inl (18, 1, .istore 3, 0, 0) :: z_M_path_19
def c_M_path_17 : List eg_I := .inl (17, 1, .iconst (0), 0, 0) :: c_M_path_18
def c_M_path_16 : List eg_I := .inl (16, 1, .istore 2, 0, 0) :: c_M_path_17
def c_M_path_15 : List eg_I := .inl (15, 1, .iconst (-1), 0, 0) :: c_M_path_16
def c_M_path_14 : List eg_I := .inl (14, 1, .lreturn, 0, 0) :: []
def c_M_path_11 : List eg_I := .inr (11, 1, 112, n_M_finding, 1, 12, 0, 0) :: c_M_path_14
def c_M_path_8 : List eg_I := .inl (8, 3, .sipush (-1000000000000000001), 110, 0) :: c_M_path_11
def c_M_path_7 : List eg_I := .inl (7, 1, .aload 0, 0, 0) :: c_M_path_8
def c_M_path_4 : List eg_I := .inl (4, 3, .ifCond .ne (11), 15, 0) :: c_M_path_7
def c_M_path_1 : List eg_I := .inr (1, 0, 99, n_M_isPart, 1, 12, 0, 0) :: c_M_path_4
def c_M_path_0 : List eg_I := .inl (0, 1, .iload 1, 0, 0) :: c_M_path_1
section
variable {rm : Room} {K : Nat → Nat → Nat → eg_Lo → List Value → List eg_E → Prop} {Q : Option Value → List eg_E → Prop} {kc ks : Nat} {loc : eg_Lo} {st : List Value} {h : List eg_E}
theorem s_M_path_0 {x : Int32} {l0 : Option Value} {l : eg_Lo} : wps rm K Q c_M_path_0 kc ks (l0 :: some (.int x) :: l) (st) h = wps rm K Q c_M_path_1 kc ks (l0 :: some (.int x) :: l) (.int x :: st) h := gk_iload rfl
theorem s_M_path_1  {a1 : Value} : wps rm K Q c_M_path_1 kc ks loc (a1 :: st) h = (st.length ≤ 4 ∧ eg_Cs n_M_isPart [a1] h (fun v h9 => wps rm K Q c_M_path_4 kc ks loc (v.toList ++ st) h9)) := eg_c0_1
theorem s_M_path_4 {x : Int32} : wps rm K Q c_M_path_4 kc ks loc (.int x :: st) h = ((¬ x = 0 → K 15 kc ks loc st h) ∧ (x = 0 → wps rm K Q c_M_path_7 kc ks loc (st) h)) := gk_if1_ne
theorem s_M_path_7 {x : Nat} {l : eg_Lo} : wps rm K Q c_M_path_7 kc ks (some (.ref x) :: l) (st) h = wps rm K Q c_M_path_8 kc ks (some (.ref x) :: l) (.ref x :: st) h := gk_aload rfl
theorem s_M_path_8  : wps rm K Q c_M_path_8 kc ks loc (st) h = wps rm K Q c_M_path_11 kc ks loc (.long (-1000000000000000001) :: st) h := gk_lc (by decide)
theorem s_M_path_11  {a1 : Value} {x : Nat} : wps rm K Q c_M_path_11 kc ks loc (a1 :: .ref (x + 1) :: st) h = (eg_cls h x 12 ∧ st.length ≤ 4 ∧ eg_Cs n_M_finding (.ref (x + 1) :: [a1]) h (fun v h9 => wps rm K Q c_M_path_14 kc ks loc (v.toList ++ st) h9)) := eg_c1_1
theorem s_M_path_14 {x : Int64} : wps rm K Q c_M_path_14 kc ks loc ([.long x]) h = (kc = rm.cells ∧ Q (some (.long x)) h) := gk_lret
theorem s_M_path_15  : wps rm K Q c_M_path_15 kc ks loc (st) h = wps rm K Q c_M_path_16 kc ks loc (.int (-1) :: st) h := gk_ic (by decide)
theorem s_M_path_16 {x : Int32} : wps rm K Q c_M_path_16 kc ks loc (.int x :: st) h = wps rm K Q c_M_path_17 kc ks (eg_set1 loc 2 (.int x)) (st) h := gk_istore
theorem s_M_path_17  : wps rm K Q c_M_path_17 kc ks loc (st) h = wps rm K Q c_M_path_18 kc ks loc (.int (0) :: st) h := gk_ic (by decide)
theorem s_M_path_18 {x : Int32} : wps rm K Q c_M_path_18 kc ks loc (.int x :: st) h = wps rm K Q z_M_path_19 kc ks (eg_set1 loc 3 (.int x)) (st) h := gk_istore
theorem s_M_path_19 {x : Int32} {l0 l1 l2 : Option Value} {l : eg_Lo} : wps rm K Q c_M_path_19 kc ks (l0 :: l1 :: l2 :: some (.int x) :: l) (st) h = wps rm K Q c_M_path_20 kc ks (l0 :: l1 :: l2 :: some (.int x) :: l) (.int x :: st) h := gk_iload rfl
theorem s_M_path_20 {x : Nat} {l : eg_Lo} : wps rm K Q c_M_path_20 kc ks (some (.ref x) :: l) (st) h = wps rm K Q c_M_path_21 kc ks (some (.ref x) :: l) (.ref x :: st) h := gk_aload rfl
theorem s_M_path_21 {x : Nat} : wps rm K Q c_M_path_21 kc ks loc (.ref (x + 1) :: st) h = eg_gf h x 12 0 (fun v => wps rm K Q c_M_path_24 kc ks loc (v :: st) h) := gk_gf
theorem s_M_path_24 {x : Int32} {l0 : Option Value} {l : eg_Lo} : wps rm K Q c_M_path_24 kc ks (l0 :: some (.int x) :: l) (st) h = wps rm K Q c_M_path_25 kc ks (l0 :: some (.int x) :: l) (.int x :: st) h := gk_iload rfl
theorem s_M_path_25 {x : Nat} {i : Int32} : wps rm K Q c_M_path_25 kc ks loc (.int i :: .ref (x + 1) :: st) h = eg_ia h x i (fun v => wps rm K Q c_M_path_26 kc ks loc (.int v :: st) h) := gk_iaload
theorem s_M_path_26 {x y : Int32} : wps rm K Q c_M_path_26 kc ks loc (.int y :: .int x :: st) h = ((y ≤ x → K 70 kc ks loc st h) ∧ (¬ y ≤ x → wps rm K Q c_M_path_29 kc ks loc (st) h)) := gk_if2_ge
theorem s_M_path_29 {x : Nat} {l : eg_Lo} : wps rm K Q c_M_path_29 kc ks (some (.ref x) :: l) (st) h = wps rm K Q c_M_path_30 kc ks (some (.ref x) :: l) (.ref x :: st) h := gk_aload rfl
theorem s_M_path_30 {x : Int32} {l0 : Option Value} {l : eg_Lo} : wps rm K Q c_M_path_30 kc ks (l0 :: some (.int x) :: l) (st) h = wps rm K Q c_M_path_31 kc ks (l0 :: some (.int x) :: l) (.int x :: st) h := gk_iload rfl
theorem s_M_path_31 {x : Int32} {l0 l1 l2 : Option Value} {l : eg_Lo} : wps rm K Q c_M_path_31 kc ks (l0 :: l1 :: l2 :: some (.int x) :: l) (st) h = wps rm K Q c_M_path_32 kc ks (l0 :: l1 :: l2 :: some (.int x) :: l) (.int x :: st) h := gk_iload rfl
theorem s_M_path_32  {a1 : Value} {a2 : Value} {x : Nat} : wps rm K Q c_M_path_32 kc ks loc (a2 :: a1 :: .ref (x + 1) :: st) h = (eg_cls h x 12 ∧ st.length ≤ 4 ∧ eg_Cs n_M_isHere (.ref (x + 1) :: [a1, a2]) h (fun v h9 => wps rm K Q c_M_path_35 kc ks loc (v.toList ++ st) h9)) := eg_c1_2
theorem s_M_path_35 {x : Int32} : wps rm K Q c_M_path_35 kc ks loc (.int x :: st) h = ((x = 0 → K 64 kc ks loc st h) ∧ (¬ x = 0 → wps rm K Q c_M_path_38 kc ks loc (st) h)) := gk_if1_eq
theorem s_M_path_38 {x : Int32} {l0 l1 : Option Value} {l : eg_Lo} : wps rm K Q c_M_path_38 kc ks (l0 :: l1 :: some (.int x) :: l) (st) h = wps rm K Q c_M_path_39 kc ks (l0 :: l1 :: some (.int x) :: l) (.int x :: st) h := gk_iload rfl
theorem s_M_path_39 {x : Int32} : wps rm K Q c_M_path_39 kc ks loc (.int x :: st) h = ((x < 0 → K 62 kc ks loc st h) ∧ (¬ x < 0 → wps rm K Q c_M_path_42 kc ks loc (st) h)) := gk_if1_lt
theorem s_M_path_42 {x : Nat} {l : eg_Lo} : wps rm K Q c_M_path_42 kc ks (some (.ref x) :: l) (st) h = wps rm K Q c_M_path_43 kc ks (some (.ref x) :: l) (.ref x :: st) h := gk_aload rfl
theorem s_M_path_43 {x : Int32} {l0 : Option Value} {l : eg_Lo} : wps rm K Q c_M_path_43 kc ks (l0 :: some (.int x) :: l) (st) h = wps rm K Q c_M_path_44 kc ks (l0 :: some (.int x) :: l) (.int x :: st) h := gk_iload rfl
theorem s_M_path_44 {x : Int32} {l0 l1 : Option Value} {l : eg_Lo} : wps rm K Q c_M_path_44 kc ks (l0 :: l1 :: some (.int x) :: l) (st) h = wps rm K Q c_M_path_45 kc ks (l0 :: l1 :: some (.int x) :: l) (.int x :: st) h := gk_iload rfl
theorem s_M_path_45  {a1 : Value} {a2 : Value} : wps rm K Q c_M_path_45 kc ks loc (a2 :: a1 :: st) h = (st.length ≤ 4 ∧ eg_Cs n_M_at_II [a1, a2] h (fun v h9 => wps rm K Q c_M_path_48 kc ks loc (v.toList ++ st) h9)) := eg_c0_2
theorem s_M_path_48 {x : Int32} {l0 : Option Value} {l : eg_Lo} : wps rm K Q c_M_path_48 kc ks (l0 :: some (.int x) :: l) (st) h = wps rm K Q c_M_path_49 kc ks (l0 :: some (.int x) :: l) (.int x :: st) h := gk_iload rfl
theorem s_M_path_49 {x : Int32} {l0 l1 l2 : Option Value} {l : eg_Lo} : wps rm K Q c_M_path_49 kc ks (l0 :: l1 :: l2 :: some (.int x) :: l) (st) h = wps rm K Q c_M_path_50 kc ks (l0 :: l1 :: l2 :: some (.int x) :: l) (.int x :: st) h := gk_iload rfl
theorem s_M_path_50  {a1 : Value} {a2 : Value} : wps rm K Q c_M_path_50 kc ks loc (a2 :: a1 :: st) h = (st.length ≤ 4 ∧ eg_Cs n_M_at_II [a1, a2] h (fun v h9 => wps rm K Q c_M_path_53 kc ks loc (v.toList ++ st) h9)) := eg_c0_2
theorem s_M_path_53  {a1 : Value} {a2 : Value} {x : Nat} : wps rm K Q c_M_path_53 kc ks loc (a2 :: a1 :: .ref (x + 1) :: st) h = (eg_cls h x 12 ∧ st.length ≤ 4 ∧ eg_Cs n_M_intoOf (.ref (x + 1) :: [a1, a2]) h (fun v h9 => wps rm K Q c_M_path_56 kc ks loc (v.toList ++ st) h9)) := eg_c1_2
theorem s_M_path_56 {x : Int32} : wps rm K Q c_M_path_56 kc ks loc (.int x :: st) h = ((x < 0 → K 62 kc ks loc st h) ∧ (¬ x < 0 → wps rm K Q c_M_path_59 kc ks loc (st) h)) := gk_if1_lt
theorem s_M_path_59 {x : Int32} {l0 l1 : Option Value} {l : eg_Lo} : wps rm K Q c_M_path_59 kc ks (l0 :: l1 :: some (.int x) :: l) (st) h = wps rm K Q c_M_path_60 kc ks (l0 :: l1 :: some (.int x) :: l) (.int x :: st) h := gk_iload rfl
theorem s_M_path_60 {x : Int32} : wps rm K Q c_M_path_60 kc ks loc (.int x :: st) h = wps rm K Q c_M_path_61 kc ks loc (.long (x.toInt64) :: st) h := gk_i2l
theorem s_M_path_61 {x : Int64} : wps rm K Q c_M_path_61 kc ks loc ([.long x]) h = (kc = rm.cells ∧ Q (some (.long x)) h) := gk_lret
theorem s_M_path_62 {x : Int32} {l0 l1 l2 : Option Value} {l : eg_Lo} : wps rm K Q c_M_path_62 kc ks (l0 :: l1 :: l2 :: some (.int x) :: l) (st) h = wps rm K Q c_M_path_63 kc ks (l0 :: l1 :: l2 :: some (.int x) :: l) (.int x :: st) h := gk_iload rfl
theorem s_M_path_63 {x : Int32} : wps rm K Q c_M_path_63 kc ks loc (.int x :: st) h = wps rm K Q c_M_path_64 kc ks (eg_set1 loc 2 (.int x)) (st) h := gk_istore
theorem s_M_path_64 {x : Int32} {l0 l1 l2 : Option Value} {lz : eg_Lo} : wps rm K Q c_M_path_64 kc ks (l0 :: l1 :: l2 :: some (.int x) :: lz) (st) h = wps rm K Q c_M_path_67 kc ks (eg_set1 (l0 :: l1 :: l2 :: some (.int x) :: lz) 3 (.int (x + (1)))) (st) h := gk_iinc rfl (by decide)
theorem s_M_path_67  : wps rm K Q c_M_path_67 kc ks loc (st) h = K 19 kc ks loc st h := gk_goto
theorem s_M_path_70  : wps rm K Q c_M_path_70 kc ks loc (st) h = wps rm K Q c_M_path_73 kc ks loc (.long (-1) :: st) h := gk_lc (by decide)
theorem s_M_path_73 {x : Int64} : wps rm K Q c_M_path_73 kc ks loc ([.long x]) h = (kc = rm.cells ∧ Q (some (.long x)) h) := gk_lret
theorem sz_M_path_19 : wps rm K Q z_M_path_19 kc ks loc st h = K 19 kc ks loc st h := gk_nop
def T_M_path : List (Nat × List eg_I) := [(15, c_M_path_15), (62, c_M_path_62), (64, c_M_path_64), (70, c_M_path_70)]
theorem j_M_path_15 {R : Nat → Nat → Nat → eg_Lo → List Value → List eg_E → Prop} {f pc0 : Nat} : eg_run rm R Q T_M_path (f + 1) 15 kc ks loc st h = wps rm (eg_run rm R Q T_M_path f) Q c_M_path_15 kc ks loc st h := rfl
theorem j_M_path_62 {R : Nat → Nat → Nat → eg_Lo → List Value → List eg_E → Prop} {f pc0 : Nat} : eg_run rm R Q T_M_path (f + 1) 62 kc ks loc st h = wps rm (eg_run rm R Q T_M_path f) Q c_M_path_62 kc ks loc st h := rfl
theorem j_M_path_64 {R : Nat → Nat → Nat → eg_Lo → List Value → List eg_E → Prop} {f pc0 : Nat} : eg_run rm R Q T_M_path (f + 1) 64 kc ks loc st h = wps rm (eg_run rm R Q T_M_path f) Q c_M_path_64 kc ks loc st h := rfl
theorem j_M_path_70 {R : Nat → Nat → Nat → eg_Lo → List Value → List eg_E → Prop} {f pc0 : Nat} : eg_run rm R Q T_M_path (f + 1) 70 kc ks loc st h = wps rm (eg_run rm R Q T_M_path f) Q c_M_path_70 kc ks loc st h := rfl
theorem j_M_path_19 {R : Nat → Nat → Nat → eg_Lo → List Value → List eg_E → Prop} {f pc0 : Nat} : eg_run rm R Q T_M_path (f + 1) 19 kc ks loc st h = R 19 kc ks loc st h := rfl
end
theorem y_M_path_0 : eg_seq m_M_path 0 c_M_path_0 = true := by decide +kernel
theorem y_M_path_15 : eg_seq m_M_path 15 c_M_path_15 = true := by decide +kernel
theorem y_M_path_19 : eg_seq m_M_path 19 c_M_path_19 = true := by decide +kernel
theorem y_M_path_62 : eg_seq m_M_path 62 c_M_path_62 = true := by decide +kernel
theorem y_M_path_70 : eg_seq m_M_path 70 c_M_path_70 = true := by decide +kernel
theorem q_M_path : ∀ q ∈ T_M_path, eg_seq m_M_path q.1 q.2 = true := by
  intro q hq
  simp only [T_M_path, List.mem_cons, List.not_mem_nil, or_false] at hq
  rcases hq with rfl | rfl | rfl | rfl
  · exact y_M_path_15
  · exact y_M_path_62
  · exact (eg_seq_drop y_M_path_62 2 : eg_seq m_M_path 64 c_M_path_64 = true)
  · exact y_M_path_70
theorem md_M_path : eg_md n_M_path = m_M_path := rfl
theorem mn_M_path : n_M_path < 202 := Nat.le_of_ble_eq_true rfl
theorem b_M_path {as : List Value} {h : List eg_E} {Q : Option Value → List eg_E → Prop} (hf : (eg_fl as).length ≤ 4) : wps (eg_rm m_M_path) (eg_run (eg_rm m_M_path) (eg_R m_M_path Q (h.length + 0)) Q T_M_path 6) Q c_M_path_0 0 0 (eg_entry 4 as) [] h → eg_Runs n_M_path as h Q := eg_begin2 md_M_path mn_M_path y_M_path_0 q_M_path hf
theorem p_M_path_19 {Q : Option Value → List eg_E → Prop} {n0 kc ks : Nat} {loc : eg_Lo} {st : List Value} {h : List eg_E} : wps (eg_rm m_M_path) (eg_run (eg_rm m_M_path) (eg_R m_M_path Q n0) Q T_M_path 6) Q c_M_path_19 kc ks loc st h → eg_R m_M_path Q n0 19 kc ks loc st h := eg_go2 y_M_path_19 q_M_path
/-! ===== M_told ===== -/
def z_M_told_21 : List eg_I := [.inl (21, 0, .nop, 0, 0)]
def c_M_told_89 : List eg_I := .inl (89, 1, .lreturn, 0, 0) :: []
def c_M_told_86 : List eg_I := .inl (86, 3, .getfield 91, 12, 26) :: c_M_told_89
def c_M_told_85 : List eg_I := .inl (85, 1, .aload 0, 0, 0) :: c_M_told_86
def c_M_told_82 : List eg_I := .inl (82, 3, .goto (7), 89, 0) :: []
def c_M_told_81 : List eg_I := .inl (81, 1, .i2l, 0, 0) :: c_M_told_82
def c_M_told_78 : List eg_I := .inl (78, 3, .getfield 296, 12, 20) :: c_M_told_81
def c_M_told_77 : List eg_I := .inl (77, 1, .aload 0, 0, 0) :: c_M_told_78
def c_M_told_74 : List eg_I := .inl (74, 3, .if_icmp .ne (11), 85, 0) :: c_M_told_77
def c_M_told_73 : List eg_I := .inl (73, 1, .iconst (2), 0, 0) :: c_M_told_74
def c_M_told_72 : List eg_I := .inl (72, 1, .iload 1, 0, 0) :: c_M_told_73
def c_M_told_69 : List eg_I := .inl (69, 3, .goto (20), 89, 0) :: []
def c_M_told_68 : List eg_I := .inl (68, 1, .i2l, 0, 0) :: c_M_told_69
def c_M_told_65 : List eg_I := .inl (65, 3, .getfield 277, 12, 17) :: c_M_told_68
def c_M_told_64 : List eg_I := .inl (64, 1, .aload 0, 0, 0) :: c_M_told_65
def c_M_told_61 : List eg_I := .inl (61, 3, .if_icmp .ne (11), 72, 0) :: c_M_told_64
def c_M_told_60 : List eg_I := .inl (60, 1, .iconst (1), 0, 0) :: c_M_told_61
def c_M_told_59 : List eg_I := .inl (59, 1, .iload 1, 0, 0) :: c_M_told_60
def c_M_told_56 : List eg_I := .inl (56, 3, .goto (33), 89, 0) :: []
def c_M_told_55 : List eg_I := .inl (55, 1, .i2l, 0, 0) :: c_M_told_56
def c_M_told_54 : List eg_I := .inl (54, 1, .iload 2, 0, 0) :: c_M_told_55
def c_M_told_51 : List eg_I := .inl (51, 3, .ifCond .ne (8), 59, 0) :: c_M_told_54
def c_M_told_50 : List eg_I := .inl (50, 1, .iload 1, 0, 0) :: c_M_told_51
def c_M_told_47 : List eg_I := .inl (47, 3, .goto (-26), 21, 0) :: []
def c_M_told_44 : List eg_I := .inl (44, 3, .iinc 3 (1), 0, 0) :: c_M_told_47
def c_M_told_43 : List eg_I := .inl (43, 1, .istore 2, 0, 0) :: c_M_told_44
def c_M_told_42 : List eg_I := .inl (42, 1, .iadd, 0, 0) :: c_M_told_43
def c_M_told_41 : List eg_I := .inl (41, 1, .iconst (0), 0, 0) :: c_M_told_42
def c_M_told_38 : List eg_I := .inl (38, 3, .goto (4), 42, 0) :: []
def c_M_told_37 : List eg_I := .inl (37, 1, .iconst (1), 0, 0) :: c_M_told_38
def c_M_told_34 : List eg_I := .inl (34, 3, .ifCond .le (7), 41, 0) :: c_M_told_37
def c_M_told_33 : List eg_I := .inl (33, 1, .iaload, 0, 0) :: c_M_told_34
def c_M_told_32 : List eg_I := .inl (32, 1, .iload 3, 0, 0) :: c_M_told_33
def c_M_told_29 : List eg_I := .inl (29, 3, .getfield 32, 12, 7) :: c_M_told_32
def c_M_told_28 : List eg_I := .inl (28, 1, .aload 0, 0, 0) :: c_M_told_29
def c_M_told_27 : List eg_I := .inl (27, 1, .iload 2, 0, 0) :: c_M_told_28
def c_M_told_24 : List eg_I := .inl (24, 3, .if_icmp .ge (26), 50, 0) :: c_M_told_27
def c_M_told_22 : List eg_I := .inl (22, 2, .iconst (6), 0, 0) :: c_M_told_24
def c_M_told_21 : List eg_I := .inl (21, 1, .iload 3, 0, 0) :: c_M_told_22
def c_M_told_20 : List eg_I := .inl (20, 1, .istore 3, 0, 0) :: z_M_told_21
def c_M_told_19 : List eg_I := .inl (19, 1, .iconst (0), 0, 0) :: c_M_told_20
def c_M_told_18 : List eg_I := .inl (18, 1, .istore 2, 0, 0) :: c_M_told_19
def c_M_told_17 : List eg_I := .inl (17, 1, .iconst (0), 0, 0) :: c_M_told_18
def c_M_told_16 : List eg_I := .inl (16, 1, .lreturn, 0, 0) :: []
def c_M_told_13 : List eg_I := .inr (13, 1, 112, n_M_finding, 1, 12, 0, 0) :: c_M_told_16
def c_M_told_10 : List eg_I := .inl (10, 3, .sipush (-1000000000000000001), 110, 0) :: c_M_told_13
def c_M_told_9 : List eg_I := .inl (9, 1, .aload 0, 0, 0) :: c_M_told_10
def c_M_told_6 : List eg_I := .inl (6, 3, .ifCond .ne (11), 17, 0) :: c_M_told_9
def c_M_told_3 : List eg_I := .inr (3, 0, 95, n_M_isIn, 3, 12, 0, 0) :: c_M_told_6
def c_M_told_2 : List eg_I := .inl (2, 1, .iconst (3), 0, 0) :: c_M_told_3
def c_M_told_1 : List eg_I := .inl (1, 1, .iconst (0), 0, 0) :: c_M_told_2
def c_M_told_0 : List eg_I := .inl (0, 1, .iload 1, 0, 0) :: c_M_told_1
section
variable {rm : Room} {K : Nat → Nat → Nat → eg_Lo → List Value → List eg_E → Prop} {Q : Option Value → List eg_E → Prop} {kc ks : Nat} {loc : eg_Lo} {st : List Value} {h : List eg_E}
theorem s_M_told_0 {x : Int32} {l0 : Option Value} {l : eg_Lo} : wps rm K Q c_M_told_0 kc ks (l0 :: some (.int x) :: l) (st) h = wps rm K Q c_M_told_1 kc ks (l0 :: some (.int x) :: l) (.int x :: st) h := gk_iload rfl
theorem s_M_told_1  : wps rm K Q c_M_told_1 kc ks loc (st) h = wps rm K Q c_M_told_2 kc ks loc (.int (0) :: st) h := gk_ic (by decide)
theorem s_M_told_2  : wps rm K Q c_M_told_2 kc ks loc (st) h = wps rm K Q c_M_told_3 kc ks loc (.int (3) :: st) h := gk_ic (by decide)
theorem s_M_told_3  {a1 : Value} {a2 : Value} {a3 : Value} : wps rm K Q c_M_told_3 kc ks loc (a3 :: a2 :: a1 :: st) h = (st.length ≤ 4 ∧ eg_Cs n_M_isIn [a1, a2, a3] h (fun v h9 => wps rm K Q c_M_told_6 kc ks loc (v.toList ++ st) h9)) := eg_c0_3
theorem s_M_told_6 {x : Int32} : wps rm K Q c_M_told_6 kc ks loc (.int x :: st) h = ((¬ x = 0 → K 17 kc ks loc st h) ∧ (x = 0 → wps rm K Q c_M_told_9 kc ks loc (st) h)) := gk_if1_ne
theorem s_M_told_9 {x : Nat} {l : eg_Lo} : wps rm K Q c_M_told_9 kc ks (some (.ref x) :: l) (st) h = wps rm K Q c_M_told_10 kc ks (some (.ref x) :: l) (.ref x :: st) h := gk_aload rfl
theorem s_M_told_10  : wps rm K Q c_M_told_10 kc ks loc (st) h = wps rm K Q c_M_told_13 kc ks loc (.long (-1000000000000000001) :: st) h := gk_lc (by decide)
theorem s_M_told_13  {a1 : Value} {x : Nat} : wps rm K Q c_M_told_13 kc ks loc (a1 :: .ref (x + 1) :: st) h = (eg_cls h x 12 ∧ st.length ≤ 4 ∧ eg_Cs n_M_finding (.ref (x + 1) :: [a1]) h (fun v h9 => wps rm K Q c_M_told_16 kc ks loc (v.toList ++ st) h9)) := eg_c1_1
theorem s_M_told_16 {x : Int64} : wps rm K Q c_M_told_16 kc ks loc ([.long x]) h = (kc = rm.cells ∧ Q (some (.long x)) h) := gk_lret
theorem s_M_told_17  : wps rm K Q c_M_told_17 kc ks loc (st) h = wps rm K Q c_M_told_18 kc ks loc (.int (0) :: st) h := gk_ic (by decide)
theorem s_M_told_18 {x : Int32} : wps rm K Q c_M_told_18 kc ks loc (.int x :: st) h = wps rm K Q c_M_told_19 kc ks (eg_set1 loc 2 (.int x)) (st) h := gk_istore
theorem s_M_told_19  : wps rm K Q c_M_told_19 kc ks loc (st) h = wps rm K Q c_M_told_20 kc ks loc (.int (0) :: st) h := gk_ic (by decide)
theorem s_M_told_20 {x : Int32} : wps rm K Q c_M_told_20 kc ks loc (.int x :: st) h = wps rm K Q z_M_told_21 kc ks (eg_set1 loc 3 (.int x)) (st) h := gk_istore
theorem s_M_told_21 {x : Int32} {l0 l1 l2 : Option Value} {l : eg_Lo} : wps rm K Q c_M_told_21 kc ks (l0 :: l1 :: l2 :: some (.int x) :: l) (st) h = wps rm K Q c_M_told_22 kc ks (l0 :: l1 :: l2 :: some (.int x) :: l) (.int x :: st) h := gk_iload rfl
theorem s_M_told_22  : wps rm K Q c_M_told_22 kc ks loc (st) h = wps rm K Q c_M_told_24 kc ks loc (.int (6) :: st) h := gk_ic (by decide)
theorem s_M_told_24 {x y : Int32} : wps rm K Q c_M_told_24 kc ks loc (.int y :: .int x :: st) h = ((y ≤ x → K 50 kc ks loc st h) ∧ (¬ y ≤ x → wps rm K Q c_M_told_27 kc ks loc (st) h)) := gk_if2_ge
theorem s_M_told_27 {x : Int32} {l0 l1 : Option Value} {l : eg_Lo} : wps rm K Q c_M_told_27 kc ks (l0 :: l1 :: some (.int x) :: l) (st) h = wps rm K Q c_M_told_28 kc ks (l0 :: l1 :: some (.int x) :: l) (.int x :: st) h := gk_iload rfl
theorem s_M_told_28 {x : Nat} {l : eg_Lo} : wps rm K Q c_M_told_28 kc ks (some (.ref x) :: l) (st) h = wps rm K Q c_M_told_29 kc ks (some (.ref x) :: l) (.ref x :: st) h := gk_aload rfl
theorem s_M_told_29 {x : Nat} : wps rm K Q c_M_told_29 kc ks loc (.ref (x + 1) :: st) h = eg_gf h x 12 7 (fun v => wps rm K Q c_M_told_32 kc ks loc (v :: st) h) := gk_gf
theorem s_M_told_32 {x : Int32} {l0 l1 l2 : Option Value} {l : eg_Lo} : wps rm K Q c_M_told_32 kc ks (l0 :: l1 :: l2 :: some (.int x) :: l) (st) h = wps rm K Q c_M_told_33 kc ks (l0 :: l1 :: l2 :: some (.int x) :: l) (.int x :: st) h := gk_iload rfl
theorem s_M_told_33 {x : Nat} {i : Int32} : wps rm K Q c_M_told_33 kc ks loc (.int i :: .ref (x + 1) :: st) h = eg_ia h x i (fun v => wps rm K Q c_M_told_34 kc ks loc (.int v :: st) h) := gk_iaload
theorem s_M_told_34 {x : Int32} : wps rm K Q c_M_told_34 kc ks loc (.int x :: st) h = ((x ≤ 0 → K 41 kc ks loc st h) ∧ (¬ x ≤ 0 → wps rm K Q c_M_told_37 kc ks loc (st) h)) := gk_if1_le
theorem s_M_told_37  : wps rm K Q c_M_told_37 kc ks loc (st) h = wps rm K Q c_M_told_38 kc ks loc (.int (1) :: st) h := gk_ic (by decide)
theorem s_M_told_38  : wps rm K Q c_M_told_38 kc ks loc (st) h = K 42 kc ks loc st h := gk_goto
theorem s_M_told_41  : wps rm K Q c_M_told_41 kc ks loc (st) h = wps rm K Q c_M_told_42 kc ks loc (.int (0) :: st) h := gk_ic (by decide)
theorem s_M_told_42 {x y : Int32} : wps rm K Q c_M_told_42 kc ks loc (.int y :: .int x :: st) h = wps rm K Q c_M_told_43 kc ks loc (.int (x + y) :: st) h := gk_iadd
theorem s_M_told_43 {x : Int32} : wps rm K Q c_M_told_43 kc ks loc (.int x :: st) h = wps rm K Q c_M_told_44 kc ks (eg_set1 loc 2 (.int x)) (st) h := gk_istore
theorem s_M_told_44 {x : Int32} {l0 l1 l2 : Option Value} {lz : eg_Lo} : wps rm K Q c_M_told_44 kc ks (l0 :: l1 :: l2 :: some (.int x) :: lz) (st) h = wps rm K Q c_M_told_47 kc ks (eg_set1 (l0 :: l1 :: l2 :: some (.int x) :: lz) 3 (.int (x + (1)))) (st) h := gk_iinc rfl (by decide)
theorem s_M_told_47  : wps rm K Q c_M_told_47 kc ks loc (st) h = K 21 kc ks loc st h := gk_goto
theorem s_M_told_50 {x : Int32} {l0 : Option Value} {l : eg_Lo} : wps rm K Q c_M_told_50 kc ks (l0 :: some (.int x) :: l) (st) h = wps rm K Q c_M_told_51 kc ks (l0 :: some (.int x) :: l) (.int x :: st) h := gk_iload rfl
theorem s_M_told_51 {x : Int32} : wps rm K Q c_M_told_51 kc ks loc (.int x :: st) h = ((¬ x = 0 → K 59 kc ks loc st h) ∧ (x = 0 → wps rm K Q c_M_told_54 kc ks loc (st) h)) := gk_if1_ne
theorem s_M_told_54 {x : Int32} {l0 l1 : Option Value} {l : eg_Lo} : wps rm K Q c_M_told_54 kc ks (l0 :: l1 :: some (.int x) :: l) (st) h = wps rm K Q c_M_told_55 kc ks (l0 :: l1 :: some (.int x) :: l) (.int x :: st) h := gk_iload rfl
theorem s_M_told_55 {x : Int32} : wps rm K Q c_M_told_55 kc ks loc (.int x :: st) h = wps rm K Q c_M_told_56 kc ks loc (.long (x.toInt64) :: st) h := gk_i2l
theorem s_M_told_56  : wps rm K Q c_M_told_56 kc ks loc (st) h = K 89 kc ks loc st h := gk_goto
theorem s_M_told_59 {x : Int32} {l0 : Option Value} {l : eg_Lo} : wps rm K Q c_M_told_59 kc ks (l0 :: some (.int x) :: l) (st) h = wps rm K Q c_M_told_60 kc ks (l0 :: some (.int x) :: l) (.int x :: st) h := gk_iload rfl
theorem s_M_told_60  : wps rm K Q c_M_told_60 kc ks loc (st) h = wps rm K Q c_M_told_61 kc ks loc (.int (1) :: st) h := gk_ic (by decide)
theorem s_M_told_61 {x y : Int32} : wps rm K Q c_M_told_61 kc ks loc (.int y :: .int x :: st) h = ((¬ x = y → K 72 kc ks loc st h) ∧ (x = y → wps rm K Q c_M_told_64 kc ks loc (st) h)) := gk_if2_ne
theorem s_M_told_64 {x : Nat} {l : eg_Lo} : wps rm K Q c_M_told_64 kc ks (some (.ref x) :: l) (st) h = wps rm K Q c_M_told_65 kc ks (some (.ref x) :: l) (.ref x :: st) h := gk_aload rfl
theorem s_M_told_65 {x : Nat} : wps rm K Q c_M_told_65 kc ks loc (.ref (x + 1) :: st) h = eg_gf h x 12 17 (fun v => wps rm K Q c_M_told_68 kc ks loc (v :: st) h) := gk_gf
theorem s_M_told_68 {x : Int32} : wps rm K Q c_M_told_68 kc ks loc (.int x :: st) h = wps rm K Q c_M_told_69 kc ks loc (.long (x.toInt64) :: st) h := gk_i2l
theorem s_M_told_69  : wps rm K Q c_M_told_69 kc ks loc (st) h = K 89 kc ks loc st h := gk_goto
theorem s_M_told_72 {x : Int32} {l0 : Option Value} {l : eg_Lo} : wps rm K Q c_M_told_72 kc ks (l0 :: some (.int x) :: l) (st) h = wps rm K Q c_M_told_73 kc ks (l0 :: some (.int x) :: l) (.int x :: st) h := gk_iload rfl
theorem s_M_told_73  : wps rm K Q c_M_told_73 kc ks loc (st) h = wps rm K Q c_M_told_74 kc ks loc (.int (2) :: st) h := gk_ic (by decide)
theorem s_M_told_74 {x y : Int32} : wps rm K Q c_M_told_74 kc ks loc (.int y :: .int x :: st) h = ((¬ x = y → K 85 kc ks loc st h) ∧ (x = y → wps rm K Q c_M_told_77 kc ks loc (st) h)) := gk_if2_ne
theorem s_M_told_77 {x : Nat} {l : eg_Lo} : wps rm K Q c_M_told_77 kc ks (some (.ref x) :: l) (st) h = wps rm K Q c_M_told_78 kc ks (some (.ref x) :: l) (.ref x :: st) h := gk_aload rfl
theorem s_M_told_78 {x : Nat} : wps rm K Q c_M_told_78 kc ks loc (.ref (x + 1) :: st) h = eg_gf h x 12 20 (fun v => wps rm K Q c_M_told_81 kc ks loc (v :: st) h) := gk_gf
theorem s_M_told_81 {x : Int32} : wps rm K Q c_M_told_81 kc ks loc (.int x :: st) h = wps rm K Q c_M_told_82 kc ks loc (.long (x.toInt64) :: st) h := gk_i2l
theorem s_M_told_82  : wps rm K Q c_M_told_82 kc ks loc (st) h = K 89 kc ks loc st h := gk_goto
theorem s_M_told_85 {x : Nat} {l : eg_Lo} : wps rm K Q c_M_told_85 kc ks (some (.ref x) :: l) (st) h = wps rm K Q c_M_told_86 kc ks (some (.ref x) :: l) (.ref x :: st) h := gk_aload rfl
theorem s_M_told_86 {x : Nat} : wps rm K Q c_M_told_86 kc ks loc (.ref (x + 1) :: st) h = eg_gf h x 12 26 (fun v => wps rm K Q c_M_told_89 kc ks loc (v :: st) h) := gk_gf
theorem s_M_told_89 {x : Int64} : wps rm K Q c_M_told_89 kc ks loc ([.long x]) h = (kc = rm.cells ∧ Q (some (.long x)) h) := gk_lret
theorem sz_M_told_21 : wps rm K Q z_M_told_21 kc ks loc st h = K 21 kc ks loc st h := gk_nop
def T_M_told : List (Nat × List eg_I) := [(17, c_M_told_17), (41, c_M_told_41), (42, c_M_told_42), (50, c_M_told_50), (59, c_M_told_59), (72, c_M_told_72), (85, c_M_told_85), (89, c_M_told_89)]
theorem j_M_told_17 {R : Nat → Nat → Nat → eg_Lo → List Value → List eg_E → Prop} {f pc0 : Nat} : eg_run rm R Q T_M_told (f + 1) 17 kc ks loc st h = wps rm (eg_run rm R Q T_M_told f) Q c_M_told_17 kc ks loc st h := rfl
theorem j_M_told_41 {R : Nat → Nat → Nat → eg_Lo → List Value → List eg_E → Prop} {f pc0 : Nat} : eg_run rm R Q T_M_told (f + 1) 41 kc ks loc st h = wps rm (eg_run rm R Q T_M_told f) Q c_M_told_41 kc ks loc st h := rfl
theorem j_M_told_42 {R : Nat → Nat → Nat → eg_Lo → List Value → List eg_E → Prop} {f pc0 : Nat} : eg_run rm R Q T_M_told (f + 1) 42 kc ks loc st h = wps rm (eg_run rm R Q T_M_told f) Q c_M_told_42 kc ks loc st h := rfl
theorem j_M_told_50 {R : Nat → Nat → Nat → eg_Lo → List Value → List eg_E → Prop} {f pc0 : Nat} : eg_run rm R Q T_M_told (f + 1) 50 kc ks loc st h = wps rm (eg_run rm R Q T_M_told f) Q c_M_told_50 kc ks loc st h := rfl
theorem j_M_told_59 {R : Nat → Nat → Nat → eg_Lo → List Value → List eg_E → Prop} {f pc0 : Nat} : eg_run rm R Q T_M_told (f + 1) 59 kc ks loc st h = wps rm (eg_run rm R Q T_M_told f) Q c_M_told_59 kc ks loc st h := rfl
theorem j_M_told_72 {R : Nat → Nat → Nat → eg_Lo → List Value → List eg_E → Prop} {f pc0 : Nat} : eg_run rm R Q T_M_told (f + 1) 72 kc ks loc st h = wps rm (eg_run rm R Q T_M_told f) Q c_M_told_72 kc ks loc st h := rfl
theorem j_M_told_85 {R : Nat → Nat → Nat → eg_Lo → List Value → List eg_E → Prop} {f pc0 : Nat} : eg_run rm R Q T_M_told (f + 1) 85 kc ks loc st h = wps rm (eg_run rm R Q T_M_told f) Q c_M_told_85 kc ks loc st h := rfl
theorem j_M_told_89 {R : Nat → Nat → Nat → eg_Lo → List Value → List eg_E → Prop} {f pc0 : Nat} : eg_run rm R Q T_M_told (f + 1) 89 kc ks loc st h = wps rm (eg_run rm R Q T_M_told f) Q c_M_told_89 kc ks loc st h := rfl
theorem j_M_told_21 {R : Nat → Nat → Nat → eg_Lo → List Value → List eg_E → Prop} {f pc0 : Nat} : eg_run rm R Q T_M_told (f + 1) 21 kc ks loc st h = R 21 kc ks loc st h := rfl
end
theorem y_M_told_0 : eg_seq m_M_told 0 c_M_told_0 = true := by decide +kernel
theorem y_M_told_17 : eg_seq m_M_told 17 c_M_told_17 = true := by decide +kernel
theorem y_M_told_21 : eg_seq m_M_told 21 c_M_told_21 = true := by decide +kernel
theorem y_M_told_41 : eg_seq m_M_told 41 c_M_told_41 = true := by decide +kernel
theorem y_M_told_50 : eg_seq m_M_told 50 c_M_told_50 = true := by decide +kernel
theorem y_M_told_59 : eg_seq m_M_told 59 c_M_told_59 = true := by decide +kernel
theorem y_M_told_72 : eg_seq m_M_told 72 c_M_told_72 = true := by decide +kernel
theorem y_M_told_85 : eg_seq m_M_told 85 c_M_told_85 = true := by decide +kernel
theorem q_M_told : ∀ q ∈ T_M_told, eg_seq m_M_told q.1 q.2 = true := by
  intro q hq
  simp only [T_M_told, List.mem_cons, List.not_mem_nil, or_false] at hq
  rcases hq with rfl | rfl | rfl | rfl | rfl | rfl | rfl | rfl
  · exact y_M_told_17
  · exact y_M_told_41
  · exact (eg_seq_drop y_M_told_41 1 : eg_seq m_M_told 42 c_M_told_42 = true)
  · exact y_M_told_50
  · exact y_M_told_59
  · exact y_M_told_72
  · exact y_M_told_85
  · exact (eg_seq_drop y_M_told_85 2 : eg_seq m_M_told 89 c_M_told_89 = true)
theorem md_M_told : eg_md n_M_told = m_M_told := rfl
theorem mn_M_told : n_M_told < 202 := Nat.le_of_ble_eq_true rfl
theorem b_M_told {as : List Value} {h : List eg_E} {Q : Option Value → List eg_E → Prop} (hf : (eg_fl as).length ≤ 4) : wps (eg_rm m_M_told) (eg_run (eg_rm m_M_told) (eg_R m_M_told Q (h.length + 0)) Q T_M_told 10) Q c_M_told_0 0 0 (eg_entry 4 as) [] h → eg_Runs n_M_told as h Q := eg_begin2 md_M_told mn_M_told y_M_told_0 q_M_told hf
theorem p_M_told_21 {Q : Option Value → List eg_E → Prop} {n0 kc ks : Nat} {loc : eg_Lo} {st : List Value} {h : List eg_E} : wps (eg_rm m_M_told) (eg_run (eg_rm m_M_told) (eg_R m_M_told Q n0) Q T_M_told 10) Q c_M_told_21 kc ks loc st h → eg_R m_M_told Q n0 21 kc ks loc st h := eg_go2 y_M_told_21 q_M_told
