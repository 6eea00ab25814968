/-! ===== M_tellMiddle ===== -/
def c_M_tellMiddle_204 : List eg_I := .inl (204, 1, .return_, 0, 0) :: []
def c_M_tellMiddle_201 : List eg_I := .inl (201, 3, .putfield 224, 12, 35) :: c_M_tellMiddle_204
def c_M_tellMiddle_200 : List eg_I := .inl (200, 1, .lneg, 0, 0) :: c_M_tellMiddle_201
def c_M_tellMiddle_197 : List eg_I := .inl (197, 3, .getfield 224, 12, 35) :: c_M_tellMiddle_200
def c_M_tellMiddle_196 : List eg_I := .inl (196, 1, .aload 0, 0, 0) :: c_M_tellMiddle_197
def c_M_tellMiddle_195 : List eg_I := .inl (195, 1, .aload 0, 0, 0) :: c_M_tellMiddle_196
def c_M_tellMiddle_192 : List eg_I := .inl (192, 3, .putfield 221, 12, 34) :: c_M_tellMiddle_195
def c_M_tellMiddle_191 : List eg_I := .inl (191, 1, .lneg, 0, 0) :: c_M_tellMiddle_192
def c_M_tellMiddle_188 : List eg_I := .inl (188, 3, .getfield 221, 12, 34) :: c_M_tellMiddle_191
def c_M_tellMiddle_187 : List eg_I := .inl (187, 1, .aload 0, 0, 0) :: c_M_tellMiddle_188
def c_M_tellMiddle_186 : List eg_I := .inl (186, 1, .aload 0, 0, 0) :: c_M_tellMiddle_187
def c_M_tellMiddle_183 : List eg_I := .inl (183, 3, .putfield 218, 12, 36) :: c_M_tellMiddle_186
def c_M_tellMiddle_182 : List eg_I := .inl (182, 1, .lneg, 0, 0) :: c_M_tellMiddle_183
def c_M_tellMiddle_179 : List eg_I := .inl (179, 3, .getfield 218, 12, 36) :: c_M_tellMiddle_182
def c_M_tellMiddle_178 : List eg_I := .inl (178, 1, .aload 0, 0, 0) :: c_M_tellMiddle_179
def c_M_tellMiddle_177 : List eg_I := .inl (177, 1, .aload 0, 0, 0) :: c_M_tellMiddle_178
def c_M_tellMiddle_174 : List eg_I := .inl (174, 3, .ifCond .ge (30), 204, 0) :: c_M_tellMiddle_177
def c_M_tellMiddle_173 : List eg_I := .inl (173, 1, .lcmp, 0, 0) :: c_M_tellMiddle_174
def c_M_tellMiddle_172 : List eg_I := .inl (172, 1, .sipush (0), 0, 0) :: c_M_tellMiddle_173
def c_M_tellMiddle_169 : List eg_I := .inl (169, 3, .getfield 218, 12, 36) :: c_M_tellMiddle_172
def c_M_tellMiddle_168 : List eg_I := .inl (168, 1, .aload 0, 0, 0) :: c_M_tellMiddle_169
def c_M_tellMiddle_165 : List eg_I := .inl (165, 3, .putfield 224, 12, 35) :: c_M_tellMiddle_168
def c_M_tellMiddle_164 : List eg_I := .inl (164, 1, .lsub, 0, 0) :: c_M_tellMiddle_165
def c_M_tellMiddle_163 : List eg_I := .inl (163, 1, .lmul, 0, 0) :: c_M_tellMiddle_164
def c_M_tellMiddle_161 : List eg_I := .inl (161, 2, .lload 14, 0, 0) :: c_M_tellMiddle_163
def c_M_tellMiddle_159 : List eg_I := .inl (159, 2, .lload 10, 0, 0) :: c_M_tellMiddle_161
def c_M_tellMiddle_158 : List eg_I := .inl (158, 1, .lmul, 0, 0) :: c_M_tellMiddle_159
def c_M_tellMiddle_156 : List eg_I := .inl (156, 2, .lload 16, 0, 0) :: c_M_tellMiddle_158
def c_M_tellMiddle_154 : List eg_I := .inl (154, 2, .lload 6, 0, 0) :: c_M_tellMiddle_156
def c_M_tellMiddle_153 : List eg_I := .inl (153, 1, .aload 0, 0, 0) :: c_M_tellMiddle_154
def c_M_tellMiddle_150 : List eg_I := .inl (150, 3, .putfield 221, 12, 34) :: c_M_tellMiddle_153
def c_M_tellMiddle_149 : List eg_I := .inl (149, 1, .lsub, 0, 0) :: c_M_tellMiddle_150
def c_M_tellMiddle_148 : List eg_I := .inl (148, 1, .lmul, 0, 0) :: c_M_tellMiddle_149
def c_M_tellMiddle_146 : List eg_I := .inl (146, 2, .lload 16, 0, 0) :: c_M_tellMiddle_148
def c_M_tellMiddle_144 : List eg_I := .inl (144, 2, .lload 8, 0, 0) :: c_M_tellMiddle_146
def c_M_tellMiddle_143 : List eg_I := .inl (143, 1, .lmul, 0, 0) :: c_M_tellMiddle_144
def c_M_tellMiddle_141 : List eg_I := .inl (141, 2, .lload 14, 0, 0) :: c_M_tellMiddle_143
def c_M_tellMiddle_139 : List eg_I := .inl (139, 2, .lload 12, 0, 0) :: c_M_tellMiddle_141
def c_M_tellMiddle_138 : List eg_I := .inl (138, 1, .aload 0, 0, 0) :: c_M_tellMiddle_139
def c_M_tellMiddle_135 : List eg_I := .inl (135, 3, .putfield 218, 12, 36) :: c_M_tellMiddle_138
def c_M_tellMiddle_134 : List eg_I := .inl (134, 1, .lmul, 0, 0) :: c_M_tellMiddle_135
def c_M_tellMiddle_133 : List eg_I := .inl (133, 1, .lsub, 0, 0) :: c_M_tellMiddle_134
def c_M_tellMiddle_132 : List eg_I := .inl (132, 1, .lmul, 0, 0) :: c_M_tellMiddle_133
def c_M_tellMiddle_130 : List eg_I := .inl (130, 2, .lload 10, 0, 0) :: c_M_tellMiddle_132
def c_M_tellMiddle_128 : List eg_I := .inl (128, 2, .lload 8, 0, 0) :: c_M_tellMiddle_130
def c_M_tellMiddle_127 : List eg_I := .inl (127, 1, .lmul, 0, 0) :: c_M_tellMiddle_128
def c_M_tellMiddle_125 : List eg_I := .inl (125, 2, .lload 12, 0, 0) :: c_M_tellMiddle_127
def c_M_tellMiddle_123 : List eg_I := .inl (123, 2, .lload 6, 0, 0) :: c_M_tellMiddle_125
def c_M_tellMiddle_120 : List eg_I := .inl (120, 3, .sipush (2), 216, 0) :: c_M_tellMiddle_123
def c_M_tellMiddle_119 : List eg_I := .inl (119, 1, .aload 0, 0, 0) :: c_M_tellMiddle_120
def c_M_tellMiddle_117 : List eg_I := .inl (117, 2, .lstore 16, 0, 0) :: c_M_tellMiddle_119
def c_M_tellMiddle_116 : List eg_I := .inl (116, 1, .ladd, 0, 0) :: c_M_tellMiddle_117
def c_M_tellMiddle_115 : List eg_I := .inl (115, 1, .lmul, 0, 0) :: c_M_tellMiddle_116
def c_M_tellMiddle_113 : List eg_I := .inl (113, 2, .lload 12, 0, 0) :: c_M_tellMiddle_115
def c_M_tellMiddle_111 : List eg_I := .inl (111, 2, .lload 12, 0, 0) :: c_M_tellMiddle_113
def c_M_tellMiddle_110 : List eg_I := .inl (110, 1, .lmul, 0, 0) :: c_M_tellMiddle_111
def c_M_tellMiddle_108 : List eg_I := .inl (108, 2, .lload 10, 0, 0) :: c_M_tellMiddle_110
def c_M_tellMiddle_106 : List eg_I := .inl (106, 2, .lload 10, 0, 0) :: c_M_tellMiddle_108
def c_M_tellMiddle_104 : List eg_I := .inl (104, 2, .lstore 14, 0, 0) :: c_M_tellMiddle_106
def c_M_tellMiddle_103 : List eg_I := .inl (103, 1, .ladd, 0, 0) :: c_M_tellMiddle_104
def c_M_tellMiddle_102 : List eg_I := .inl (102, 1, .lmul, 0, 0) :: c_M_tellMiddle_103
def c_M_tellMiddle_100 : List eg_I := .inl (100, 2, .lload 8, 0, 0) :: c_M_tellMiddle_102
def c_M_tellMiddle_98 : List eg_I := .inl (98, 2, .lload 8, 0, 0) :: c_M_tellMiddle_100
def c_M_tellMiddle_97 : List eg_I := .inl (97, 1, .lmul, 0, 0) :: c_M_tellMiddle_98
def c_M_tellMiddle_95 : List eg_I := .inl (95, 2, .lload 6, 0, 0) :: c_M_tellMiddle_97
def c_M_tellMiddle_93 : List eg_I := .inl (93, 2, .lload 6, 0, 0) :: c_M_tellMiddle_95
def c_M_tellMiddle_91 : List eg_I := .inl (91, 2, .lstore 12, 0, 0) :: c_M_tellMiddle_93
def c_M_tellMiddle_90 : List eg_I := .inl (90, 1, .i2l, 0, 0) :: c_M_tellMiddle_91
def c_M_tellMiddle_89 : List eg_I := .inl (89, 1, .isub, 0, 0) :: c_M_tellMiddle_90
def c_M_tellMiddle_88 : List eg_I := .inl (88, 1, .iaload, 0, 0) :: c_M_tellMiddle_89
def c_M_tellMiddle_86 : List eg_I := .inl (86, 2, .iload 5, 0, 0) :: c_M_tellMiddle_88
def c_M_tellMiddle_83 : List eg_I := .inl (83, 3, .getfield 16, 12, 2) :: c_M_tellMiddle_86
def c_M_tellMiddle_82 : List eg_I := .inl (82, 1, .aload 0, 0, 0) :: c_M_tellMiddle_83
def c_M_tellMiddle_81 : List eg_I := .inl (81, 1, .iaload, 0, 0) :: c_M_tellMiddle_82
def c_M_tellMiddle_78 : List eg_I := .inr (78, 0, 103, n_M_at_II, 2, 12, 0, 0) :: c_M_tellMiddle_81
def c_M_tellMiddle_76 : List eg_I := .inl (76, 2, .iload 4, 0, 0) :: c_M_tellMiddle_78
def c_M_tellMiddle_75 : List eg_I := .inl (75, 1, .iload 1, 0, 0) :: c_M_tellMiddle_76
def c_M_tellMiddle_72 : List eg_I := .inl (72, 3, .getfield 16, 12, 2) :: c_M_tellMiddle_75
def c_M_tellMiddle_71 : List eg_I := .inl (71, 1, .aload 0, 0, 0) :: c_M_tellMiddle_72
def c_M_tellMiddle_69 : List eg_I := .inl (69, 2, .lstore 10, 0, 0) :: c_M_tellMiddle_71
def c_M_tellMiddle_68 : List eg_I := .inl (68, 1, .i2l, 0, 0) :: c_M_tellMiddle_69
def c_M_tellMiddle_67 : List eg_I := .inl (67, 1, .isub, 0, 0) :: c_M_tellMiddle_68
def c_M_tellMiddle_66 : List eg_I := .inl (66, 1, .iaload, 0, 0) :: c_M_tellMiddle_67
def c_M_tellMiddle_64 : List eg_I := .inl (64, 2, .iload 5, 0, 0) :: c_M_tellMiddle_66
def c_M_tellMiddle_61 : List eg_I := .inl (61, 3, .getfield 13, 12, 1) :: c_M_tellMiddle_64
def c_M_tellMiddle_60 : List eg_I := .inl (60, 1, .aload 0, 0, 0) :: c_M_tellMiddle_61
def c_M_tellMiddle_59 : List eg_I := .inl (59, 1, .iaload, 0, 0) :: c_M_tellMiddle_60
def c_M_tellMiddle_56 : List eg_I := .inr (56, 0, 103, n_M_at_II, 2, 12, 0, 0) :: c_M_tellMiddle_59
def c_M_tellMiddle_54 : List eg_I := .inl (54, 2, .iload 4, 0, 0) :: c_M_tellMiddle_56
def c_M_tellMiddle_53 : List eg_I := .inl (53, 1, .iload 1, 0, 0) :: c_M_tellMiddle_54
def c_M_tellMiddle_50 : List eg_I := .inl (50, 3, .getfield 13, 12, 1) :: c_M_tellMiddle_53
def c_M_tellMiddle_49 : List eg_I := .inl (49, 1, .aload 0, 0, 0) :: c_M_tellMiddle_50
def c_M_tellMiddle_47 : List eg_I := .inl (47, 2, .lstore 8, 0, 0) :: c_M_tellMiddle_49
def c_M_tellMiddle_46 : List eg_I := .inl (46, 1, .i2l, 0, 0) :: c_M_tellMiddle_47
def c_M_tellMiddle_45 : List eg_I := .inl (45, 1, .isub, 0, 0) :: c_M_tellMiddle_46
def c_M_tellMiddle_44 : List eg_I := .inl (44, 1, .iaload, 0, 0) :: c_M_tellMiddle_45
def c_M_tellMiddle_42 : List eg_I := .inl (42, 2, .iload 5, 0, 0) :: c_M_tellMiddle_44
def c_M_tellMiddle_39 : List eg_I := .inl (39, 3, .getfield 16, 12, 2) :: c_M_tellMiddle_42
def c_M_tellMiddle_38 : List eg_I := .inl (38, 1, .aload 0, 0, 0) :: c_M_tellMiddle_39
def c_M_tellMiddle_37 : List eg_I := .inl (37, 1, .iaload, 0, 0) :: c_M_tellMiddle_38
def c_M_tellMiddle_34 : List eg_I := .inr (34, 0, 103, n_M_at_II, 2, 12, 0, 0) :: c_M_tellMiddle_37
def c_M_tellMiddle_33 : List eg_I := .inl (33, 1, .iload 3, 0, 0) :: c_M_tellMiddle_34
def c_M_tellMiddle_32 : List eg_I := .inl (32, 1, .iload 1, 0, 0) :: c_M_tellMiddle_33
def c_M_tellMiddle_29 : List eg_I := .inl (29, 3, .getfield 16, 12, 2) :: c_M_tellMiddle_32
def c_M_tellMiddle_28 : List eg_I := .inl (28, 1, .aload 0, 0, 0) :: c_M_tellMiddle_29
def c_M_tellMiddle_26 : List eg_I := .inl (26, 2, .lstore 6, 0, 0) :: c_M_tellMiddle_28
def c_M_tellMiddle_25 : List eg_I := .inl (25, 1, .i2l, 0, 0) :: c_M_tellMiddle_26
def c_M_tellMiddle_24 : List eg_I := .inl (24, 1, .isub, 0, 0) :: c_M_tellMiddle_25
def c_M_tellMiddle_23 : List eg_I := .inl (23, 1, .iaload, 0, 0) :: c_M_tellMiddle_24
def c_M_tellMiddle_21 : List eg_I := .inl (21, 2, .iload 5, 0, 0) :: c_M_tellMiddle_23
def c_M_tellMiddle_18 : List eg_I := .inl (18, 3, .getfield 13, 12, 1) :: c_M_tellMiddle_21
def c_M_tellMiddle_17 : List eg_I := .inl (17, 1, .aload 0, 0, 0) :: c_M_tellMiddle_18
def c_M_tellMiddle_16 : List eg_I := .inl (16, 1, .iaload, 0, 0) :: c_M_tellMiddle_17
def c_M_tellMiddle_13 : List eg_I := .inr (13, 0, 103, n_M_at_II, 2, 12, 0, 0) :: c_M_tellMiddle_16
def c_M_tellMiddle_12 : List eg_I := .inl (12, 1, .iload 3, 0, 0) :: c_M_tellMiddle_13
def c_M_tellMiddle_11 : List eg_I := .inl (11, 1, .iload 1, 0, 0) :: c_M_tellMiddle_12
def c_M_tellMiddle_8 : List eg_I := .inl (8, 3, .getfield 13, 12, 1) :: c_M_tellMiddle_11
def c_M_tellMiddle_7 : List eg_I := .inl (7, 1, .aload 0, 0, 0) :: c_M_tellMiddle_8
def c_M_tellMiddle_5 : List eg_I := .inl (5, 2, .istore 5, 0, 0) :: c_M_tellMiddle_7
def c_M_tellMiddle_2 : List eg_I := .inr (2, 0, 103, n_M_at_II, 2, 12, 0, 0) :: c_M_tellMiddle_5
def c_M_tellMiddle_1 : List eg_I := .inl (1, 1, .iload 2, 0, 0) :: c_M_tellMiddle_2
def c_M_tellMiddle_0 : List eg_I := .inl (0, 1, .iload 1, 0, 0) :: c_M_tellMiddle_1
section
variable {rm : Room} {K : Nat → Nat → Nat → eg_Lo → List Value → List eg_E → Prop} {Q : Option Value → List eg_E → Prop} {kc ks : Nat} {loc : eg_Lo} {st : List Value} {h : List eg_E}
theorem s_M_tellMiddle_0 {x : Int32} {l0 : Option Value} {l : eg_Lo} : wps rm K Q c_M_tellMiddle_0 kc ks (l0 :: some (.int x) :: l) (st) h = wps rm K Q c_M_tellMiddle_1 kc ks (l0 :: some (.int x) :: l) (.int x :: st) h := rfl
theorem s_M_tellMiddle_1 {x : Int32} {l0 l1 : Option Value} {l : eg_Lo} : wps rm K Q c_M_tellMiddle_1 kc ks (l0 :: l1 :: some (.int x) :: l) (st) h = wps rm K Q c_M_tellMiddle_2 kc ks (l0 :: l1 :: some (.int x) :: l) (.int x :: st) h := rfl
theorem s_M_tellMiddle_2  {a1 : Value} {a2 : Value} : wps rm K Q c_M_tellMiddle_2 kc ks loc (a2 :: a1 :: st) h = (st.length ≤ 4 ∧ eg_Cs n_M_at_II [a1, a2] h (fun v h9 => wps rm K Q c_M_tellMiddle_5 kc ks loc (v.toList ++ st) h9)) := eg_c0_2
theorem s_M_tellMiddle_5 {x : Int32} : wps rm K Q c_M_tellMiddle_5 kc ks loc (.int x :: st) h = wps rm K Q c_M_tellMiddle_7 kc ks (eg_set1 loc 5 (.int x)) (st) h := rfl
theorem s_M_tellMiddle_7 {x : Nat} {l : eg_Lo} : wps rm K Q c_M_tellMiddle_7 kc ks (some (.ref x) :: l) (st) h = wps rm K Q c_M_tellMiddle_8 kc ks (some (.ref x) :: l) (.ref x :: st) h := rfl
theorem s_M_tellMiddle_8 {x : Nat} : wps rm K Q c_M_tellMiddle_8 kc ks loc (.ref (x + 1) :: st) h = eg_gf h x 12 1 (fun v => wps rm K Q c_M_tellMiddle_11 kc ks loc (v :: st) h) := rfl
theorem s_M_tellMiddle_11 {x : Int32} {l0 : Option Value} {l : eg_Lo} : wps rm K Q c_M_tellMiddle_11 kc ks (l0 :: some (.int x) :: l) (st) h = wps rm K Q c_M_tellMiddle_12 kc ks (l0 :: some (.int x) :: l) (.int x :: st) h := rfl
theorem s_M_tellMiddle_12 {x : Int32} {l0 l1 l2 : Option Value} {l : eg_Lo} : wps rm K Q c_M_tellMiddle_12 kc ks (l0 :: l1 :: l2 :: some (.int x) :: l) (st) h = wps rm K Q c_M_tellMiddle_13 kc ks (l0 :: l1 :: l2 :: some (.int x) :: l) (.int x :: st) h := rfl
theorem s_M_tellMiddle_13  {a1 : Value} {a2 : Value} : wps rm K Q c_M_tellMiddle_13 kc ks loc (a2 :: a1 :: st) h = (st.length ≤ 4 ∧ eg_Cs n_M_at_II [a1, a2] h (fun v h9 => wps rm K Q c_M_tellMiddle_16 kc ks loc (v.toList ++ st) h9)) := eg_c0_2
theorem s_M_tellMiddle_16 {x : Nat} {i : Int32} : wps rm K Q c_M_tellMiddle_16 kc ks loc (.int i :: .ref (x + 1) :: st) h = eg_ia h x i (fun v => wps rm K Q c_M_tellMiddle_17 kc ks loc (.int v :: st) h) := rfl
theorem s_M_tellMiddle_17 {x : Nat} {l : eg_Lo} : wps rm K Q c_M_tellMiddle_17 kc ks (some (.ref x) :: l) (st) h = wps rm K Q c_M_tellMiddle_18 kc ks (some (.ref x) :: l) (.ref x :: st) h := rfl
theorem s_M_tellMiddle_18 {x : Nat} : wps rm K Q c_M_tellMiddle_18 kc ks loc (.ref (x + 1) :: st) h = eg_gf h x 12 1 (fun v => wps rm K Q c_M_tellMiddle_21 kc ks loc (v :: st) h) := rfl
theorem s_M_tellMiddle_21 {x : Int32} {l0 l1 l2 l3 l4 : Option Value} {l : eg_Lo} : wps rm K Q c_M_tellMiddle_21 kc ks (l0 :: l1 :: l2 :: l3 :: l4 :: some (.int x) :: l) (st) h = wps rm K Q c_M_tellMiddle_23 kc ks (l0 :: l1 :: l2 :: l3 :: l4 :: some (.int x) :: l) (.int x :: st) h := rfl
theorem s_M_tellMiddle_23 {x : Nat} {i : Int32} : wps rm K Q c_M_tellMiddle_23 kc ks loc (.int i :: .ref (x + 1) :: st) h = eg_ia h x i (fun v => wps rm K Q c_M_tellMiddle_24 kc ks loc (.int v :: st) h) := rfl
theorem s_M_tellMiddle_24 {x y : Int32} : wps rm K Q c_M_tellMiddle_24 kc ks loc (.int y :: .int x :: st) h = wps rm K Q c_M_tellMiddle_25 kc ks loc (.int (x - y) :: st) h := rfl
theorem s_M_tellMiddle_25 {x : Int32} : wps rm K Q c_M_tellMiddle_25 kc ks loc (.int x :: st) h = wps rm K Q c_M_tellMiddle_26 kc ks loc (.long (x.toInt64) :: st) h := rfl
theorem s_M_tellMiddle_26 {x : Int64} : wps rm K Q c_M_tellMiddle_26 kc ks loc (.long x :: st) h = wps rm K Q c_M_tellMiddle_28 kc ks (eg_set2 loc 6 (.long x)) (st) h := rfl
theorem s_M_tellMiddle_28 {x : Nat} {l : eg_Lo} : wps rm K Q c_M_tellMiddle_28 kc ks (some (.ref x) :: l) (st) h = wps rm K Q c_M_tellMiddle_29 kc ks (some (.ref x) :: l) (.ref x :: st) h := rfl
theorem s_M_tellMiddle_29 {x : Nat} : wps rm K Q c_M_tellMiddle_29 kc ks loc (.ref (x + 1) :: st) h = eg_gf h x 12 2 (fun v => wps rm K Q c_M_tellMiddle_32 kc ks loc (v :: st) h) := rfl
theorem s_M_tellMiddle_32 {x : Int32} {l0 : Option Value} {l : eg_Lo} : wps rm K Q c_M_tellMiddle_32 kc ks (l0 :: some (.int x) :: l) (st) h = wps rm K Q c_M_tellMiddle_33 kc ks (l0 :: some (.int x) :: l) (.int x :: st) h := rfl
theorem s_M_tellMiddle_33 {x : Int32} {l0 l1 l2 : Option Value} {l : eg_Lo} : wps rm K Q c_M_tellMiddle_33 kc ks (l0 :: l1 :: l2 :: some (.int x) :: l) (st) h = wps rm K Q c_M_tellMiddle_34 kc ks (l0 :: l1 :: l2 :: some (.int x) :: l) (.int x :: st) h := rfl
theorem s_M_tellMiddle_34  {a1 : Value} {a2 : Value} : wps rm K Q c_M_tellMiddle_34 kc ks loc (a2 :: a1 :: st) h = (st.length ≤ 4 ∧ eg_Cs n_M_at_II [a1, a2] h (fun v h9 => wps rm K Q c_M_tellMiddle_37 kc ks loc (v.toList ++ st) h9)) := eg_c0_2
theorem s_M_tellMiddle_37 {x : Nat} {i : Int32} : wps rm K Q c_M_tellMiddle_37 kc ks loc (.int i :: .ref (x + 1) :: st) h = eg_ia h x i (fun v => wps rm K Q c_M_tellMiddle_38 kc ks loc (.int v :: st) h) := rfl
theorem s_M_tellMiddle_38 {x : Nat} {l : eg_Lo} : wps rm K Q c_M_tellMiddle_38 kc ks (some (.ref x) :: l) (st) h = wps rm K Q c_M_tellMiddle_39 kc ks (some (.ref x) :: l) (.ref x :: st) h := rfl
theorem s_M_tellMiddle_39 {x : Nat} : wps rm K Q c_M_tellMiddle_39 kc ks loc (.ref (x + 1) :: st) h = eg_gf h x 12 2 (fun v => wps rm K Q c_M_tellMiddle_42 kc ks loc (v :: st) h) := rfl
theorem s_M_tellMiddle_42 {x : Int32} {l0 l1 l2 l3 l4 : Option Value} {l : eg_Lo} : wps rm K Q c_M_tellMiddle_42 kc ks (l0 :: l1 :: l2 :: l3 :: l4 :: some (.int x) :: l) (st) h = wps rm K Q c_M_tellMiddle_44 kc ks (l0 :: l1 :: l2 :: l3 :: l4 :: some (.int x) :: l) (.int x :: st) h := rfl
theorem s_M_tellMiddle_44 {x : Nat} {i : Int32} : wps rm K Q c_M_tellMiddle_44 kc ks loc (.int i :: .ref (x + 1) :: st) h = eg_ia h x i (fun v => wps rm K Q c_M_tellMiddle_45 kc ks loc (.int v :: st) h) := rfl
theorem s_M_tellMiddle_45 {x y : Int32} : wps rm K Q c_M_tellMiddle_45 kc ks loc (.int y :: .int x :: st) h = wps rm K Q c_M_tellMiddle_46 kc ks loc (.int (x - y) :: st) h := rfl
theorem s_M_tellMiddle_46 {x : Int32} : wps rm K Q c_M_tellMiddle_46 kc ks loc (.int x :: st) h = wps rm K Q c_M_tellMiddle_47 kc ks loc (.long (x.toInt64) :: st) h := rfl
theorem s_M_tellMiddle_47 {x : Int64} : wps rm K Q c_M_tellMiddle_47 kc ks loc (.long x :: st) h = wps rm K Q c_M_tellMiddle_49 kc ks (eg_set2 loc 8 (.long x)) (st) h := rfl
theorem s_M_tellMiddle_49 {x : Nat} {l : eg_Lo} : wps rm K Q c_M_tellMiddle_49 kc ks (some (.ref x) :: l) (st) h = wps rm K Q c_M_tellMiddle_50 kc ks (some (.ref x) :: l) (.ref x :: st) h := rfl
theorem s_M_tellMiddle_50 {x : Nat} : wps rm K Q c_M_tellMiddle_50 kc ks loc (.ref (x + 1) :: st) h = eg_gf h x 12 1 (fun v => wps rm K Q c_M_tellMiddle_53 kc ks loc (v :: st) h) := rfl
theorem s_M_tellMiddle_53 {x : Int32} {l0 : Option Value} {l : eg_Lo} : wps rm K Q c_M_tellMiddle_53 kc ks (l0 :: some (.int x) :: l) (st) h = wps rm K Q c_M_tellMiddle_54 kc ks (l0 :: some (.int x) :: l) (.int x :: st) h := rfl
theorem s_M_tellMiddle_54 {x : Int32} {l0 l1 l2 l3 : Option Value} {l : eg_Lo} : wps rm K Q c_M_tellMiddle_54 kc ks (l0 :: l1 :: l2 :: l3 :: some (.int x) :: l) (st) h = wps rm K Q c_M_tellMiddle_56 kc ks (l0 :: l1 :: l2 :: l3 :: some (.int x) :: l) (.int x :: st) h := rfl
theorem s_M_tellMiddle_56  {a1 : Value} {a2 : Value} : wps rm K Q c_M_tellMiddle_56 kc ks loc (a2 :: a1 :: st) h = (st.length ≤ 4 ∧ eg_Cs n_M_at_II [a1, a2] h (fun v h9 => wps rm K Q c_M_tellMiddle_59 kc ks loc (v.toList ++ st) h9)) := eg_c0_2
theorem s_M_tellMiddle_59 {x : Nat} {i : Int32} : wps rm K Q c_M_tellMiddle_59 kc ks loc (.int i :: .ref (x + 1) :: st) h = eg_ia h x i (fun v => wps rm K Q c_M_tellMiddle_60 kc ks loc (.int v :: st) h) := rfl
theorem s_M_tellMiddle_60 {x : Nat} {l : eg_Lo} : wps rm K Q c_M_tellMiddle_60 kc ks (some (.ref x) :: l) (st) h = wps rm K Q c_M_tellMiddle_61 kc ks (some (.ref x) :: l) (.ref x :: st) h := rfl
theorem s_M_tellMiddle_61 {x : Nat} : wps rm K Q c_M_tellMiddle_61 kc ks loc (.ref (x + 1) :: st) h = eg_gf h x 12 1 (fun v => wps rm K Q c_M_tellMiddle_64 kc ks loc (v :: st) h) := rfl
theorem s_M_tellMiddle_64 {x : Int32} {l0 l1 l2 l3 l4 : Option Value} {l : eg_Lo} : wps rm K Q c_M_tellMiddle_64 kc ks (l0 :: l1 :: l2 :: l3 :: l4 :: some (.int x) :: l) (st) h = wps rm K Q c_M_tellMiddle_66 kc ks (l0 :: l1 :: l2 :: l3 :: l4 :: some (.int x) :: l) (.int x :: st) h := rfl
theorem s_M_tellMiddle_66 {x : Nat} {i : Int32} : wps rm K Q c_M_tellMiddle_66 kc ks loc (.int i :: .ref (x + 1) :: st) h = eg_ia h x i (fun v => wps rm K Q c_M_tellMiddle_67 kc ks loc (.int v :: st) h) := rfl
theorem s_M_tellMiddle_67 {x y : Int32} : wps rm K Q c_M_tellMiddle_67 kc ks loc (.int y :: .int x :: st) h = wps rm K Q c_M_tellMiddle_68 kc ks loc (.int (x - y) :: st) h := rfl
theorem s_M_tellMiddle_68 {x : Int32} : wps rm K Q c_M_tellMiddle_68 kc ks loc (.int x :: st) h = wps rm K Q c_M_tellMiddle_69 kc ks loc (.long (x.toInt64) :: st) h := rfl
theorem s_M_tellMiddle_69 {x : Int64} : wps rm K Q c_M_tellMiddle_69 kc ks loc (.long x :: st) h = wps rm K Q c_M_tellMiddle_71 kc ks (eg_set2 loc 10 (.long x)) (st) h := rfl
theorem s_M_tellMiddle_71 {x : Nat} {l : eg_Lo} : wps rm K Q c_M_tellMiddle_71 kc ks (some (.ref x) :: l) (st) h = wps rm K Q c_M_tellMiddle_72 kc ks (some (.ref x) :: l) (.ref x :: st) h := rfl
theorem s_M_tellMiddle_72 {x : Nat} : wps rm K Q c_M_tellMiddle_72 kc ks loc (.ref (x + 1) :: st) h = eg_gf h x 12 2 (fun v => wps rm K Q c_M_tellMiddle_75 kc ks loc (v :: st) h) := rfl
theorem s_M_tellMiddle_75 {x : Int32} {l0 : Option Value} {l : eg_Lo} : wps rm K Q c_M_tellMiddle_75 kc ks (l0 :: some (.int x) :: l) (st) h = wps rm K Q c_M_tellMiddle_76 kc ks (l0 :: some (.int x) :: l) (.int x :: st) h := rfl
theorem s_M_tellMiddle_76 {x : Int32} {l0 l1 l2 l3 : Option Value} {l : eg_Lo} : wps rm K Q c_M_tellMiddle_76 kc ks (l0 :: l1 :: l2 :: l3 :: some (.int x) :: l) (st) h = wps rm K Q c_M_tellMiddle_78 kc ks (l0 :: l1 :: l2 :: l3 :: some (.int x) :: l) (.int x :: st) h := rfl
theorem s_M_tellMiddle_78  {a1 : Value} {a2 : Value} : wps rm K Q c_M_tellMiddle_78 kc ks loc (a2 :: a1 :: st) h = (st.length ≤ 4 ∧ eg_Cs n_M_at_II [a1, a2] h (fun v h9 => wps rm K Q c_M_tellMiddle_81 kc ks loc (v.toList ++ st) h9)) := eg_c0_2
theorem s_M_tellMiddle_81 {x : Nat} {i : Int32} : wps rm K Q c_M_tellMiddle_81 kc ks loc (.int i :: .ref (x + 1) :: st) h = eg_ia h x i (fun v => wps rm K Q c_M_tellMiddle_82 kc ks loc (.int v :: st) h) := rfl
theorem s_M_tellMiddle_82 {x : Nat} {l : eg_Lo} : wps rm K Q c_M_tellMiddle_82 kc ks (some (.ref x) :: l) (st) h = wps rm K Q c_M_tellMiddle_83 kc ks (some (.ref x) :: l) (.ref x :: st) h := rfl
theorem s_M_tellMiddle_83 {x : Nat} : wps rm K Q c_M_tellMiddle_83 kc ks loc (.ref (x + 1) :: st) h = eg_gf h x 12 2 (fun v => wps rm K Q c_M_tellMiddle_86 kc ks loc (v :: st) h) := rfl
theorem s_M_tellMiddle_86 {x : Int32} {l0 l1 l2 l3 l4 : Option Value} {l : eg_Lo} : wps rm K Q c_M_tellMiddle_86 kc ks (l0 :: l1 :: l2 :: l3 :: l4 :: some (.int x) :: l) (st) h = wps rm K Q c_M_tellMiddle_88 kc ks (l0 :: l1 :: l2 :: l3 :: l4 :: some (.int x) :: l) (.int x :: st) h := rfl
theorem s_M_tellMiddle_88 {x : Nat} {i : Int32} : wps rm K Q c_M_tellMiddle_88 kc ks loc (.int i :: .ref (x + 1) :: st) h = eg_ia h x i (fun v => wps rm K Q c_M_tellMiddle_89 kc ks loc (.int v :: st) h) := rfl
theorem s_M_tellMiddle_89 {x y : Int32} : wps rm K Q c_M_tellMiddle_89 kc ks loc (.int y :: .int x :: st) h = wps rm K Q c_M_tellMiddle_90 kc ks loc (.int (x - y) :: st) h := rfl
theorem s_M_tellMiddle_90 {x : Int32} : wps rm K Q c_M_tellMiddle_90 kc ks loc (.int x :: st) h = wps rm K Q c_M_tellMiddle_91 kc ks loc (.long (x.toInt64) :: st) h := rfl
theorem s_M_tellMiddle_91 {x : Int64} : wps rm K Q c_M_tellMiddle_91 kc ks loc (.long x :: st) h = wps rm K Q c_M_tellMiddle_93 kc ks (eg_set2 loc 12 (.long x)) (st) h := rfl
theorem s_M_tellMiddle_93 {x : Int64} {l0 l1 l2 l3 l4 l5 : Option Value} {l : eg_Lo} : wps rm K Q c_M_tellMiddle_93 kc ks (l0 :: l1 :: l2 :: l3 :: l4 :: l5 :: some (.long x) :: l) (st) h = wps rm K Q c_M_tellMiddle_95 kc ks (l0 :: l1 :: l2 :: l3 :: l4 :: l5 :: some (.long x) :: l) (.long x :: st) h := rfl
theorem s_M_tellMiddle_95 {x : Int64} {l0 l1 l2 l3 l4 l5 : Option Value} {l : eg_Lo} : wps rm K Q c_M_tellMiddle_95 kc ks (l0 :: l1 :: l2 :: l3 :: l4 :: l5 :: some (.long x) :: l) (st) h = wps rm K Q c_M_tellMiddle_97 kc ks (l0 :: l1 :: l2 :: l3 :: l4 :: l5 :: some (.long x) :: l) (.long x :: st) h := rfl
theorem s_M_tellMiddle_97 {x y : Int64} : wps rm K Q c_M_tellMiddle_97 kc ks loc (.long y :: .long x :: st) h = wps rm K Q c_M_tellMiddle_98 kc ks loc (.long (x * y) :: st) h := rfl
theorem s_M_tellMiddle_98 {x : Int64} {l0 l1 l2 l3 l4 l5 l6 l7 : Option Value} {l : eg_Lo} : wps rm K Q c_M_tellMiddle_98 kc ks (l0 :: l1 :: l2 :: l3 :: l4 :: l5 :: l6 :: l7 :: some (.long x) :: l) (st) h = wps rm K Q c_M_tellMiddle_100 kc ks (l0 :: l1 :: l2 :: l3 :: l4 :: l5 :: l6 :: l7 :: some (.long x) :: l) (.long x :: st) h := rfl
theorem s_M_tellMiddle_100 {x : Int64} {l0 l1 l2 l3 l4 l5 l6 l7 : Option Value} {l : eg_Lo} : wps rm K Q c_M_tellMiddle_100 kc ks (l0 :: l1 :: l2 :: l3 :: l4 :: l5 :: l6 :: l7 :: some (.long x) :: l) (st) h = wps rm K Q c_M_tellMiddle_102 kc ks (l0 :: l1 :: l2 :: l3 :: l4 :: l5 :: l6 :: l7 :: some (.long x) :: l) (.long x :: st) h := rfl
theorem s_M_tellMiddle_102 {x y : Int64} : wps rm K Q c_M_tellMiddle_102 kc ks loc (.long y :: .long x :: st) h = wps rm K Q c_M_tellMiddle_103 kc ks loc (.long (x * y) :: st) h := rfl
theorem s_M_tellMiddle_103 {x y : Int64} : wps rm K Q c_M_tellMiddle_103 kc ks loc (.long y :: .long x :: st) h = wps rm K Q c_M_tellMiddle_104 kc ks loc (.long (x + y) :: st) h := rfl
theorem s_M_tellMiddle_104 {x : Int64} : wps rm K Q c_M_tellMiddle_104 kc ks loc (.long x :: st) h = wps rm K Q c_M_tellMiddle_106 kc ks (eg_set2 loc 14 (.long x)) (st) h := rfl
theorem s_M_tellMiddle_106 {x : Int64} {l0 l1 l2 l3 l4 l5 l6 l7 l8 l9 : Option Value} {l : eg_Lo} : wps rm K Q c_M_tellMiddle_106 kc ks (l0 :: l1 :: l2 :: l3 :: l4 :: l5 :: l6 :: l7 :: l8 :: l9 :: some (.long x) :: l) (st) h = wps rm K Q c_M_tellMiddle_108 kc ks (l0 :: l1 :: l2 :: l3 :: l4 :: l5 :: l6 :: l7 :: l8 :: l9 :: some (.long x) :: l) (.long x :: st) h := rfl
theorem s_M_tellMiddle_108 {x : Int64} {l0 l1 l2 l3 l4 l5 l6 l7 l8 l9 : Option Value} {l : eg_Lo} : wps rm K Q c_M_tellMiddle_108 kc ks (l0 :: l1 :: l2 :: l3 :: l4 :: l5 :: l6 :: l7 :: l8 :: l9 :: some (.long x) :: l) (st) h = wps rm K Q c_M_tellMiddle_110 kc ks (l0 :: l1 :: l2 :: l3 :: l4 :: l5 :: l6 :: l7 :: l8 :: l9 :: some (.long x) :: l) (.long x :: st) h := rfl
theorem s_M_tellMiddle_110 {x y : Int64} : wps rm K Q c_M_tellMiddle_110 kc ks loc (.long y :: .long x :: st) h = wps rm K Q c_M_tellMiddle_111 kc ks loc (.long (x * y) :: st) h := rfl
theorem s_M_tellMiddle_111 {x : Int64} {l0 l1 l2 l3 l4 l5 l6 l7 l8 l9 l10 l11 : Option Value} {l : eg_Lo} : wps rm K Q c_M_tellMiddle_111 kc ks (l0 :: l1 :: l2 :: l3 :: l4 :: l5 :: l6 :: l7 :: l8 :: l9 :: l10 :: l11 :: some (.long x) :: l) (st) h = wps rm K Q c_M_tellMiddle_113 kc ks (l0 :: l1 :: l2 :: l3 :: l4 :: l5 :: l6 :: l7 :: l8 :: l9 :: l10 :: l11 :: some (.long x) :: l) (.long x :: st) h := rfl
theorem s_M_tellMiddle_113 {x : Int64} {l0 l1 l2 l3 l4 l5 l6 l7 l8 l9 l10 l11 : Option Value} {l : eg_Lo} : wps rm K Q c_M_tellMiddle_113 kc ks (l0 :: l1 :: l2 :: l3 :: l4 :: l5 :: l6 :: l7 :: l8 :: l9 :: l10 :: l11 :: some (.long x) :: l) (st) h = wps rm K Q c_M_tellMiddle_115 kc ks (l0 :: l1 :: l2 :: l3 :: l4 :: l5 :: l6 :: l7 :: l8 :: l9 :: l10 :: l11 :: some (.long x) :: l) (.long x :: st) h := rfl
theorem s_M_tellMiddle_115 {x y : Int64} : wps rm K Q c_M_tellMiddle_115 kc ks loc (.long y :: .long x :: st) h = wps rm K Q c_M_tellMiddle_116 kc ks loc (.long (x * y) :: st) h := rfl
theorem s_M_tellMiddle_116 {x y : Int64} : wps rm K Q c_M_tellMiddle_116 kc ks loc (.long y :: .long x :: st) h = wps rm K Q c_M_tellMiddle_117 kc ks loc (.long (x + y) :: st) h := rfl
theorem s_M_tellMiddle_117 {x : Int64} : wps rm K Q c_M_tellMiddle_117 kc ks loc (.long x :: st) h = wps rm K Q c_M_tellMiddle_119 kc ks (eg_set2 loc 16 (.long x)) (st) h := rfl
theorem s_M_tellMiddle_119 {x : Nat} {l : eg_Lo} : wps rm K Q c_M_tellMiddle_119 kc ks (some (.ref x) :: l) (st) h = wps rm K Q c_M_tellMiddle_120 kc ks (some (.ref x) :: l) (.ref x :: st) h := rfl
theorem s_M_tellMiddle_120  : wps rm K Q c_M_tellMiddle_120 kc ks loc (st) h = wps rm K Q c_M_tellMiddle_123 kc ks loc (.long (2) :: st) h := rfl
theorem s_M_tellMiddle_123 {x : Int64} {l0 l1 l2 l3 l4 l5 : Option Value} {l : eg_Lo} : wps rm K Q c_M_tellMiddle_123 kc ks (l0 :: l1 :: l2 :: l3 :: l4 :: l5 :: some (.long x) :: l) (st) h = wps rm K Q c_M_tellMiddle_125 kc ks (l0 :: l1 :: l2 :: l3 :: l4 :: l5 :: some (.long x) :: l) (.long x :: st) h := rfl
theorem s_M_tellMiddle_125 {x : Int64} {l0 l1 l2 l3 l4 l5 l6 l7 l8 l9 l10 l11 : Option Value} {l : eg_Lo} : wps rm K Q c_M_tellMiddle_125 kc ks (l0 :: l1 :: l2 :: l3 :: l4 :: l5 :: l6 :: l7 :: l8 :: l9 :: l10 :: l11 :: some (.long x) :: l) (st) h = wps rm K Q c_M_tellMiddle_127 kc ks (l0 :: l1 :: l2 :: l3 :: l4 :: l5 :: l6 :: l7 :: l8 :: l9 :: l10 :: l11 :: some (.long x) :: l) (.long x :: st) h := rfl
theorem s_M_tellMiddle_127 {x y : Int64} : wps rm K Q c_M_tellMiddle_127 kc ks loc (.long y :: .long x :: st) h = wps rm K Q c_M_tellMiddle_128 kc ks loc (.long (x * y) :: st) h := rfl
theorem s_M_tellMiddle_128 {x : Int64} {l0 l1 l2 l3 l4 l5 l6 l7 : Option Value} {l : eg_Lo} : wps rm K Q c_M_tellMiddle_128 kc ks (l0 :: l1 :: l2 :: l3 :: l4 :: l5 :: l6 :: l7 :: some (.long x) :: l) (st) h = wps rm K Q c_M_tellMiddle_130 kc ks (l0 :: l1 :: l2 :: l3 :: l4 :: l5 :: l6 :: l7 :: some (.long x) :: l) (.long x :: st) h := rfl
theorem s_M_tellMiddle_130 {x : Int64} {l0 l1 l2 l3 l4 l5 l6 l7 l8 l9 : Option Value} {l : eg_Lo} : wps rm K Q c_M_tellMiddle_130 kc ks (l0 :: l1 :: l2 :: l3 :: l4 :: l5 :: l6 :: l7 :: l8 :: l9 :: some (.long x) :: l) (st) h = wps rm K Q c_M_tellMiddle_132 kc ks (l0 :: l1 :: l2 :: l3 :: l4 :: l5 :: l6 :: l7 :: l8 :: l9 :: some (.long x) :: l) (.long x :: st) h := rfl
theorem s_M_tellMiddle_132 {x y : Int64} : wps rm K Q c_M_tellMiddle_132 kc ks loc (.long y :: .long x :: st) h = wps rm K Q c_M_tellMiddle_133 kc ks loc (.long (x * y) :: st) h := rfl
theorem s_M_tellMiddle_133 {x y : Int64} : wps rm K Q c_M_tellMiddle_133 kc ks loc (.long y :: .long x :: st) h = wps rm K Q c_M_tellMiddle_134 kc ks loc (.long (x - y) :: st) h := rfl
theorem s_M_tellMiddle_134 {x y : Int64} : wps rm K Q c_M_tellMiddle_134 kc ks loc (.long y :: .long x :: st) h = wps rm K Q c_M_tellMiddle_135 kc ks loc (.long (x * y) :: st) h := rfl
theorem s_M_tellMiddle_135 {x : Nat} {v : Value} : wps rm K Q c_M_tellMiddle_135 kc ks loc (v :: .ref (x + 1) :: st) h = eg_pf h x 12 36 v (fun h9 => wps rm K Q c_M_tellMiddle_138 kc ks loc (st) h9) := rfl
theorem s_M_tellMiddle_138 {x : Nat} {l : eg_Lo} : wps rm K Q c_M_tellMiddle_138 kc ks (some (.ref x) :: l) (st) h = wps rm K Q c_M_tellMiddle_139 kc ks (some (.ref x) :: l) (.ref x :: st) h := rfl
theorem s_M_tellMiddle_139 {x : Int64} {l0 l1 l2 l3 l4 l5 l6 l7 l8 l9 l10 l11 : Option Value} {l : eg_Lo} : wps rm K Q c_M_tellMiddle_139 kc ks (l0 :: l1 :: l2 :: l3 :: l4 :: l5 :: l6 :: l7 :: l8 :: l9 :: l10 :: l11 :: some (.long x) :: l) (st) h = wps rm K Q c_M_tellMiddle_141 kc ks (l0 :: l1 :: l2 :: l3 :: l4 :: l5 :: l6 :: l7 :: l8 :: l9 :: l10 :: l11 :: some (.long x) :: l) (.long x :: st) h := rfl
theorem s_M_tellMiddle_141 {x : Int64} {l0 l1 l2 l3 l4 l5 l6 l7 l8 l9 l10 l11 l12 l13 : Option Value} {l : eg_Lo} : wps rm K Q c_M_tellMiddle_141 kc ks (l0 :: l1 :: l2 :: l3 :: l4 :: l5 :: l6 :: l7 :: l8 :: l9 :: l10 :: l11 :: l12 :: l13 :: some (.long x) :: l) (st) h = wps rm K Q c_M_tellMiddle_143 kc ks (l0 :: l1 :: l2 :: l3 :: l4 :: l5 :: l6 :: l7 :: l8 :: l9 :: l10 :: l11 :: l12 :: l13 :: some (.long x) :: l) (.long x :: st) h := rfl
theorem s_M_tellMiddle_143 {x y : Int64} : wps rm K Q c_M_tellMiddle_143 kc ks loc (.long y :: .long x :: st) h = wps rm K Q c_M_tellMiddle_144 kc ks loc (.long (x * y) :: st) h := rfl
theorem s_M_tellMiddle_144 {x : Int64} {l0 l1 l2 l3 l4 l5 l6 l7 : Option Value} {l : eg_Lo} : wps rm K Q c_M_tellMiddle_144 kc ks (l0 :: l1 :: l2 :: l3 :: l4 :: l5 :: l6 :: l7 :: some (.long x) :: l) (st) h = wps rm K Q c_M_tellMiddle_146 kc ks (l0 :: l1 :: l2 :: l3 :: l4 :: l5 :: l6 :: l7 :: some (.long x) :: l) (.long x :: st) h := rfl
theorem s_M_tellMiddle_146 {x : Int64} {l0 l1 l2 l3 l4 l5 l6 l7 l8 l9 l10 l11 l12 l13 l14 l15 : Option Value} {l : eg_Lo} : wps rm K Q c_M_tellMiddle_146 kc ks (l0 :: l1 :: l2 :: l3 :: l4 :: l5 :: l6 :: l7 :: l8 :: l9 :: l10 :: l11 :: l12 :: l13 :: l14 :: l15 :: some (.long x) :: l) (st) h = wps rm K Q c_M_tellMiddle_148 kc ks (l0 :: l1 :: l2 :: l3 :: l4 :: l5 :: l6 :: l7 :: l8 :: l9 :: l10 :: l11 :: l12 :: l13 :: l14 :: l15 :: some (.long x) :: l) (.long x :: st) h := rfl
theorem s_M_tellMiddle_148 {x y : Int64} : wps rm K Q c_M_tellMiddle_148 kc ks loc (.long y :: .long x :: st) h = wps rm K Q c_M_tellMiddle_149 kc ks loc (.long (x * y) :: st) h := rfl
theorem s_M_tellMiddle_149 {x y : Int64} : wps rm K Q c_M_tellMiddle_149 kc ks loc (.long y :: .long x :: st) h = wps rm K Q c_M_tellMiddle_150 kc ks loc (.long (x - y) :: st) h := rfl
theorem s_M_tellMiddle_150 {x : Nat} {v : Value} : wps rm K Q c_M_tellMiddle_150 kc ks loc (v :: .ref (x + 1) :: st) h = eg_pf h x 12 34 v (fun h9 => wps rm K Q c_M_tellMiddle_153 kc ks loc (st) h9) := rfl
theorem s_M_tellMiddle_153 {x : Nat} {l : eg_Lo} : wps rm K Q c_M_tellMiddle_153 kc ks (some (.ref x) :: l) (st) h = wps rm K Q c_M_tellMiddle_154 kc ks (some (.ref x) :: l) (.ref x :: st) h := rfl
theorem s_M_tellMiddle_154 {x : Int64} {l0 l1 l2 l3 l4 l5 : Option Value} {l : eg_Lo} : wps rm K Q c_M_tellMiddle_154 kc ks (l0 :: l1 :: l2 :: l3 :: l4 :: l5 :: some (.long x) :: l) (st) h = wps rm K Q c_M_tellMiddle_156 kc ks (l0 :: l1 :: l2 :: l3 :: l4 :: l5 :: some (.long x) :: l) (.long x :: st) h := rfl
theorem s_M_tellMiddle_156 {x : Int64} {l0 l1 l2 l3 l4 l5 l6 l7 l8 l9 l10 l11 l12 l13 l14 l15 : Option Value} {l : eg_Lo} : wps rm K Q c_M_tellMiddle_156 kc ks (l0 :: l1 :: l2 :: l3 :: l4 :: l5 :: l6 :: l7 :: l8 :: l9 :: l10 :: l11 :: l12 :: l13 :: l14 :: l15 :: some (.long x) :: l) (st) h = wps rm K Q c_M_tellMiddle_158 kc ks (l0 :: l1 :: l2 :: l3 :: l4 :: l5 :: l6 :: l7 :: l8 :: l9 :: l10 :: l11 :: l12 :: l13 :: l14 :: l15 :: some (.long x) :: l) (.long x :: st) h := rfl
theorem s_M_tellMiddle_158 {x y : Int64} : wps rm K Q c_M_tellMiddle_158 kc ks loc (.long y :: .long x :: st) h = wps rm K Q c_M_tellMiddle_159 kc ks loc (.long (x * y) :: st) h := rfl
theorem s_M_tellMiddle_159 {x : Int64} {l0 l1 l2 l3 l4 l5 l6 l7 l8 l9 : Option Value} {l : eg_Lo} : wps rm K Q c_M_tellMiddle_159 kc ks (l0 :: l1 :: l2 :: l3 :: l4 :: l5 :: l6 :: l7 :: l8 :: l9 :: some (.long x) :: l) (st) h = wps rm K Q c_M_tellMiddle_161 kc ks (l0 :: l1 :: l2 :: l3 :: l4 :: l5 :: l6 :: l7 :: l8 :: l9 :: some (.long x) :: l) (.long x :: st) h := rfl
theorem s_M_tellMiddle_161 {x : Int64} {l0 l1 l2 l3 l4 l5 l6 l7 l8 l9 l10 l11 l12 l13 : Option Value} {l : eg_Lo} : wps rm K Q c_M_tellMiddle_161 kc ks (l0 :: l1 :: l2 :: l3 :: l4 :: l5 :: l6 :: l7 :: l8 :: l9 :: l10 :: l11 :: l12 :: l13 :: some (.long x) :: l) (st) h = wps rm K Q c_M_tellMiddle_163 kc ks (l0 :: l1 :: l2 :: l3 :: l4 :: l5 :: l6 :: l7 :: l8 :: l9 :: l10 :: l11 :: l12 :: l13 :: some (.long x) :: l) (.long x :: st) h := rfl
theorem s_M_tellMiddle_163 {x y : Int64} : wps rm K Q c_M_tellMiddle_163 kc ks loc (.long y :: .long x :: st) h = wps rm K Q c_M_tellMiddle_164 kc ks loc (.long (x * y) :: st) h := rfl
theorem s_M_tellMiddle_164 {x y : Int64} : wps rm K Q c_M_tellMiddle_164 kc ks loc (.long y :: .long x :: st) h = wps rm K Q c_M_tellMiddle_165 kc ks loc (.long (x - y) :: st) h := rfl
theorem s_M_tellMiddle_165 {x : Nat} {v : Value} : wps rm K Q c_M_tellMiddle_165 kc ks loc (v :: .ref (x + 1) :: st) h = eg_pf h x 12 35 v (fun h9 => wps rm K Q c_M_tellMiddle_168 kc ks loc (st) h9) := rfl
theorem s_M_tellMiddle_168 {x : Nat} {l : eg_Lo} : wps rm K Q c_M_tellMiddle_168 kc ks (some (.ref x) :: l) (st) h = wps rm K Q c_M_tellMiddle_169 kc ks (some (.ref x) :: l) (.ref x :: st) h := rfl
theorem s_M_tellMiddle_169 {x : Nat} : wps rm K Q c_M_tellMiddle_169 kc ks loc (.ref (x + 1) :: st) h = eg_gf h x 12 36 (fun v => wps rm K Q c_M_tellMiddle_172 kc ks loc (v :: st) h) := rfl
theorem s_M_tellMiddle_172  : wps rm K Q c_M_tellMiddle_172 kc ks loc (st) h = wps rm K Q c_M_tellMiddle_173 kc ks loc (.long (0) :: st) h := rfl
theorem s_M_tellMiddle_173 {x y : Int64} : wps rm K Q c_M_tellMiddle_173 kc ks loc (.long y :: .long x :: st) h = wps rm K Q c_M_tellMiddle_174 kc ks loc (.int (lg_cmp x y) :: st) h := rfl
theorem s_M_tellMiddle_174 {x : Int32} : wps rm K Q c_M_tellMiddle_174 kc ks loc (.int x :: st) h = ((0 ≤ x → K 204 kc ks loc st h) ∧ (¬ 0 ≤ x → wps rm K Q c_M_tellMiddle_177 kc ks loc (st) h)) := rfl
theorem s_M_tellMiddle_177 {x : Nat} {l : eg_Lo} : wps rm K Q c_M_tellMiddle_177 kc ks (some (.ref x) :: l) (st) h = wps rm K Q c_M_tellMiddle_178 kc ks (some (.ref x) :: l) (.ref x :: st) h := rfl
theorem s_M_tellMiddle_178 {x : Nat} {l : eg_Lo} : wps rm K Q c_M_tellMiddle_178 kc ks (some (.ref x) :: l) (st) h = wps rm K Q c_M_tellMiddle_179 kc ks (some (.ref x) :: l) (.ref x :: st) h := rfl
theorem s_M_tellMiddle_179 {x : Nat} : wps rm K Q c_M_tellMiddle_179 kc ks loc (.ref (x + 1) :: st) h = eg_gf h x 12 36 (fun v => wps rm K Q c_M_tellMiddle_182 kc ks loc (v :: st) h) := rfl
theorem s_M_tellMiddle_182 {x : Int64} : wps rm K Q c_M_tellMiddle_182 kc ks loc (.long x :: st) h = wps rm K Q c_M_tellMiddle_183 kc ks loc (.long (-x) :: st) h := rfl
theorem s_M_tellMiddle_183 {x : Nat} {v : Value} : wps rm K Q c_M_tellMiddle_183 kc ks loc (v :: .ref (x + 1) :: st) h = eg_pf h x 12 36 v (fun h9 => wps rm K Q c_M_tellMiddle_186 kc ks loc (st) h9) := rfl
theorem s_M_tellMiddle_186 {x : Nat} {l : eg_Lo} : wps rm K Q c_M_tellMiddle_186 kc ks (some (.ref x) :: l) (st) h = wps rm K Q c_M_tellMiddle_187 kc ks (some (.ref x) :: l) (.ref x :: st) h := rfl
theorem s_M_tellMiddle_187 {x : Nat} {l : eg_Lo} : wps rm K Q c_M_tellMiddle_187 kc ks (some (.ref x) :: l) (st) h = wps rm K Q c_M_tellMiddle_188 kc ks (some (.ref x) :: l) (.ref x :: st) h := rfl
theorem s_M_tellMiddle_188 {x : Nat} : wps rm K Q c_M_tellMiddle_188 kc ks loc (.ref (x + 1) :: st) h = eg_gf h x 12 34 (fun v => wps rm K Q c_M_tellMiddle_191 kc ks loc (v :: st) h) := rfl
theorem s_M_tellMiddle_191 {x : Int64} : wps rm K Q c_M_tellMiddle_191 kc ks loc (.long x :: st) h = wps rm K Q c_M_tellMiddle_192 kc ks loc (.long (-x) :: st) h := rfl
theorem s_M_tellMiddle_192 {x : Nat} {v : Value} : wps rm K Q c_M_tellMiddle_192 kc ks loc (v :: .ref (x + 1) :: st) h = eg_pf h x 12 34 v (fun h9 => wps rm K Q c_M_tellMiddle_195 kc ks loc (st) h9) := rfl
theorem s_M_tellMiddle_195 {x : Nat} {l : eg_Lo} : wps rm K Q c_M_tellMiddle_195 kc ks (some (.ref x) :: l) (st) h = wps rm K Q c_M_tellMiddle_196 kc ks (some (.ref x) :: l) (.ref x :: st) h := rfl
theorem s_M_tellMiddle_196 {x : Nat} {l : eg_Lo} : wps rm K Q c_M_tellMiddle_196 kc ks (some (.ref x) :: l) (st) h = wps rm K Q c_M_tellMiddle_197 kc ks (some (.ref x) :: l) (.ref x :: st) h := rfl
theorem s_M_tellMiddle_197 {x : Nat} : wps rm K Q c_M_tellMiddle_197 kc ks loc (.ref (x + 1) :: st) h = eg_gf h x 12 35 (fun v => wps rm K Q c_M_tellMiddle_200 kc ks loc (v :: st) h) := rfl
theorem s_M_tellMiddle_200 {x : Int64} : wps rm K Q c_M_tellMiddle_200 kc ks loc (.long x :: st) h = wps rm K Q c_M_tellMiddle_201 kc ks loc (.long (-x) :: st) h := rfl
theorem s_M_tellMiddle_201 {x : Nat} {v : Value} : wps rm K Q c_M_tellMiddle_201 kc ks loc (v :: .ref (x + 1) :: st) h = eg_pf h x 12 35 v (fun h9 => wps rm K Q c_M_tellMiddle_204 kc ks loc (st) h9) := rfl
theorem s_M_tellMiddle_204  : wps rm K Q c_M_tellMiddle_204 kc ks loc ([]) h = (kc = rm.cells ∧ Q none h) := rfl
def T_M_tellMiddle : List (Nat × List eg_I) := [(204, c_M_tellMiddle_204)]
theorem j_M_tellMiddle_204 {R : Nat → Nat → Nat → eg_Lo → List Value → List eg_E → Prop} {f pc0 : Nat} : eg_run rm R Q T_M_tellMiddle (f + 1) 204 kc ks loc st h = wps rm (eg_run rm R Q T_M_tellMiddle f) Q c_M_tellMiddle_204 kc ks loc st h := rfl
end
theorem q_M_tellMiddle : (T_M_tellMiddle.all fun q => eg_seq m_M_tellMiddle q.1 q.2) = true := by decide +kernel
theorem b_M_tellMiddle {as : List Value} {h : List eg_E} {Q : Option Value → List eg_E → Prop} (hf : (eg_fl as).length ≤ 18) (hw : wps (eg_rm m_M_tellMiddle) (eg_run (eg_rm m_M_tellMiddle) (eg_R m_M_tellMiddle Q (h.length + 0)) Q T_M_tellMiddle 3) Q c_M_tellMiddle_0 0 0 (eg_entry 18 as) [] h) : eg_Runs n_M_tellMiddle as h Q := eg_begin (d := m_M_tellMiddle) rfl (by decide) (by decide +kernel) q_M_tellMiddle hf hw
/-! ===== M_outside ===== -/
def c_M_outside_84 : List eg_I := .inl (84, 1, .lreturn, 0, 0) :: []
def c_M_outside_83 : List eg_I := .inl (83, 1, .lsub, 0, 0) :: c_M_outside_84
def c_M_outside_82 : List eg_I := .inl (82, 1, .lmul, 0, 0) :: c_M_outside_83
def c_M_outside_81 : List eg_I := .inl (81, 1, .ladd, 0, 0) :: c_M_outside_82
def c_M_outside_80 : List eg_I := .inl (80, 1, .lmul, 0, 0) :: c_M_outside_81
def c_M_outside_77 : List eg_I := .inl (77, 3, .getfield 224, 12, 35) :: c_M_outside_80
def c_M_outside_76 : List eg_I := .inl (76, 1, .aload 0, 0, 0) :: c_M_outside_77
def c_M_outside_74 : List eg_I := .inl (74, 2, .lload 6, 0, 0) :: c_M_outside_76
def c_M_outside_73 : List eg_I := .inl (73, 1, .lmul, 0, 0) :: c_M_outside_74
def c_M_outside_70 : List eg_I := .inl (70, 3, .getfield 221, 12, 34) :: c_M_outside_73
def c_M_outside_69 : List eg_I := .inl (69, 1, .aload 0, 0, 0) :: c_M_outside_70
def c_M_outside_67 : List eg_I := .inl (67, 2, .lload 4, 0, 0) :: c_M_outside_69
def c_M_outside_64 : List eg_I := .inl (64, 3, .sipush (2), 216, 0) :: c_M_outside_67
def c_M_outside_63 : List eg_I := .inl (63, 1, .lmul, 0, 0) :: c_M_outside_64
def c_M_outside_60 : List eg_I := .inl (60, 3, .getfield 218, 12, 36) :: c_M_outside_63
def c_M_outside_59 : List eg_I := .inl (59, 1, .aload 0, 0, 0) :: c_M_outside_60
def c_M_outside_58 : List eg_I := .inl (58, 1, .ladd, 0, 0) :: c_M_outside_59
def c_M_outside_57 : List eg_I := .inl (57, 1, .lmul, 0, 0) :: c_M_outside_58
def c_M_outside_55 : List eg_I := .inl (55, 2, .lload 6, 0, 0) :: c_M_outside_57
def c_M_outside_53 : List eg_I := .inl (53, 2, .lload 6, 0, 0) :: c_M_outside_55
def c_M_outside_52 : List eg_I := .inl (52, 1, .lmul, 0, 0) :: c_M_outside_53
def c_M_outside_50 : List eg_I := .inl (50, 2, .lload 4, 0, 0) :: c_M_outside_52
def c_M_outside_48 : List eg_I := .inl (48, 2, .lload 4, 0, 0) :: c_M_outside_50
def c_M_outside_46 : List eg_I := .inl (46, 2, .lstore 6, 0, 0) :: c_M_outside_48
def c_M_outside_45 : List eg_I := .inl (45, 1, .i2l, 0, 0) :: c_M_outside_46
def c_M_outside_44 : List eg_I := .inl (44, 1, .isub, 0, 0) :: c_M_outside_45
def c_M_outside_43 : List eg_I := .inl (43, 1, .iaload, 0, 0) :: c_M_outside_44
def c_M_outside_40 : List eg_I := .inr (40, 0, 103, n_M_at_II, 2, 12, 0, 0) :: c_M_outside_43
def c_M_outside_39 : List eg_I := .inl (39, 1, .iload 2, 0, 0) :: c_M_outside_40
def c_M_outside_38 : List eg_I := .inl (38, 1, .iload 1, 0, 0) :: c_M_outside_39
def c_M_outside_35 : List eg_I := .inl (35, 3, .getfield 16, 12, 2) :: c_M_outside_38
def c_M_outside_34 : List eg_I := .inl (34, 1, .aload 0, 0, 0) :: c_M_outside_35
def c_M_outside_33 : List eg_I := .inl (33, 1, .iaload, 0, 0) :: c_M_outside_34
def c_M_outside_30 : List eg_I := .inr (30, 0, 103, n_M_at_II, 2, 12, 0, 0) :: c_M_outside_33
def c_M_outside_29 : List eg_I := .inl (29, 1, .iload 3, 0, 0) :: c_M_outside_30
def c_M_outside_28 : List eg_I := .inl (28, 1, .iload 1, 0, 0) :: c_M_outside_29
def c_M_outside_25 : List eg_I := .inl (25, 3, .getfield 16, 12, 2) :: c_M_outside_28
def c_M_outside_24 : List eg_I := .inl (24, 1, .aload 0, 0, 0) :: c_M_outside_25
def c_M_outside_22 : List eg_I := .inl (22, 2, .lstore 4, 0, 0) :: c_M_outside_24
def c_M_outside_21 : List eg_I := .inl (21, 1, .i2l, 0, 0) :: c_M_outside_22
def c_M_outside_20 : List eg_I := .inl (20, 1, .isub, 0, 0) :: c_M_outside_21
def c_M_outside_19 : List eg_I := .inl (19, 1, .iaload, 0, 0) :: c_M_outside_20
def c_M_outside_16 : List eg_I := .inr (16, 0, 103, n_M_at_II, 2, 12, 0, 0) :: c_M_outside_19
def c_M_outside_15 : List eg_I := .inl (15, 1, .iload 2, 0, 0) :: c_M_outside_16
def c_M_outside_14 : List eg_I := .inl (14, 1, .iload 1, 0, 0) :: c_M_outside_15
def c_M_outside_11 : List eg_I := .inl (11, 3, .getfield 13, 12, 1) :: c_M_outside_14
def c_M_outside_10 : List eg_I := .inl (10, 1, .aload 0, 0, 0) :: c_M_outside_11
def c_M_outside_9 : List eg_I := .inl (9, 1, .iaload, 0, 0) :: c_M_outside_10
def c_M_outside_6 : List eg_I := .inr (6, 0, 103, n_M_at_II, 2, 12, 0, 0) :: c_M_outside_9
def c_M_outside_5 : List eg_I := .inl (5, 1, .iload 3, 0, 0) :: c_M_outside_6
def c_M_outside_4 : List eg_I := .inl (4, 1, .iload 1, 0, 0) :: c_M_outside_5
def c_M_outside_1 : List eg_I := .inl (1, 3, .getfield 13, 12, 1) :: c_M_outside_4
def c_M_outside_0 : List eg_I := .inl (0, 1, .aload 0, 0, 0) :: c_M_outside_1
section
variable {rm : Room} {K : Nat → Nat → Nat → eg_Lo → List Value → List eg_E → Prop} {Q : Option Value → List eg_E → Prop} {kc ks : Nat} {loc : eg_Lo} {st : List Value} {h : List eg_E}
theorem s_M_outside_0 {x : Nat} {l : eg_Lo} : wps rm K Q c_M_outside_0 kc ks (some (.ref x) :: l) (st) h = wps rm K Q c_M_outside_1 kc ks (some (.ref x) :: l) (.ref x :: st) h := rfl
theorem s_M_outside_1 {x : Nat} : wps rm K Q c_M_outside_1 kc ks loc (.ref (x + 1) :: st) h = eg_gf h x 12 1 (fun v => wps rm K Q c_M_outside_4 kc ks loc (v :: st) h) := rfl
theorem s_M_outside_4 {x : Int32} {l0 : Option Value} {l : eg_Lo} : wps rm K Q c_M_outside_4 kc ks (l0 :: some (.int x) :: l) (st) h = wps rm K Q c_M_outside_5 kc ks (l0 :: some (.int x) :: l) (.int x :: st) h := rfl
theorem s_M_outside_5 {x : Int32} {l0 l1 l2 : Option Value} {l : eg_Lo} : wps rm K Q c_M_outside_5 kc ks (l0 :: l1 :: l2 :: some (.int x) :: l) (st) h = wps rm K Q c_M_outside_6 kc ks (l0 :: l1 :: l2 :: some (.int x) :: l) (.int x :: st) h := rfl
theorem s_M_outside_6  {a1 : Value} {a2 : Value} : wps rm K Q c_M_outside_6 kc ks loc (a2 :: a1 :: st) h = (st.length ≤ 4 ∧ eg_Cs n_M_at_II [a1, a2] h (fun v h9 => wps rm K Q c_M_outside_9 kc ks loc (v.toList ++ st) h9)) := eg_c0_2
theorem s_M_outside_9 {x : Nat} {i : Int32} : wps rm K Q c_M_outside_9 kc ks loc (.int i :: .ref (x + 1) :: st) h = eg_ia h x i (fun v => wps rm K Q c_M_outside_10 kc ks loc (.int v :: st) h) := rfl
theorem s_M_outside_10 {x : Nat} {l : eg_Lo} : wps rm K Q c_M_outside_10 kc ks (some (.ref x) :: l) (st) h = wps rm K Q c_M_outside_11 kc ks (some (.ref x) :: l) (.ref x :: st) h := rfl
theorem s_M_outside_11 {x : Nat} : wps rm K Q c_M_outside_11 kc ks loc (.ref (x + 1) :: st) h = eg_gf h x 12 1 (fun v => wps rm K Q c_M_outside_14 kc ks loc (v :: st) h) := rfl
theorem s_M_outside_14 {x : Int32} {l0 : Option Value} {l : eg_Lo} : wps rm K Q c_M_outside_14 kc ks (l0 :: some (.int x) :: l) (st) h = wps rm K Q c_M_outside_15 kc ks (l0 :: some (.int x) :: l) (.int x :: st) h := rfl
theorem s_M_outside_15 {x : Int32} {l0 l1 : Option Value} {l : eg_Lo} : wps rm K Q c_M_outside_15 kc ks (l0 :: l1 :: some (.int x) :: l) (st) h = wps rm K Q c_M_outside_16 kc ks (l0 :: l1 :: some (.int x) :: l) (.int x :: st) h := rfl
theorem s_M_outside_16  {a1 : Value} {a2 : Value} : wps rm K Q c_M_outside_16 kc ks loc (a2 :: a1 :: st) h = (st.length ≤ 4 ∧ eg_Cs n_M_at_II [a1, a2] h (fun v h9 => wps rm K Q c_M_outside_19 kc ks loc (v.toList ++ st) h9)) := eg_c0_2
theorem s_M_outside_19 {x : Nat} {i : Int32} : wps rm K Q c_M_outside_19 kc ks loc (.int i :: .ref (x + 1) :: st) h = eg_ia h x i (fun v => wps rm K Q c_M_outside_20 kc ks loc (.int v :: st) h) := rfl
theorem s_M_outside_20 {x y : Int32} : wps rm K Q c_M_outside_20 kc ks loc (.int y :: .int x :: st) h = wps rm K Q c_M_outside_21 kc ks loc (.int (x - y) :: st) h := rfl
theorem s_M_outside_21 {x : Int32} : wps rm K Q c_M_outside_21 kc ks loc (.int x :: st) h = wps rm K Q c_M_outside_22 kc ks loc (.long (x.toInt64) :: st) h := rfl
theorem s_M_outside_22 {x : Int64} : wps rm K Q c_M_outside_22 kc ks loc (.long x :: st) h = wps rm K Q c_M_outside_24 kc ks (eg_set2 loc 4 (.long x)) (st) h := rfl
theorem s_M_outside_24 {x : Nat} {l : eg_Lo} : wps rm K Q c_M_outside_24 kc ks (some (.ref x) :: l) (st) h = wps rm K Q c_M_outside_25 kc ks (some (.ref x) :: l) (.ref x :: st) h := rfl
theorem s_M_outside_25 {x : Nat} : wps rm K Q c_M_outside_25 kc ks loc (.ref (x + 1) :: st) h = eg_gf h x 12 2 (fun v => wps rm K Q c_M_outside_28 kc ks loc (v :: st) h) := rfl
theorem s_M_outside_28 {x : Int32} {l0 : Option Value} {l : eg_Lo} : wps rm K Q c_M_outside_28 kc ks (l0 :: some (.int x) :: l) (st) h = wps rm K Q c_M_outside_29 kc ks (l0 :: some (.int x) :: l) (.int x :: st) h := rfl
theorem s_M_outside_29 {x : Int32} {l0 l1 l2 : Option Value} {l : eg_Lo} : wps rm K Q c_M_outside_29 kc ks (l0 :: l1 :: l2 :: some (.int x) :: l) (st) h = wps rm K Q c_M_outside_30 kc ks (l0 :: l1 :: l2 :: some (.int x) :: l) (.int x :: st) h := rfl
theorem s_M_outside_30  {a1 : Value} {a2 : Value} : wps rm K Q c_M_outside_30 kc ks loc (a2 :: a1 :: st) h = (st.length ≤ 4 ∧ eg_Cs n_M_at_II [a1, a2] h (fun v h9 => wps rm K Q c_M_outside_33 kc ks loc (v.toList ++ st) h9)) := eg_c0_2
theorem s_M_outside_33 {x : Nat} {i : Int32} : wps rm K Q c_M_outside_33 kc ks loc (.int i :: .ref (x + 1) :: st) h = eg_ia h x i (fun v => wps rm K Q c_M_outside_34 kc ks loc (.int v :: st) h) := rfl
theorem s_M_outside_34 {x : Nat} {l : eg_Lo} : wps rm K Q c_M_outside_34 kc ks (some (.ref x) :: l) (st) h = wps rm K Q c_M_outside_35 kc ks (some (.ref x) :: l) (.ref x :: st) h := rfl
theorem s_M_outside_35 {x : Nat} : wps rm K Q c_M_outside_35 kc ks loc (.ref (x + 1) :: st) h = eg_gf h x 12 2 (fun v => wps rm K Q c_M_outside_38 kc ks loc (v :: st) h) := rfl
theorem s_M_outside_38 {x : Int32} {l0 : Option Value} {l : eg_Lo} : wps rm K Q c_M_outside_38 kc ks (l0 :: some (.int x) :: l) (st) h = wps rm K Q c_M_outside_39 kc ks (l0 :: some (.int x) :: l) (.int x :: st) h := rfl
theorem s_M_outside_39 {x : Int32} {l0 l1 : Option Value} {l : eg_Lo} : wps rm K Q c_M_outside_39 kc ks (l0 :: l1 :: some (.int x) :: l) (st) h = wps rm K Q c_M_outside_40 kc ks (l0 :: l1 :: some (.int x) :: l) (.int x :: st) h := rfl
theorem s_M_outside_40  {a1 : Value} {a2 : Value} : wps rm K Q c_M_outside_40 kc ks loc (a2 :: a1 :: st) h = (st.length ≤ 4 ∧ eg_Cs n_M_at_II [a1, a2] h (fun v h9 => wps rm K Q c_M_outside_43 kc ks loc (v.toList ++ st) h9)) := eg_c0_2
theorem s_M_outside_43 {x : Nat} {i : Int32} : wps rm K Q c_M_outside_43 kc ks loc (.int i :: .ref (x + 1) :: st) h = eg_ia h x i (fun v => wps rm K Q c_M_outside_44 kc ks loc (.int v :: st) h) := rfl
theorem s_M_outside_44 {x y : Int32} : wps rm K Q c_M_outside_44 kc ks loc (.int y :: .int x :: st) h = wps rm K Q c_M_outside_45 kc ks loc (.int (x - y) :: st) h := rfl
theorem s_M_outside_45 {x : Int32} : wps rm K Q c_M_outside_45 kc ks loc (.int x :: st) h = wps rm K Q c_M_outside_46 kc ks loc (.long (x.toInt64) :: st) h := rfl
theorem s_M_outside_46 {x : Int64} : wps rm K Q c_M_outside_46 kc ks loc (.long x :: st) h = wps rm K Q c_M_outside_48 kc ks (eg_set2 loc 6 (.long x)) (st) h := rfl
theorem s_M_outside_48 {x : Int64} {l0 l1 l2 l3 : Option Value} {l : eg_Lo} : wps rm K Q c_M_outside_48 kc ks (l0 :: l1 :: l2 :: l3 :: some (.long x) :: l) (st) h = wps rm K Q c_M_outside_50 kc ks (l0 :: l1 :: l2 :: l3 :: some (.long x) :: l) (.long x :: st) h := rfl
theorem s_M_outside_50 {x : Int64} {l0 l1 l2 l3 : Option Value} {l : eg_Lo} : wps rm K Q c_M_outside_50 kc ks (l0 :: l1 :: l2 :: l3 :: some (.long x) :: l) (st) h = wps rm K Q c_M_outside_52 kc ks (l0 :: l1 :: l2 :: l3 :: some (.long x) :: l) (.long x :: st) h := rfl
theorem s_M_outside_52 {x y : Int64} : wps rm K Q c_M_outside_52 kc ks loc (.long y :: .long x :: st) h = wps rm K Q c_M_outside_53 kc ks loc (.long (x * y) :: st) h := rfl
theorem s_M_outside_53 {x : Int64} {l0 l1 l2 l3 l4 l5 : Option Value} {l : eg_Lo} : wps rm K Q c_M_outside_53 kc ks (l0 :: l1 :: l2 :: l3 :: l4 :: l5 :: some (.long x) :: l) (st) h = wps rm K Q c_M_outside_55 kc ks (l0 :: l1 :: l2 :: l3 :: l4 :: l5 :: some (.long x) :: l) (.long x :: st) h := rfl
theorem s_M_outside_55 {x : Int64} {l0 l1 l2 l3 l4 l5 : Option Value} {l : eg_Lo} : wps rm K Q c_M_outside_55 kc ks (l0 :: l1 :: l2 :: l3 :: l4 :: l5 :: some (.long x) :: l) (st) h = wps rm K Q c_M_outside_57 kc ks (l0 :: l1 :: l2 :: l3 :: l4 :: l5 :: some (.long x) :: l) (.long x :: st) h := rfl
theorem s_M_outside_57 {x y : Int64} : wps rm K Q c_M_outside_57 kc ks loc (.long y :: .long x :: st) h = wps rm K Q c_M_outside_58 kc ks loc (.long (x * y) :: st) h := rfl
theorem s_M_outside_58 {x y : Int64} : wps rm K Q c_M_outside_58 kc ks loc (.long y :: .long x :: st) h = wps rm K Q c_M_outside_59 kc ks loc (.long (x + y) :: st) h := rfl
theorem s_M_outside_59 {x : Nat} {l : eg_Lo} : wps rm K Q c_M_outside_59 kc ks (some (.ref x) :: l) (st) h = wps rm K Q c_M_outside_60 kc ks (some (.ref x) :: l) (.ref x :: st) h := rfl
theorem s_M_outside_60 {x : Nat} : wps rm K Q c_M_outside_60 kc ks loc (.ref (x + 1) :: st) h = eg_gf h x 12 36 (fun v => wps rm K Q c_M_outside_63 kc ks loc (v :: st) h) := rfl
theorem s_M_outside_63 {x y : Int64} : wps rm K Q c_M_outside_63 kc ks loc (.long y :: .long x :: st) h = wps rm K Q c_M_outside_64 kc ks loc (.long (x * y) :: st) h := rfl
theorem s_M_outside_64  : wps rm K Q c_M_outside_64 kc ks loc (st) h = wps rm K Q c_M_outside_67 kc ks loc (.long (2) :: st) h := rfl
theorem s_M_outside_67 {x : Int64} {l0 l1 l2 l3 : Option Value} {l : eg_Lo} : wps rm K Q c_M_outside_67 kc ks (l0 :: l1 :: l2 :: l3 :: some (.long x) :: l) (st) h = wps rm K Q c_M_outside_69 kc ks (l0 :: l1 :: l2 :: l3 :: some (.long x) :: l) (.long x :: st) h := rfl
theorem s_M_outside_69 {x : Nat} {l : eg_Lo} : wps rm K Q c_M_outside_69 kc ks (some (.ref x) :: l) (st) h = wps rm K Q c_M_outside_70 kc ks (some (.ref x) :: l) (.ref x :: st) h := rfl
theorem s_M_outside_70 {x : Nat} : wps rm K Q c_M_outside_70 kc ks loc (.ref (x + 1) :: st) h = eg_gf h x 12 34 (fun v => wps rm K Q c_M_outside_73 kc ks loc (v :: st) h) := rfl
theorem s_M_outside_73 {x y : Int64} : wps rm K Q c_M_outside_73 kc ks loc (.long y :: .long x :: st) h = wps rm K Q c_M_outside_74 kc ks loc (.long (x * y) :: st) h := rfl
theorem s_M_outside_74 {x : Int64} {l0 l1 l2 l3 l4 l5 : Option Value} {l : eg_Lo} : wps rm K Q c_M_outside_74 kc ks (l0 :: l1 :: l2 :: l3 :: l4 :: l5 :: some (.long x) :: l) (st) h = wps rm K Q c_M_outside_76 kc ks (l0 :: l1 :: l2 :: l3 :: l4 :: l5 :: some (.long x) :: l) (.long x :: st) h := rfl
theorem s_M_outside_76 {x : Nat} {l : eg_Lo} : wps rm K Q c_M_outside_76 kc ks (some (.ref x) :: l) (st) h = wps rm K Q c_M_outside_77 kc ks (some (.ref x) :: l) (.ref x :: st) h := rfl
theorem s_M_outside_77 {x : Nat} : wps rm K Q c_M_outside_77 kc ks loc (.ref (x + 1) :: st) h = eg_gf h x 12 35 (fun v => wps rm K Q c_M_outside_80 kc ks loc (v :: st) h) := rfl
theorem s_M_outside_80 {x y : Int64} : wps rm K Q c_M_outside_80 kc ks loc (.long y :: .long x :: st) h = wps rm K Q c_M_outside_81 kc ks loc (.long (x * y) :: st) h := rfl
theorem s_M_outside_81 {x y : Int64} : wps rm K Q c_M_outside_81 kc ks loc (.long y :: .long x :: st) h = wps rm K Q c_M_outside_82 kc ks loc (.long (x + y) :: st) h := rfl
theorem s_M_outside_82 {x y : Int64} : wps rm K Q c_M_outside_82 kc ks loc (.long y :: .long x :: st) h = wps rm K Q c_M_outside_83 kc ks loc (.long (x * y) :: st) h := rfl
theorem s_M_outside_83 {x y : Int64} : wps rm K Q c_M_outside_83 kc ks loc (.long y :: .long x :: st) h = wps rm K Q c_M_outside_84 kc ks loc (.long (x - y) :: st) h := rfl
theorem s_M_outside_84 {x : Int64} : wps rm K Q c_M_outside_84 kc ks loc ([.long x]) h = (kc = rm.cells ∧ Q (some (.long x)) h) := rfl
def T_M_outside : List (Nat × List eg_I) := []
end
theorem q_M_outside : (T_M_outside.all fun q => eg_seq m_M_outside q.1 q.2) = true := by decide +kernel
theorem b_M_outside {as : List Value} {h : List eg_E} {Q : Option Value → List eg_E → Prop} (hf : (eg_fl as).length ≤ 8) (hw : wps (eg_rm m_M_outside) (eg_run (eg_rm m_M_outside) (eg_R m_M_outside Q (h.length + 0)) Q T_M_outside 2) Q c_M_outside_0 0 0 (eg_entry 8 as) [] h) : eg_Runs n_M_outside as h Q := eg_begin (d := m_M_outside) rfl (by decide) (by decide +kernel) q_M_outside hf hw
/-! ===== M_hasAll ===== -/
def c_M_hasAll_58 : List eg_I := .inl (58, 1, .ireturn, 0, 1) :: []
def c_M_hasAll_57 : List eg_I := .inl (57, 1, .iload 3, 0, 0) :: c_M_hasAll_58
def c_M_hasAll_54 : List eg_I := .inl (54, 3, .goto (-49), 5, 0) :: []
def c_M_hasAll_51 : List eg_I := .inl (51, 3, .iinc 4 (1), 0, 0) :: c_M_hasAll_54
def c_M_hasAll_50 : List eg_I := .inl (50, 1, .istore 3, 0, 0) :: c_M_hasAll_51
def c_M_hasAll_49 : List eg_I := .inl (49, 1, .iand, 0, 0) :: c_M_hasAll_50
def c_M_hasAll_48 : List eg_I := .inl (48, 1, .iconst (0), 0, 0) :: c_M_hasAll_49
def c_M_hasAll_45 : List eg_I := .inl (45, 3, .goto (4), 49, 0) :: []
def c_M_hasAll_44 : List eg_I := .inl (44, 1, .iconst (1), 0, 0) :: c_M_hasAll_45
def c_M_hasAll_41 : List eg_I := .inl (41, 3, .ifCond .gt (7), 48, 0) :: c_M_hasAll_44
def c_M_hasAll_40 : List eg_I := .inl (40, 1, .lcmp, 0, 0) :: c_M_hasAll_41
def c_M_hasAll_39 : List eg_I := .inl (39, 1, .sipush (0), 0, 0) :: c_M_hasAll_40
def c_M_hasAll_36 : List eg_I := .inr (36, 1, 227, n_M_outside, 3, 12, 0, 0) :: c_M_hasAll_39
def c_M_hasAll_34 : List eg_I := .inl (34, 2, .iload 4, 0, 0) :: c_M_hasAll_36
def c_M_hasAll_33 : List eg_I := .inl (33, 1, .iload 2, 0, 0) :: c_M_hasAll_34
def c_M_hasAll_32 : List eg_I := .inl (32, 1, .iload 1, 0, 0) :: c_M_hasAll_33
def c_M_hasAll_31 : List eg_I := .inl (31, 1, .aload 0, 0, 0) :: c_M_hasAll_32
def c_M_hasAll_28 : List eg_I := .inl (28, 3, .ifCond .ne (16), 44, 0) :: c_M_hasAll_31
def c_M_hasAll_27 : List eg_I := .inl (27, 1, .baload, 0, 0) :: c_M_hasAll_28
def c_M_hasAll_24 : List eg_I := .inr (24, 0, 103, n_M_at_II, 2, 12, 0, 0) :: c_M_hasAll_27
def c_M_hasAll_22 : List eg_I := .inl (22, 2, .iload 4, 0, 0) :: c_M_hasAll_24
def c_M_hasAll_21 : List eg_I := .inl (21, 1, .iload 1, 0, 0) :: c_M_hasAll_22
def c_M_hasAll_18 : List eg_I := .inl (18, 3, .getfield 22, 12, 4) :: c_M_hasAll_21
def c_M_hasAll_17 : List eg_I := .inl (17, 1, .aload 0, 0, 0) :: c_M_hasAll_18
def c_M_hasAll_16 : List eg_I := .inl (16, 1, .iload 3, 0, 0) :: c_M_hasAll_17
def c_M_hasAll_13 : List eg_I := .inl (13, 3, .if_icmp .ge (44), 57, 0) :: c_M_hasAll_16
def c_M_hasAll_12 : List eg_I := .inl (12, 1, .iaload, 0, 0) :: c_M_hasAll_13
def c_M_hasAll_11 : List eg_I := .inl (11, 1, .iload 1, 0, 0) :: c_M_hasAll_12
def c_M_hasAll_8 : List eg_I := .inl (8, 3, .getfield 9, 12, 0) :: c_M_hasAll_11
def c_M_hasAll_7 : List eg_I := .inl (7, 1, .aload 0, 0, 0) :: c_M_hasAll_8
def c_M_hasAll_5 : List eg_I := .inl (5, 2, .iload 4, 0, 0) :: c_M_hasAll_7
def c_M_hasAll_3 : List eg_I := .inl (3, 2, .istore 4, 0, 0) :: [.inl (5, 0, .nop, 0, 0)]
def c_M_hasAll_2 : List eg_I := .inl (2, 1, .iconst (0), 0, 0) :: c_M_hasAll_3
def c_M_hasAll_1 : List eg_I := .inl (1, 1, .istore 3, 0, 0) :: c_M_hasAll_2
def c_M_hasAll_0 : List eg_I := .inl (0, 1, .iconst (1), 0, 0) :: c_M_hasAll_1
section
variable {rm : Room} {K : Nat → Nat → Nat → eg_Lo → List Value → List eg_E → Prop} {Q : Option Value → List eg_E → Prop} {kc ks : Nat} {loc : eg_Lo} {st : List Value} {h : List eg_E}
theorem s_M_hasAll_0  : wps rm K Q c_M_hasAll_0 kc ks loc (st) h = wps rm K Q c_M_hasAll_1 kc ks loc (.int (1) :: st) h := rfl
theorem s_M_hasAll_1 {x : Int32} : wps rm K Q c_M_hasAll_1 kc ks loc (.int x :: st) h = wps rm K Q c_M_hasAll_2 kc ks (eg_set1 loc 3 (.int x)) (st) h := rfl
theorem s_M_hasAll_2  : wps rm K Q c_M_hasAll_2 kc ks loc (st) h = wps rm K Q c_M_hasAll_3 kc ks loc (.int (0) :: st) h := rfl
theorem s_M_hasAll_3 {x : Int32} : wps rm K Q c_M_hasAll_3 kc ks loc (.int x :: st) h = K 5 kc ks (eg_set1 loc 4 (.int x)) (st) h := rfl
theorem s_M_hasAll_5 {x : Int32} {l0 l1 l2 l3 : Option Value} {l : eg_Lo} : wps rm K Q c_M_hasAll_5 kc ks (l0 :: l1 :: l2 :: l3 :: some (.int x) :: l) (st) h = wps rm K Q c_M_hasAll_7 kc ks (l0 :: l1 :: l2 :: l3 :: some (.int x) :: l) (.int x :: st) h := rfl
theorem s_M_hasAll_7 {x : Nat} {l : eg_Lo} : wps rm K Q c_M_hasAll_7 kc ks (some (.ref x) :: l) (st) h = wps rm K Q c_M_hasAll_8 kc ks (some (.ref x) :: l) (.ref x :: st) h := rfl
theorem s_M_hasAll_8 {x : Nat} : wps rm K Q c_M_hasAll_8 kc ks loc (.ref (x + 1) :: st) h = eg_gf h x 12 0 (fun v => wps rm K Q c_M_hasAll_11 kc ks loc (v :: st) h) := rfl
theorem s_M_hasAll_11 {x : Int32} {l0 : Option Value} {l : eg_Lo} : wps rm K Q c_M_hasAll_11 kc ks (l0 :: some (.int x) :: l) (st) h = wps rm K Q c_M_hasAll_12 kc ks (l0 :: some (.int x) :: l) (.int x :: st) h := rfl
theorem s_M_hasAll_12 {x : Nat} {i : Int32} : wps rm K Q c_M_hasAll_12 kc ks loc (.int i :: .ref (x + 1) :: st) h = eg_ia h x i (fun v => wps rm K Q c_M_hasAll_13 kc ks loc (.int v :: st) h) := rfl
theorem s_M_hasAll_13 {x y : Int32} : wps rm K Q c_M_hasAll_13 kc ks loc (.int y :: .int x :: st) h = ((y ≤ x → K 57 kc ks loc st h) ∧ (¬ y ≤ x → wps rm K Q c_M_hasAll_16 kc ks loc (st) h)) := rfl
theorem s_M_hasAll_16 {x : Int32} {l0 l1 l2 : Option Value} {l : eg_Lo} : wps rm K Q c_M_hasAll_16 kc ks (l0 :: l1 :: l2 :: some (.int x) :: l) (st) h = wps rm K Q c_M_hasAll_17 kc ks (l0 :: l1 :: l2 :: some (.int x) :: l) (.int x :: st) h := rfl
theorem s_M_hasAll_17 {x : Nat} {l : eg_Lo} : wps rm K Q c_M_hasAll_17 kc ks (some (.ref x) :: l) (st) h = wps rm K Q c_M_hasAll_18 kc ks (some (.ref x) :: l) (.ref x :: st) h := rfl
theorem s_M_hasAll_18 {x : Nat} : wps rm K Q c_M_hasAll_18 kc ks loc (.ref (x + 1) :: st) h = eg_gf h x 12 4 (fun v => wps rm K Q c_M_hasAll_21 kc ks loc (v :: st) h) := rfl
theorem s_M_hasAll_21 {x : Int32} {l0 : Option Value} {l : eg_Lo} : wps rm K Q c_M_hasAll_21 kc ks (l0 :: some (.int x) :: l) (st) h = wps rm K Q c_M_hasAll_22 kc ks (l0 :: some (.int x) :: l) (.int x :: st) h := rfl
theorem s_M_hasAll_22 {x : Int32} {l0 l1 l2 l3 : Option Value} {l : eg_Lo} : wps rm K Q c_M_hasAll_22 kc ks (l0 :: l1 :: l2 :: l3 :: some (.int x) :: l) (st) h = wps rm K Q c_M_hasAll_24 kc ks (l0 :: l1 :: l2 :: l3 :: some (.int x) :: l) (.int x :: st) h := rfl
theorem s_M_hasAll_24  {a1 : Value} {a2 : Value} : wps rm K Q c_M_hasAll_24 kc ks loc (a2 :: a1 :: st) h = (st.length ≤ 4 ∧ eg_Cs n_M_at_II [a1, a2] h (fun v h9 => wps rm K Q c_M_hasAll_27 kc ks loc (v.toList ++ st) h9)) := eg_c0_2
theorem s_M_hasAll_27 {x : Nat} {i : Int32} : wps rm K Q c_M_hasAll_27 kc ks loc (.int i :: .ref (x + 1) :: st) h = eg_ba h x i (fun v => wps rm K Q c_M_hasAll_28 kc ks loc (.int v :: st) h) := rfl
theorem s_M_hasAll_28 {x : Int32} : wps rm K Q c_M_hasAll_28 kc ks loc (.int x :: st) h = ((¬ x = 0 → K 44 kc ks loc st h) ∧ (x = 0 → wps rm K Q c_M_hasAll_31 kc ks loc (st) h)) := rfl
theorem s_M_hasAll_31 {x : Nat} {l : eg_Lo} : wps rm K Q c_M_hasAll_31 kc ks (some (.ref x) :: l) (st) h = wps rm K Q c_M_hasAll_32 kc ks (some (.ref x) :: l) (.ref x :: st) h := rfl
theorem s_M_hasAll_32 {x : Int32} {l0 : Option Value} {l : eg_Lo} : wps rm K Q c_M_hasAll_32 kc ks (l0 :: some (.int x) :: l) (st) h = wps rm K Q c_M_hasAll_33 kc ks (l0 :: some (.int x) :: l) (.int x :: st) h := rfl
theorem s_M_hasAll_33 {x : Int32} {l0 l1 : Option Value} {l : eg_Lo} : wps rm K Q c_M_hasAll_33 kc ks (l0 :: l1 :: some (.int x) :: l) (st) h = wps rm K Q c_M_hasAll_34 kc ks (l0 :: l1 :: some (.int x) :: l) (.int x :: st) h := rfl
theorem s_M_hasAll_34 {x : Int32} {l0 l1 l2 l3 : Option Value} {l : eg_Lo} : wps rm K Q c_M_hasAll_34 kc ks (l0 :: l1 :: l2 :: l3 :: some (.int x) :: l) (st) h = wps rm K Q c_M_hasAll_36 kc ks (l0 :: l1 :: l2 :: l3 :: some (.int x) :: l) (.int x :: st) h := rfl
theorem s_M_hasAll_36  {a1 : Value} {a2 : Value} {a3 : Value} {x : Nat} : wps rm K Q c_M_hasAll_36 kc ks loc (a3 :: a2 :: a1 :: .ref (x + 1) :: st) h = (eg_cls h x 12 ∧ st.length ≤ 4 ∧ eg_Cs n_M_outside (.ref (x + 1) :: [a1, a2, a3]) h (fun v h9 => wps rm K Q c_M_hasAll_39 kc ks loc (v.toList ++ st) h9)) := eg_c1_3
theorem s_M_hasAll_39  : wps rm K Q c_M_hasAll_39 kc ks loc (st) h = wps rm K Q c_M_hasAll_40 kc ks loc (.long (0) :: st) h := rfl
theorem s_M_hasAll_40 {x y : Int64} : wps rm K Q c_M_hasAll_40 kc ks loc (.long y :: .long x :: st) h = wps rm K Q c_M_hasAll_41 kc ks loc (.int (lg_cmp x y) :: st) h := rfl
theorem s_M_hasAll_41 {x : Int32} : wps rm K Q c_M_hasAll_41 kc ks loc (.int x :: st) h = ((0 < x → K 48 kc ks loc st h) ∧ (¬ 0 < x → wps rm K Q c_M_hasAll_44 kc ks loc (st) h)) := rfl
theorem s_M_hasAll_44  : wps rm K Q c_M_hasAll_44 kc ks loc (st) h = wps rm K Q c_M_hasAll_45 kc ks loc (.int (1) :: st) h := rfl
theorem s_M_hasAll_45  : wps rm K Q c_M_hasAll_45 kc ks loc (st) h = K 49 kc ks loc st h := rfl
theorem s_M_hasAll_48  : wps rm K Q c_M_hasAll_48 kc ks loc (st) h = wps rm K Q c_M_hasAll_49 kc ks loc (.int (0) :: st) h := rfl
theorem s_M_hasAll_49 {x y : Int32} : wps rm K Q c_M_hasAll_49 kc ks loc (.int y :: .int x :: st) h = wps rm K Q c_M_hasAll_50 kc ks loc (.int (x &&& y) :: st) h := rfl
theorem s_M_hasAll_50 {x : Int32} : wps rm K Q c_M_hasAll_50 kc ks loc (.int x :: st) h = wps rm K Q c_M_hasAll_51 kc ks (eg_set1 loc 3 (.int x)) (st) h := rfl
theorem s_M_hasAll_51 {x : Int32} {l0 l1 l2 l3 : Option Value} {l9 : eg_Lo} : wps rm K Q c_M_hasAll_51 kc ks (l0 :: l1 :: l2 :: l3 :: some (.int x) :: l9) (st) h = wps rm K Q c_M_hasAll_54 kc ks (eg_set1 (l0 :: l1 :: l2 :: l3 :: some (.int x) :: l9) 4 (.int (x + (1)))) (st) h := rfl
theorem s_M_hasAll_54  : wps rm K Q c_M_hasAll_54 kc ks loc (st) h = K 5 kc ks loc st h := rfl
theorem s_M_hasAll_57 {x : Int32} {l0 l1 l2 : Option Value} {l : eg_Lo} : wps rm K Q c_M_hasAll_57 kc ks (l0 :: l1 :: l2 :: some (.int x) :: l) (st) h = wps rm K Q c_M_hasAll_58 kc ks (l0 :: l1 :: l2 :: some (.int x) :: l) (.int x :: st) h := rfl
theorem s_M_hasAll_58 {x : Int32} : wps rm K Q c_M_hasAll_58 kc ks loc ([.int x]) h = (kc = rm.cells ∧ ((1 : Nat) = 1 → x = 0 ∨ x = 1) ∧ Q (some (.int x)) h) := rfl
def T_M_hasAll : List (Nat × List eg_I) := [(44, c_M_hasAll_44), (48, c_M_hasAll_48), (49, c_M_hasAll_49), (57, c_M_hasAll_57)]
theorem j_M_hasAll_44 {R : Nat → Nat → Nat → eg_Lo → List Value → List eg_E → Prop} {f pc0 : Nat} : eg_run rm R Q T_M_hasAll (f + 1) 44 kc ks loc st h = wps rm (eg_run rm R Q T_M_hasAll f) Q c_M_hasAll_44 kc ks loc st h := rfl
theorem j_M_hasAll_48 {R : Nat → Nat → Nat → eg_Lo → List Value → List eg_E → Prop} {f pc0 : Nat} : eg_run rm R Q T_M_hasAll (f + 1) 48 kc ks loc st h = wps rm (eg_run rm R Q T_M_hasAll f) Q c_M_hasAll_48 kc ks loc st h := rfl
theorem j_M_hasAll_49 {R : Nat → Nat → Nat → eg_Lo → List Value → List eg_E → Prop} {f pc0 : Nat} : eg_run rm R Q T_M_hasAll (f + 1) 49 kc ks loc st h = wps rm (eg_run rm R Q T_M_hasAll f) Q c_M_hasAll_49 kc ks loc st h := rfl
theorem j_M_hasAll_57 {R : Nat → Nat → Nat → eg_Lo → List Value → List eg_E → Prop} {f pc0 : Nat} : eg_run rm R Q T_M_hasAll (f + 1) 57 kc ks loc st h = wps rm (eg_run rm R Q T_M_hasAll f) Q c_M_hasAll_57 kc ks loc st h := rfl
theorem j_M_hasAll_5 {R : Nat → Nat → Nat → eg_Lo → List Value → List eg_E → Prop} {f pc0 : Nat} : eg_run rm R Q T_M_hasAll (f + 1) 5 kc ks loc st h = R 5 kc ks loc st h := rfl
end
theorem q_M_hasAll : (T_M_hasAll.all fun q => eg_seq m_M_hasAll q.1 q.2) = true := by decide +kernel
theorem b_M_hasAll {as : List Value} {h : List eg_E} {Q : Option Value → List eg_E → Prop} (hf : (eg_fl as).length ≤ 5) (hw : wps (eg_rm m_M_hasAll) (eg_run (eg_rm m_M_hasAll) (eg_R m_M_hasAll Q (h.length + 0)) Q T_M_hasAll 6) Q c_M_hasAll_0 0 0 (eg_entry 5 as) [] h) : eg_Runs n_M_hasAll as h Q := eg_begin (d := m_M_hasAll) rfl (by decide) (by decide +kernel) q_M_hasAll hf hw
theorem p_M_hasAll_5 {Q : Option Value → List eg_E → Prop} {n0 kc ks : Nat} {loc : eg_Lo} {st : List Value} {h : List eg_E} (hw : wps (eg_rm m_M_hasAll) (eg_run (eg_rm m_M_hasAll) (eg_R m_M_hasAll Q n0) Q T_M_hasAll 6) Q c_M_hasAll_5 kc ks loc st h) : eg_R m_M_hasAll Q n0 5 kc ks loc st h := eg_go (by decide +kernel) q_M_hasAll hw
/-! ===== M_isSharp ===== -/
def c_M_isSharp_93 : List eg_I := .inl (93, 1, .ireturn, 0, 1) :: []
def c_M_isSharp_92 : List eg_I := .inl (92, 1, .iconst (0), 0, 0) :: c_M_isSharp_93
def c_M_isSharp_89 : List eg_I := .inl (89, 3, .goto (4), 93, 0) :: []
def c_M_isSharp_88 : List eg_I := .inl (88, 1, .iconst (1), 0, 0) :: c_M_isSharp_89
def c_M_isSharp_85 : List eg_I := .inl (85, 3, .ifCond .lt (7), 92, 0) :: c_M_isSharp_88
def c_M_isSharp_84 : List eg_I := .inl (84, 1, .iadd, 0, 0) :: c_M_isSharp_85
def c_M_isSharp_83 : List eg_I := .inl (83, 1, .imul, 0, 0) :: c_M_isSharp_84
def c_M_isSharp_82 : List eg_I := .inl (82, 1, .isub, 0, 0) :: c_M_isSharp_83
def c_M_isSharp_81 : List eg_I := .inl (81, 1, .iaload, 0, 0) :: c_M_isSharp_82
def c_M_isSharp_79 : List eg_I := .inl (79, 2, .iload 5, 0, 0) :: c_M_isSharp_81
def c_M_isSharp_76 : List eg_I := .inl (76, 3, .getfield 16, 12, 2) :: c_M_isSharp_79
def c_M_isSharp_75 : List eg_I := .inl (75, 1, .aload 0, 0, 0) :: c_M_isSharp_76
def c_M_isSharp_74 : List eg_I := .inl (74, 1, .iaload, 0, 0) :: c_M_isSharp_75
def c_M_isSharp_72 : List eg_I := .inl (72, 2, .iload 7, 0, 0) :: c_M_isSharp_74
def c_M_isSharp_69 : List eg_I := .inl (69, 3, .getfield 16, 12, 2) :: c_M_isSharp_72
def c_M_isSharp_68 : List eg_I := .inl (68, 1, .aload 0, 0, 0) :: c_M_isSharp_69
def c_M_isSharp_67 : List eg_I := .inl (67, 1, .isub, 0, 0) :: c_M_isSharp_68
def c_M_isSharp_66 : List eg_I := .inl (66, 1, .iaload, 0, 0) :: c_M_isSharp_67
def c_M_isSharp_64 : List eg_I := .inl (64, 2, .iload 5, 0, 0) :: c_M_isSharp_66
def c_M_isSharp_61 : List eg_I := .inl (61, 3, .getfield 16, 12, 2) :: c_M_isSharp_64
def c_M_isSharp_60 : List eg_I := .inl (60, 1, .aload 0, 0, 0) :: c_M_isSharp_61
def c_M_isSharp_59 : List eg_I := .inl (59, 1, .iaload, 0, 0) :: c_M_isSharp_60
def c_M_isSharp_57 : List eg_I := .inl (57, 2, .iload 6, 0, 0) :: c_M_isSharp_59
def c_M_isSharp_54 : List eg_I := .inl (54, 3, .getfield 16, 12, 2) :: c_M_isSharp_57
def c_M_isSharp_53 : List eg_I := .inl (53, 1, .aload 0, 0, 0) :: c_M_isSharp_54
def c_M_isSharp_52 : List eg_I := .inl (52, 1, .imul, 0, 0) :: c_M_isSharp_53
def c_M_isSharp_51 : List eg_I := .inl (51, 1, .isub, 0, 0) :: c_M_isSharp_52
def c_M_isSharp_50 : List eg_I := .inl (50, 1, .iaload, 0, 0) :: c_M_isSharp_51
def c_M_isSharp_48 : List eg_I := .inl (48, 2, .iload 5, 0, 0) :: c_M_isSharp_50
def c_M_isSharp_45 : List eg_I := .inl (45, 3, .getfield 13, 12, 1) :: c_M_isSharp_48
def c_M_isSharp_44 : List eg_I := .inl (44, 1, .aload 0, 0, 0) :: c_M_isSharp_45
def c_M_isSharp_43 : List eg_I := .inl (43, 1, .iaload, 0, 0) :: c_M_isSharp_44
def c_M_isSharp_41 : List eg_I := .inl (41, 2, .iload 7, 0, 0) :: c_M_isSharp_43
def c_M_isSharp_38 : List eg_I := .inl (38, 3, .getfield 13, 12, 1) :: c_M_isSharp_41
def c_M_isSharp_37 : List eg_I := .inl (37, 1, .aload 0, 0, 0) :: c_M_isSharp_38
def c_M_isSharp_36 : List eg_I := .inl (36, 1, .isub, 0, 0) :: c_M_isSharp_37
def c_M_isSharp_35 : List eg_I := .inl (35, 1, .iaload, 0, 0) :: c_M_isSharp_36
def c_M_isSharp_33 : List eg_I := .inl (33, 2, .iload 5, 0, 0) :: c_M_isSharp_35
def c_M_isSharp_30 : List eg_I := .inl (30, 3, .getfield 13, 12, 1) :: c_M_isSharp_33
def c_M_isSharp_29 : List eg_I := .inl (29, 1, .aload 0, 0, 0) :: c_M_isSharp_30
def c_M_isSharp_28 : List eg_I := .inl (28, 1, .iaload, 0, 0) :: c_M_isSharp_29
def c_M_isSharp_26 : List eg_I := .inl (26, 2, .iload 6, 0, 0) :: c_M_isSharp_28
def c_M_isSharp_23 : List eg_I := .inl (23, 3, .getfield 13, 12, 1) :: c_M_isSharp_26
def c_M_isSharp_22 : List eg_I := .inl (22, 1, .aload 0, 0, 0) :: c_M_isSharp_23
def c_M_isSharp_20 : List eg_I := .inl (20, 2, .istore 7, 0, 0) :: c_M_isSharp_22
def c_M_isSharp_17 : List eg_I := .inr (17, 0, 103, n_M_at_II, 2, 12, 0, 0) :: c_M_isSharp_20
def c_M_isSharp_15 : List eg_I := .inl (15, 2, .iload 4, 0, 0) :: c_M_isSharp_17
def c_M_isSharp_14 : List eg_I := .inl (14, 1, .iload 1, 0, 0) :: c_M_isSharp_15
def c_M_isSharp_12 : List eg_I := .inl (12, 2, .istore 6, 0, 0) :: c_M_isSharp_14
def c_M_isSharp_9 : List eg_I := .inr (9, 0, 103, n_M_at_II, 2, 12, 0, 0) :: c_M_isSharp_12
def c_M_isSharp_8 : List eg_I := .inl (8, 1, .iload 3, 0, 0) :: c_M_isSharp_9
def c_M_isSharp_7 : List eg_I := .inl (7, 1, .iload 1, 0, 0) :: c_M_isSharp_8
def c_M_isSharp_5 : List eg_I := .inl (5, 2, .istore 5, 0, 0) :: c_M_isSharp_7
def c_M_isSharp_2 : List eg_I := .inr (2, 0, 103, n_M_at_II, 2, 12, 0, 0) :: c_M_isSharp_5
def c_M_isSharp_1 : List eg_I := .inl (1, 1, .iload 2, 0, 0) :: c_M_isSharp_2
def c_M_isSharp_0 : List eg_I := .inl (0, 1, .iload 1, 0, 0) :: c_M_isSharp_1
section
variable {rm : Room} {K : Nat → Nat → Nat → eg_Lo → List Value → List eg_E → Prop} {Q : Option Value → List eg_E → Prop} {kc ks : Nat} {loc : eg_Lo} {st : List Value} {h : List eg_E}
theorem s_M_isSharp_0 {x : Int32} {l0 : Option Value} {l : eg_Lo} : wps rm K Q c_M_isSharp_0 kc ks (l0 :: some (.int x) :: l) (st) h = wps rm K Q c_M_isSharp_1 kc ks (l0 :: some (.int x) :: l) (.int x :: st) h := rfl
theorem s_M_isSharp_1 {x : Int32} {l0 l1 : Option Value} {l : eg_Lo} : wps rm K Q c_M_isSharp_1 kc ks (l0 :: l1 :: some (.int x) :: l) (st) h = wps rm K Q c_M_isSharp_2 kc ks (l0 :: l1 :: some (.int x) :: l) (.int x :: st) h := rfl
theorem s_M_isSharp_2  {a1 : Value} {a2 : Value} : wps rm K Q c_M_isSharp_2 kc ks loc (a2 :: a1 :: st) h = (st.length ≤ 4 ∧ eg_Cs n_M_at_II [a1, a2] h (fun v h9 => wps rm K Q c_M_isSharp_5 kc ks loc (v.toList ++ st) h9)) := eg_c0_2
theorem s_M_isSharp_5 {x : Int32} : wps rm K Q c_M_isSharp_5 kc ks loc (.int x :: st) h = wps rm K Q c_M_isSharp_7 kc ks (eg_set1 loc 5 (.int x)) (st) h := rfl
theorem s_M_isSharp_7 {x : Int32} {l0 : Option Value} {l : eg_Lo} : wps rm K Q c_M_isSharp_7 kc ks (l0 :: some (.int x) :: l) (st) h = wps rm K Q c_M_isSharp_8 kc ks (l0 :: some (.int x) :: l) (.int x :: st) h := rfl
theorem s_M_isSharp_8 {x : Int32} {l0 l1 l2 : Option Value} {l : eg_Lo} : wps rm K Q c_M_isSharp_8 kc ks (l0 :: l1 :: l2 :: some (.int x) :: l) (st) h = wps rm K Q c_M_isSharp_9 kc ks (l0 :: l1 :: l2 :: some (.int x) :: l) (.int x :: st) h := rfl
theorem s_M_isSharp_9  {a1 : Value} {a2 : Value} : wps rm K Q c_M_isSharp_9 kc ks loc (a2 :: a1 :: st) h = (st.length ≤ 4 ∧ eg_Cs n_M_at_II [a1, a2] h (fun v h9 => wps rm K Q c_M_isSharp_12 kc ks loc (v.toList ++ st) h9)) := eg_c0_2
theorem s_M_isSharp_12 {x : Int32} : wps rm K Q c_M_isSharp_12 kc ks loc (.int x :: st) h = wps rm K Q c_M_isSharp_14 kc ks (eg_set1 loc 6 (.int x)) (st) h := rfl
theorem s_M_isSharp_14 {x : Int32} {l0 : Option Value} {l : eg_Lo} : wps rm K Q c_M_isSharp_14 kc ks (l0 :: some (.int x) :: l) (st) h = wps rm K Q c_M_isSharp_15 kc ks (l0 :: some (.int x) :: l) (.int x :: st) h := rfl
theorem s_M_isSharp_15 {x : Int32} {l0 l1 l2 l3 : Option Value} {l : eg_Lo} : wps rm K Q c_M_isSharp_15 kc ks (l0 :: l1 :: l2 :: l3 :: some (.int x) :: l) (st) h = wps rm K Q c_M_isSharp_17 kc ks (l0 :: l1 :: l2 :: l3 :: some (.int x) :: l) (.int x :: st) h := rfl
theorem s_M_isSharp_17  {a1 : Value} {a2 : Value} : wps rm K Q c_M_isSharp_17 kc ks loc (a2 :: a1 :: st) h = (st.length ≤ 4 ∧ eg_Cs n_M_at_II [a1, a2] h (fun v h9 => wps rm K Q c_M_isSharp_20 kc ks loc (v.toList ++ st) h9)) := eg_c0_2
theorem s_M_isSharp_20 {x : Int32} : wps rm K Q c_M_isSharp_20 kc ks loc (.int x :: st) h = wps rm K Q c_M_isSharp_22 kc ks (eg_set1 loc 7 (.int x)) (st) h := rfl
theorem s_M_isSharp_22 {x : Nat} {l : eg_Lo} : wps rm K Q c_M_isSharp_22 kc ks (some (.ref x) :: l) (st) h = wps rm K Q c_M_isSharp_23 kc ks (some (.ref x) :: l) (.ref x :: st) h := rfl
theorem s_M_isSharp_23 {x : Nat} : wps rm K Q c_M_isSharp_23 kc ks loc (.ref (x + 1) :: st) h = eg_gf h x 12 1 (fun v => wps rm K Q c_M_isSharp_26 kc ks loc (v :: st) h) := rfl
theorem s_M_isSharp_26 {x : Int32} {l0 l1 l2 l3 l4 l5 : Option Value} {l : eg_Lo} : wps rm K Q c_M_isSharp_26 kc ks (l0 :: l1 :: l2 :: l3 :: l4 :: l5 :: some (.int x) :: l) (st) h = wps rm K Q c_M_isSharp_28 kc ks (l0 :: l1 :: l2 :: l3 :: l4 :: l5 :: some (.int x) :: l) (.int x :: st) h := rfl
theorem s_M_isSharp_28 {x : Nat} {i : Int32} : wps rm K Q c_M_isSharp_28 kc ks loc (.int i :: .ref (x + 1) :: st) h = eg_ia h x i (fun v => wps rm K Q c_M_isSharp_29 kc ks loc (.int v :: st) h) := rfl
theorem s_M_isSharp_29 {x : Nat} {l : eg_Lo} : wps rm K Q c_M_isSharp_29 kc ks (some (.ref x) :: l) (st) h = wps rm K Q c_M_isSharp_30 kc ks (some (.ref x) :: l) (.ref x :: st) h := rfl
theorem s_M_isSharp_30 {x : Nat} : wps rm K Q c_M_isSharp_30 kc ks loc (.ref (x + 1) :: st) h = eg_gf h x 12 1 (fun v => wps rm K Q c_M_isSharp_33 kc ks loc (v :: st) h) := rfl
theorem s_M_isSharp_33 {x : Int32} {l0 l1 l2 l3 l4 : Option Value} {l : eg_Lo} : wps rm K Q c_M_isSharp_33 kc ks (l0 :: l1 :: l2 :: l3 :: l4 :: some (.int x) :: l) (st) h = wps rm K Q c_M_isSharp_35 kc ks (l0 :: l1 :: l2 :: l3 :: l4 :: some (.int x) :: l) (.int x :: st) h := rfl
theorem s_M_isSharp_35 {x : Nat} {i : Int32} : wps rm K Q c_M_isSharp_35 kc ks loc (.int i :: .ref (x + 1) :: st) h = eg_ia h x i (fun v => wps rm K Q c_M_isSharp_36 kc ks loc (.int v :: st) h) := rfl
theorem s_M_isSharp_36 {x y : Int32} : wps rm K Q c_M_isSharp_36 kc ks loc (.int y :: .int x :: st) h = wps rm K Q c_M_isSharp_37 kc ks loc (.int (x - y) :: st) h := rfl
theorem s_M_isSharp_37 {x : Nat} {l : eg_Lo} : wps rm K Q c_M_isSharp_37 kc ks (some (.ref x) :: l) (st) h = wps rm K Q c_M_isSharp_38 kc ks (some (.ref x) :: l) (.ref x :: st) h := rfl
theorem s_M_isSharp_38 {x : Nat} : wps rm K Q c_M_isSharp_38 kc ks loc (.ref (x + 1) :: st) h = eg_gf h x 12 1 (fun v => wps rm K Q c_M_isSharp_41 kc ks loc (v :: st) h) := rfl
theorem s_M_isSharp_41 {x : Int32} {l0 l1 l2 l3 l4 l5 l6 : Option Value} {l : eg_Lo} : wps rm K Q c_M_isSharp_41 kc ks (l0 :: l1 :: l2 :: l3 :: l4 :: l5 :: l6 :: some (.int x) :: l) (st) h = wps rm K Q c_M_isSharp_43 kc ks (l0 :: l1 :: l2 :: l3 :: l4 :: l5 :: l6 :: some (.int x) :: l) (.int x :: st) h := rfl
theorem s_M_isSharp_43 {x : Nat} {i : Int32} : wps rm K Q c_M_isSharp_43 kc ks loc (.int i :: .ref (x + 1) :: st) h = eg_ia h x i (fun v => wps rm K Q c_M_isSharp_44 kc ks loc (.int v :: st) h) := rfl
theorem s_M_isSharp_44 {x : Nat} {l : eg_Lo} : wps rm K Q c_M_isSharp_44 kc ks (some (.ref x) :: l) (st) h = wps rm K Q c_M_isSharp_45 kc ks (some (.ref x) :: l) (.ref x :: st) h := rfl
theorem s_M_isSharp_45 {x : Nat} : wps rm K Q c_M_isSharp_45 kc ks loc (.ref (x + 1) :: st) h = eg_gf h x 12 1 (fun v => wps rm K Q c_M_isSharp_48 kc ks loc (v :: st) h) := rfl
theorem s_M_isSharp_48 {x : Int32} {l0 l1 l2 l3 l4 : Option Value} {l : eg_Lo} : wps rm K Q c_M_isSharp_48 kc ks (l0 :: l1 :: l2 :: l3 :: l4 :: some (.int x) :: l) (st) h = wps rm K Q c_M_isSharp_50 kc ks (l0 :: l1 :: l2 :: l3 :: l4 :: some (.int x) :: l) (.int x :: st) h := rfl
theorem s_M_isSharp_50 {x : Nat} {i : Int32} : wps rm K Q c_M_isSharp_50 kc ks loc (.int i :: .ref (x + 1) :: st) h = eg_ia h x i (fun v => wps rm K Q c_M_isSharp_51 kc ks loc (.int v :: st) h) := rfl
theorem s_M_isSharp_51 {x y : Int32} : wps rm K Q c_M_isSharp_51 kc ks loc (.int y :: .int x :: st) h = wps rm K Q c_M_isSharp_52 kc ks loc (.int (x - y) :: st) h := rfl
theorem s_M_isSharp_52 {x y : Int32} : wps rm K Q c_M_isSharp_52 kc ks loc (.int y :: .int x :: st) h = wps rm K Q c_M_isSharp_53 kc ks loc (.int (x * y) :: st) h := rfl
theorem s_M_isSharp_53 {x : Nat} {l : eg_Lo} : wps rm K Q c_M_isSharp_53 kc ks (some (.ref x) :: l) (st) h = wps rm K Q c_M_isSharp_54 kc ks (some (.ref x) :: l) (.ref x :: st) h := rfl
theorem s_M_isSharp_54 {x : Nat} : wps rm K Q c_M_isSharp_54 kc ks loc (.ref (x + 1) :: st) h = eg_gf h x 12 2 (fun v => wps rm K Q c_M_isSharp_57 kc ks loc (v :: st) h) := rfl
theorem s_M_isSharp_57 {x : Int32} {l0 l1 l2 l3 l4 l5 : Option Value} {l : eg_Lo} : wps rm K Q c_M_isSharp_57 kc ks (l0 :: l1 :: l2 :: l3 :: l4 :: l5 :: some (.int x) :: l) (st) h = wps rm K Q c_M_isSharp_59 kc ks (l0 :: l1 :: l2 :: l3 :: l4 :: l5 :: some (.int x) :: l) (.int x :: st) h := rfl
theorem s_M_isSharp_59 {x : Nat} {i : Int32} : wps rm K Q c_M_isSharp_59 kc ks loc (.int i :: .ref (x + 1) :: st) h = eg_ia h x i (fun v => wps rm K Q c_M_isSharp_60 kc ks loc (.int v :: st) h) := rfl
theorem s_M_isSharp_60 {x : Nat} {l : eg_Lo} : wps rm K Q c_M_isSharp_60 kc ks (some (.ref x) :: l) (st) h = wps rm K Q c_M_isSharp_61 kc ks (some (.ref x) :: l) (.ref x :: st) h := rfl
theorem s_M_isSharp_61 {x : Nat} : wps rm K Q c_M_isSharp_61 kc ks loc (.ref (x + 1) :: st) h = eg_gf h x 12 2 (fun v => wps rm K Q c_M_isSharp_64 kc ks loc (v :: st) h) := rfl
theorem s_M_isSharp_64 {x : Int32} {l0 l1 l2 l3 l4 : Option Value} {l : eg_Lo} : wps rm K Q c_M_isSharp_64 kc ks (l0 :: l1 :: l2 :: l3 :: l4 :: some (.int x) :: l) (st) h = wps rm K Q c_M_isSharp_66 kc ks (l0 :: l1 :: l2 :: l3 :: l4 :: some (.int x) :: l) (.int x :: st) h := rfl
theorem s_M_isSharp_66 {x : Nat} {i : Int32} : wps rm K Q c_M_isSharp_66 kc ks loc (.int i :: .ref (x + 1) :: st) h = eg_ia h x i (fun v => wps rm K Q c_M_isSharp_67 kc ks loc (.int v :: st) h) := rfl
theorem s_M_isSharp_67 {x y : Int32} : wps rm K Q c_M_isSharp_67 kc ks loc (.int y :: .int x :: st) h = wps rm K Q c_M_isSharp_68 kc ks loc (.int (x - y) :: st) h := rfl
theorem s_M_isSharp_68 {x : Nat} {l : eg_Lo} : wps rm K Q c_M_isSharp_68 kc ks (some (.ref x) :: l) (st) h = wps rm K Q c_M_isSharp_69 kc ks (some (.ref x) :: l) (.ref x :: st) h := rfl
theorem s_M_isSharp_69 {x : Nat} : wps rm K Q c_M_isSharp_69 kc ks loc (.ref (x + 1) :: st) h = eg_gf h x 12 2 (fun v => wps rm K Q c_M_isSharp_72 kc ks loc (v :: st) h) := rfl
theorem s_M_isSharp_72 {x : Int32} {l0 l1 l2 l3 l4 l5 l6 : Option Value} {l : eg_Lo} : wps rm K Q c_M_isSharp_72 kc ks (l0 :: l1 :: l2 :: l3 :: l4 :: l5 :: l6 :: some (.int x) :: l) (st) h = wps rm K Q c_M_isSharp_74 kc ks (l0 :: l1 :: l2 :: l3 :: l4 :: l5 :: l6 :: some (.int x) :: l) (.int x :: st) h := rfl
theorem s_M_isSharp_74 {x : Nat} {i : Int32} : wps rm K Q c_M_isSharp_74 kc ks loc (.int i :: .ref (x + 1) :: st) h = eg_ia h x i (fun v => wps rm K Q c_M_isSharp_75 kc ks loc (.int v :: st) h) := rfl
theorem s_M_isSharp_75 {x : Nat} {l : eg_Lo} : wps rm K Q c_M_isSharp_75 kc ks (some (.ref x) :: l) (st) h = wps rm K Q c_M_isSharp_76 kc ks (some (.ref x) :: l) (.ref x :: st) h := rfl
theorem s_M_isSharp_76 {x : Nat} : wps rm K Q c_M_isSharp_76 kc ks loc (.ref (x + 1) :: st) h = eg_gf h x 12 2 (fun v => wps rm K Q c_M_isSharp_79 kc ks loc (v :: st) h) := rfl
theorem s_M_isSharp_79 {x : Int32} {l0 l1 l2 l3 l4 : Option Value} {l : eg_Lo} : wps rm K Q c_M_isSharp_79 kc ks (l0 :: l1 :: l2 :: l3 :: l4 :: some (.int x) :: l) (st) h = wps rm K Q c_M_isSharp_81 kc ks (l0 :: l1 :: l2 :: l3 :: l4 :: some (.int x) :: l) (.int x :: st) h := rfl
theorem s_M_isSharp_81 {x : Nat} {i : Int32} : wps rm K Q c_M_isSharp_81 kc ks loc (.int i :: .ref (x + 1) :: st) h = eg_ia h x i (fun v => wps rm K Q c_M_isSharp_82 kc ks loc (.int v :: st) h) := rfl
theorem s_M_isSharp_82 {x y : Int32} : wps rm K Q c_M_isSharp_82 kc ks loc (.int y :: .int x :: st) h = wps rm K Q c_M_isSharp_83 kc ks loc (.int (x - y) :: st) h := rfl
theorem s_M_isSharp_83 {x y : Int32} : wps rm K Q c_M_isSharp_83 kc ks loc (.int y :: .int x :: st) h = wps rm K Q c_M_isSharp_84 kc ks loc (.int (x * y) :: st) h := rfl
theorem s_M_isSharp_84 {x y : Int32} : wps rm K Q c_M_isSharp_84 kc ks loc (.int y :: .int x :: st) h = wps rm K Q c_M_isSharp_85 kc ks loc (.int (x + y) :: st) h := rfl
theorem s_M_isSharp_85 {x : Int32} : wps rm K Q c_M_isSharp_85 kc ks loc (.int x :: st) h = ((x < 0 → K 92 kc ks loc st h) ∧ (¬ x < 0 → wps rm K Q c_M_isSharp_88 kc ks loc (st) h)) := rfl
theorem s_M_isSharp_88  : wps rm K Q c_M_isSharp_88 kc ks loc (st) h = wps rm K Q c_M_isSharp_89 kc ks loc (.int (1) :: st) h := rfl
theorem s_M_isSharp_89  : wps rm K Q c_M_isSharp_89 kc ks loc (st) h = K 93 kc ks loc st h := rfl
theorem s_M_isSharp_92  : wps rm K Q c_M_isSharp_92 kc ks loc (st) h = wps rm K Q c_M_isSharp_93 kc ks loc (.int (0) :: st) h := rfl
theorem s_M_isSharp_93 {x : Int32} : wps rm K Q c_M_isSharp_93 kc ks loc ([.int x]) h = (kc = rm.cells ∧ ((1 : Nat) = 1 → x = 0 ∨ x = 1) ∧ Q (some (.int x)) h) := rfl
def T_M_isSharp : List (Nat × List eg_I) := [(92, c_M_isSharp_92), (93, c_M_isSharp_93)]
theorem j_M_isSharp_92 {R : Nat → Nat → Nat → eg_Lo → List Value → List eg_E → Prop} {f pc0 : Nat} : eg_run rm R Q T_M_isSharp (f + 1) 92 kc ks loc st h = wps rm (eg_run rm R Q T_M_isSharp f) Q c_M_isSharp_92 kc ks loc st h := rfl
theorem j_M_isSharp_93 {R : Nat → Nat → Nat → eg_Lo → List Value → List eg_E → Prop} {f pc0 : Nat} : eg_run rm R Q T_M_isSharp (f + 1) 93 kc ks loc st h = wps rm (eg_run rm R Q T_M_isSharp f) Q c_M_isSharp_93 kc ks loc st h := rfl
end
theorem q_M_isSharp : (T_M_isSharp.all fun q => eg_seq m_M_isSharp q.1 q.2) = true := by decide +kernel
theorem b_M_isSharp {as : List Value} {h : List eg_E} {Q : Option Value → List eg_E → Prop} (hf : (eg_fl as).length ≤ 8) (hw : wps (eg_rm m_M_isSharp) (eg_run (eg_rm m_M_isSharp) (eg_R m_M_isSharp Q (h.length + 0)) Q T_M_isSharp 4) Q c_M_isSharp_0 0 0 (eg_entry 8 as) [] h) : eg_Runs n_M_isSharp as h Q := eg_begin (d := m_M_isSharp) rfl (by decide) (by decide +kernel) q_M_isSharp hf hw
/-! ===== M_keepMiddle ===== -/
def c_M_keepMiddle_74 : List eg_I := .inl (74, 1, .return_, 0, 0) :: []
def c_M_keepMiddle_73 : List eg_I := .inl (73, 1, .lastore, 0, 0) :: c_M_keepMiddle_74
def c_M_keepMiddle_72 : List eg_I := .inl (72, 1, .ldiv, 0, 0) :: c_M_keepMiddle_73
def c_M_keepMiddle_70 : List eg_I := .inl (70, 2, .lload 8, 0, 0) :: c_M_keepMiddle_72
def c_M_keepMiddle_68 : List eg_I := .inl (68, 2, .lload 6, 0, 0) :: c_M_keepMiddle_70
def c_M_keepMiddle_67 : List eg_I := .inl (67, 1, .iadd, 0, 0) :: c_M_keepMiddle_68
def c_M_keepMiddle_66 : List eg_I := .inl (66, 1, .iconst (3), 0, 0) :: c_M_keepMiddle_67
def c_M_keepMiddle_65 : List eg_I := .inl (65, 1, .imul, 0, 0) :: c_M_keepMiddle_66
def c_M_keepMiddle_64 : List eg_I := .inl (64, 1, .iload 1, 0, 0) :: c_M_keepMiddle_65
def c_M_keepMiddle_63 : List eg_I := .inl (63, 1, .iconst (4), 0, 0) :: c_M_keepMiddle_64
def c_M_keepMiddle_60 : List eg_I := .inl (60, 3, .getfield 51, 12, 13) :: c_M_keepMiddle_63
def c_M_keepMiddle_59 : List eg_I := .inl (59, 1, .aload 0, 0, 0) :: c_M_keepMiddle_60
def c_M_keepMiddle_58 : List eg_I := .inl (58, 1, .lastore, 0, 0) :: c_M_keepMiddle_59
def c_M_keepMiddle_57 : List eg_I := .inl (57, 1, .ldiv, 0, 0) :: c_M_keepMiddle_58
def c_M_keepMiddle_55 : List eg_I := .inl (55, 2, .lload 8, 0, 0) :: c_M_keepMiddle_57
def c_M_keepMiddle_53 : List eg_I := .inl (53, 2, .lload 4, 0, 0) :: c_M_keepMiddle_55
def c_M_keepMiddle_52 : List eg_I := .inl (52, 1, .iadd, 0, 0) :: c_M_keepMiddle_53
def c_M_keepMiddle_51 : List eg_I := .inl (51, 1, .iconst (2), 0, 0) :: c_M_keepMiddle_52
def c_M_keepMiddle_50 : List eg_I := .inl (50, 1, .imul, 0, 0) :: c_M_keepMiddle_51
def c_M_keepMiddle_49 : List eg_I := .inl (49, 1, .iload 1, 0, 0) :: c_M_keepMiddle_50
def c_M_keepMiddle_48 : List eg_I := .inl (48, 1, .iconst (4), 0, 0) :: c_M_keepMiddle_49
def c_M_keepMiddle_45 : List eg_I := .inl (45, 3, .getfield 51, 12, 13) :: c_M_keepMiddle_48
def c_M_keepMiddle_44 : List eg_I := .inl (44, 1, .aload 0, 0, 0) :: c_M_keepMiddle_45
def c_M_keepMiddle_42 : List eg_I := .inl (42, 2, .lstore 8, 0, 0) :: c_M_keepMiddle_44
def c_M_keepMiddle_39 : List eg_I := .inr (39, 0, 168, n_M_common, 2, 12, 0, 0) :: c_M_keepMiddle_42
def c_M_keepMiddle_37 : List eg_I := .inl (37, 2, .lload 6, 0, 0) :: c_M_keepMiddle_39
def c_M_keepMiddle_35 : List eg_I := .inl (35, 2, .lload 4, 0, 0) :: c_M_keepMiddle_37
def c_M_keepMiddle_34 : List eg_I := .inl (34, 1, .lastore, 0, 0) :: c_M_keepMiddle_35
def c_M_keepMiddle_33 : List eg_I := .inl (33, 1, .ldiv, 0, 0) :: c_M_keepMiddle_34
def c_M_keepMiddle_31 : List eg_I := .inl (31, 2, .lload 8, 0, 0) :: c_M_keepMiddle_33
def c_M_keepMiddle_29 : List eg_I := .inl (29, 2, .lload 6, 0, 0) :: c_M_keepMiddle_31
def c_M_keepMiddle_28 : List eg_I := .inl (28, 1, .iadd, 0, 0) :: c_M_keepMiddle_29
def c_M_keepMiddle_27 : List eg_I := .inl (27, 1, .iconst (1), 0, 0) :: c_M_keepMiddle_28
def c_M_keepMiddle_26 : List eg_I := .inl (26, 1, .imul, 0, 0) :: c_M_keepMiddle_27
def c_M_keepMiddle_25 : List eg_I := .inl (25, 1, .iload 1, 0, 0) :: c_M_keepMiddle_26
def c_M_keepMiddle_24 : List eg_I := .inl (24, 1, .iconst (4), 0, 0) :: c_M_keepMiddle_25
def c_M_keepMiddle_21 : List eg_I := .inl (21, 3, .getfield 51, 12, 13) :: c_M_keepMiddle_24
def c_M_keepMiddle_20 : List eg_I := .inl (20, 1, .aload 0, 0, 0) :: c_M_keepMiddle_21
def c_M_keepMiddle_19 : List eg_I := .inl (19, 1, .lastore, 0, 0) :: c_M_keepMiddle_20
def c_M_keepMiddle_18 : List eg_I := .inl (18, 1, .ldiv, 0, 0) :: c_M_keepMiddle_19
def c_M_keepMiddle_16 : List eg_I := .inl (16, 2, .lload 8, 0, 0) :: c_M_keepMiddle_18
def c_M_keepMiddle_15 : List eg_I := .inl (15, 1, .lload 2, 0, 0) :: c_M_keepMiddle_16
def c_M_keepMiddle_14 : List eg_I := .inl (14, 1, .imul, 0, 0) :: c_M_keepMiddle_15
def c_M_keepMiddle_13 : List eg_I := .inl (13, 1, .iload 1, 0, 0) :: c_M_keepMiddle_14
def c_M_keepMiddle_12 : List eg_I := .inl (12, 1, .iconst (4), 0, 0) :: c_M_keepMiddle_13
def c_M_keepMiddle_9 : List eg_I := .inl (9, 3, .getfield 51, 12, 13) :: c_M_keepMiddle_12
def c_M_keepMiddle_8 : List eg_I := .inl (8, 1, .aload 0, 0, 0) :: c_M_keepMiddle_9
def c_M_keepMiddle_6 : List eg_I := .inl (6, 2, .lstore 8, 0, 0) :: c_M_keepMiddle_8
def c_M_keepMiddle_3 : List eg_I := .inr (3, 0, 168, n_M_common, 2, 12, 0, 0) :: c_M_keepMiddle_6
def c_M_keepMiddle_1 : List eg_I := .inl (1, 2, .lload 6, 0, 0) :: c_M_keepMiddle_3
def c_M_keepMiddle_0 : List eg_I := .inl (0, 1, .lload 2, 0, 0) :: c_M_keepMiddle_1
section
variable {rm : Room} {K : Nat → Nat → Nat → eg_Lo → List Value → List eg_E → Prop} {Q : Option Value → List eg_E → Prop} {kc ks : Nat} {loc : eg_Lo} {st : List Value} {h : List eg_E}
theorem s_M_keepMiddle_0 {x : Int64} {l0 l1 : Option Value} {l : eg_Lo} : wps rm K Q c_M_keepMiddle_0 kc ks (l0 :: l1 :: some (.long x) :: l) (st) h = wps rm K Q c_M_keepMiddle_1 kc ks (l0 :: l1 :: some (.long x) :: l) (.long x :: st) h := rfl
theorem s_M_keepMiddle_1 {x : Int64} {l0 l1 l2 l3 l4 l5 : Option Value} {l : eg_Lo} : wps rm K Q c_M_keepMiddle_1 kc ks (l0 :: l1 :: l2 :: l3 :: l4 :: l5 :: some (.long x) :: l) (st) h = wps rm K Q c_M_keepMiddle_3 kc ks (l0 :: l1 :: l2 :: l3 :: l4 :: l5 :: some (.long x) :: l) (.long x :: st) h := rfl
theorem s_M_keepMiddle_3  {a1 : Value} {a2 : Value} : wps rm K Q c_M_keepMiddle_3 kc ks loc (a2 :: a1 :: st) h = (st.length ≤ 4 ∧ eg_Cs n_M_common [a1, a2] h (fun v h9 => wps rm K Q c_M_keepMiddle_6 kc ks loc (v.toList ++ st) h9)) := eg_c0_2
theorem s_M_keepMiddle_6 {x : Int64} : wps rm K Q c_M_keepMiddle_6 kc ks loc (.long x :: st) h = wps rm K Q c_M_keepMiddle_8 kc ks (eg_set2 loc 8 (.long x)) (st) h := rfl
theorem s_M_keepMiddle_8 {x : Nat} {l : eg_Lo} : wps rm K Q c_M_keepMiddle_8 kc ks (some (.ref x) :: l) (st) h = wps rm K Q c_M_keepMiddle_9 kc ks (some (.ref x) :: l) (.ref x :: st) h := rfl
theorem s_M_keepMiddle_9 {x : Nat} : wps rm K Q c_M_keepMiddle_9 kc ks loc (.ref (x + 1) :: st) h = eg_gf h x 12 13 (fun v => wps rm K Q c_M_keepMiddle_12 kc ks loc (v :: st) h) := rfl
theorem s_M_keepMiddle_12  : wps rm K Q c_M_keepMiddle_12 kc ks loc (st) h = wps rm K Q c_M_keepMiddle_13 kc ks loc (.int (4) :: st) h := rfl
theorem s_M_keepMiddle_13 {x : Int32} {l0 : Option Value} {l : eg_Lo} : wps rm K Q c_M_keepMiddle_13 kc ks (l0 :: some (.int x) :: l) (st) h = wps rm K Q c_M_keepMiddle_14 kc ks (l0 :: some (.int x) :: l) (.int x :: st) h := rfl
theorem s_M_keepMiddle_14 {x y : Int32} : wps rm K Q c_M_keepMiddle_14 kc ks loc (.int y :: .int x :: st) h = wps rm K Q c_M_keepMiddle_15 kc ks loc (.int (x * y) :: st) h := rfl
theorem s_M_keepMiddle_15 {x : Int64} {l0 l1 : Option Value} {l : eg_Lo} : wps rm K Q c_M_keepMiddle_15 kc ks (l0 :: l1 :: some (.long x) :: l) (st) h = wps rm K Q c_M_keepMiddle_16 kc ks (l0 :: l1 :: some (.long x) :: l) (.long x :: st) h := rfl
theorem s_M_keepMiddle_16 {x : Int64} {l0 l1 l2 l3 l4 l5 l6 l7 : Option Value} {l : eg_Lo} : wps rm K Q c_M_keepMiddle_16 kc ks (l0 :: l1 :: l2 :: l3 :: l4 :: l5 :: l6 :: l7 :: some (.long x) :: l) (st) h = wps rm K Q c_M_keepMiddle_18 kc ks (l0 :: l1 :: l2 :: l3 :: l4 :: l5 :: l6 :: l7 :: some (.long x) :: l) (.long x :: st) h := rfl
theorem s_M_keepMiddle_18 {x y : Int64} : wps rm K Q c_M_keepMiddle_18 kc ks loc (.long y :: .long x :: st) h = (¬ y = 0 ∧ wps rm K Q c_M_keepMiddle_19 kc ks loc (.long (x / y) :: st) h) := rfl
theorem s_M_keepMiddle_19 {x : Nat} {i : Int32} {v : Int64} : wps rm K Q c_M_keepMiddle_19 kc ks loc (.long v :: .int i :: .ref (x + 1) :: st) h = eg_lst h x i v (fun h9 => wps rm K Q c_M_keepMiddle_20 kc ks loc (st) h9) := rfl
theorem s_M_keepMiddle_20 {x : Nat} {l : eg_Lo} : wps rm K Q c_M_keepMiddle_20 kc ks (some (.ref x) :: l) (st) h = wps rm K Q c_M_keepMiddle_21 kc ks (some (.ref x) :: l) (.ref x :: st) h := rfl
theorem s_M_keepMiddle_21 {x : Nat} : wps rm K Q c_M_keepMiddle_21 kc ks loc (.ref (x + 1) :: st) h = eg_gf h x 12 13 (fun v => wps rm K Q c_M_keepMiddle_24 kc ks loc (v :: st) h) := rfl
theorem s_M_keepMiddle_24  : wps rm K Q c_M_keepMiddle_24 kc ks loc (st) h = wps rm K Q c_M_keepMiddle_25 kc ks loc (.int (4) :: st) h := rfl
theorem s_M_keepMiddle_25 {x : Int32} {l0 : Option Value} {l : eg_Lo} : wps rm K Q c_M_keepMiddle_25 kc ks (l0 :: some (.int x) :: l) (st) h = wps rm K Q c_M_keepMiddle_26 kc ks (l0 :: some (.int x) :: l) (.int x :: st) h := rfl
theorem s_M_keepMiddle_26 {x y : Int32} : wps rm K Q c_M_keepMiddle_26 kc ks loc (.int y :: .int x :: st) h = wps rm K Q c_M_keepMiddle_27 kc ks loc (.int (x * y) :: st) h := rfl
theorem s_M_keepMiddle_27  : wps rm K Q c_M_keepMiddle_27 kc ks loc (st) h = wps rm K Q c_M_keepMiddle_28 kc ks loc (.int (1) :: st) h := rfl
theorem s_M_keepMiddle_28 {x y : Int32} : wps rm K Q c_M_keepMiddle_28 kc ks loc (.int y :: .int x :: st) h = wps rm K Q c_M_keepMiddle_29 kc ks loc (.int (x + y) :: st) h := rfl
theorem s_M_keepMiddle_29 {x : Int64} {l0 l1 l2 l3 l4 l5 : Option Value} {l : eg_Lo} : wps rm K Q c_M_keepMiddle_29 kc ks (l0 :: l1 :: l2 :: l3 :: l4 :: l5 :: some (.long x) :: l) (st) h = wps rm K Q c_M_keepMiddle_31 kc ks (l0 :: l1 :: l2 :: l3 :: l4 :: l5 :: some (.long x) :: l) (.long x :: st) h := rfl
theorem s_M_keepMiddle_31 {x : Int64} {l0 l1 l2 l3 l4 l5 l6 l7 : Option Value} {l : eg_Lo} : wps rm K Q c_M_keepMiddle_31 kc ks (l0 :: l1 :: l2 :: l3 :: l4 :: l5 :: l6 :: l7 :: some (.long x) :: l) (st) h = wps rm K Q c_M_keepMiddle_33 kc ks (l0 :: l1 :: l2 :: l3 :: l4 :: l5 :: l6 :: l7 :: some (.long x) :: l) (.long x :: st) h := rfl
theorem s_M_keepMiddle_33 {x y : Int64} : wps rm K Q c_M_keepMiddle_33 kc ks loc (.long y :: .long x :: st) h = (¬ y = 0 ∧ wps rm K Q c_M_keepMiddle_34 kc ks loc (.long (x / y) :: st) h) := rfl
theorem s_M_keepMiddle_34 {x : Nat} {i : Int32} {v : Int64} : wps rm K Q c_M_keepMiddle_34 kc ks loc (.long v :: .int i :: .ref (x + 1) :: st) h = eg_lst h x i v (fun h9 => wps rm K Q c_M_keepMiddle_35 kc ks loc (st) h9) := rfl
theorem s_M_keepMiddle_35 {x : Int64} {l0 l1 l2 l3 : Option Value} {l : eg_Lo} : wps rm K Q c_M_keepMiddle_35 kc ks (l0 :: l1 :: l2 :: l3 :: some (.long x) :: l) (st) h = wps rm K Q c_M_keepMiddle_37 kc ks (l0 :: l1 :: l2 :: l3 :: some (.long x) :: l) (.long x :: st) h := rfl
theorem s_M_keepMiddle_37 {x : Int64} {l0 l1 l2 l3 l4 l5 : Option Value} {l : eg_Lo} : wps rm K Q c_M_keepMiddle_37 kc ks (l0 :: l1 :: l2 :: l3 :: l4 :: l5 :: some (.long x) :: l) (st) h = wps rm K Q c_M_keepMiddle_39 kc ks (l0 :: l1 :: l2 :: l3 :: l4 :: l5 :: some (.long x) :: l) (.long x :: st) h := rfl
theorem s_M_keepMiddle_39  {a1 : Value} {a2 : Value} : wps rm K Q c_M_keepMiddle_39 kc ks loc (a2 :: a1 :: st) h = (st.length ≤ 4 ∧ eg_Cs n_M_common [a1, a2] h (fun v h9 => wps rm K Q c_M_keepMiddle_42 kc ks loc (v.toList ++ st) h9)) := eg_c0_2
theorem s_M_keepMiddle_42 {x : Int64} : wps rm K Q c_M_keepMiddle_42 kc ks loc (.long x :: st) h = wps rm K Q c_M_keepMiddle_44 kc ks (eg_set2 loc 8 (.long x)) (st) h := rfl
theorem s_M_keepMiddle_44 {x : Nat} {l : eg_Lo} : wps rm K Q c_M_keepMiddle_44 kc ks (some (.ref x) :: l) (st) h = wps rm K Q c_M_keepMiddle_45 kc ks (some (.ref x) :: l) (.ref x :: st) h := rfl
theorem s_M_keepMiddle_45 {x : Nat} : wps rm K Q c_M_keepMiddle_45 kc ks loc (.ref (x + 1) :: st) h = eg_gf h x 12 13 (fun v => wps rm K Q c_M_keepMiddle_48 kc ks loc (v :: st) h) := rfl
theorem s_M_keepMiddle_48  : wps rm K Q c_M_keepMiddle_48 kc ks loc (st) h = wps rm K Q c_M_keepMiddle_49 kc ks loc (.int (4) :: st) h := rfl
theorem s_M_keepMiddle_49 {x : Int32} {l0 : Option Value} {l : eg_Lo} : wps rm K Q c_M_keepMiddle_49 kc ks (l0 :: some (.int x) :: l) (st) h = wps rm K Q c_M_keepMiddle_50 kc ks (l0 :: some (.int x) :: l) (.int x :: st) h := rfl
theorem s_M_keepMiddle_50 {x y : Int32} : wps rm K Q c_M_keepMiddle_50 kc ks loc (.int y :: .int x :: st) h = wps rm K Q c_M_keepMiddle_51 kc ks loc (.int (x * y) :: st) h := rfl
theorem s_M_keepMiddle_51  : wps rm K Q c_M_keepMiddle_51 kc ks loc (st) h = wps rm K Q c_M_keepMiddle_52 kc ks loc (.int (2) :: st) h := rfl
theorem s_M_keepMiddle_52 {x y : Int32} : wps rm K Q c_M_keepMiddle_52 kc ks loc (.int y :: .int x :: st) h = wps rm K Q c_M_keepMiddle_53 kc ks loc (.int (x + y) :: st) h := rfl
theorem s_M_keepMiddle_53 {x : Int64} {l0 l1 l2 l3 : Option Value} {l : eg_Lo} : wps rm K Q c_M_keepMiddle_53 kc ks (l0 :: l1 :: l2 :: l3 :: some (.long x) :: l) (st) h = wps rm K Q c_M_keepMiddle_55 kc ks (l0 :: l1 :: l2 :: l3 :: some (.long x) :: l) (.long x :: st) h := rfl
theorem s_M_keepMiddle_55 {x : Int64} {l0 l1 l2 l3 l4 l5 l6 l7 : Option Value} {l : eg_Lo} : wps rm K Q c_M_keepMiddle_55 kc ks (l0 :: l1 :: l2 :: l3 :: l4 :: l5 :: l6 :: l7 :: some (.long x) :: l) (st) h = wps rm K Q c_M_keepMiddle_57 kc ks (l0 :: l1 :: l2 :: l3 :: l4 :: l5 :: l6 :: l7 :: some (.long x) :: l) (.long x :: st) h := rfl
theorem s_M_keepMiddle_57 {x y : Int64} : wps rm K Q c_M_keepMiddle_57 kc ks loc (.long y :: .long x :: st) h = (¬ y = 0 ∧ wps rm K Q c_M_keepMiddle_58 kc ks loc (.long (x / y) :: st) h) := rfl
theorem s_M_keepMiddle_58 {x : Nat} {i : Int32} {v : Int64} : wps rm K Q c_M_keepMiddle_58 kc ks loc (.long v :: .int i :: .ref (x + 1) :: st) h = eg_lst h x i v (fun h9 => wps rm K Q c_M_keepMiddle_59 kc ks loc (st) h9) := rfl
theorem s_M_keepMiddle_59 {x : Nat} {l : eg_Lo} : wps rm K Q c_M_keepMiddle_59 kc ks (some (.ref x) :: l) (st) h = wps rm K Q c_M_keepMiddle_60 kc ks (some (.ref x) :: l) (.ref x :: st) h := rfl
theorem s_M_keepMiddle_60 {x : Nat} : wps rm K Q c_M_keepMiddle_60 kc ks loc (.ref (x + 1) :: st) h = eg_gf h x 12 13 (fun v => wps rm K Q c_M_keepMiddle_63 kc ks loc (v :: st) h) := rfl
theorem s_M_keepMiddle_63  : wps rm K Q c_M_keepMiddle_63 kc ks loc (st) h = wps rm K Q c_M_keepMiddle_64 kc ks loc (.int (4) :: st) h := rfl
theorem s_M_keepMiddle_64 {x : Int32} {l0 : Option Value} {l : eg_Lo} : wps rm K Q c_M_keepMiddle_64 kc ks (l0 :: some (.int x) :: l) (st) h = wps rm K Q c_M_keepMiddle_65 kc ks (l0 :: some (.int x) :: l) (.int x :: st) h := rfl
theorem s_M_keepMiddle_65 {x y : Int32} : wps rm K Q c_M_keepMiddle_65 kc ks loc (.int y :: .int x :: st) h = wps rm K Q c_M_keepMiddle_66 kc ks loc (.int (x * y) :: st) h := rfl
theorem s_M_keepMiddle_66  : wps rm K Q c_M_keepMiddle_66 kc ks loc (st) h = wps rm K Q c_M_keepMiddle_67 kc ks loc (.int (3) :: st) h := rfl
theorem s_M_keepMiddle_67 {x y : Int32} : wps rm K Q c_M_keepMiddle_67 kc ks loc (.int y :: .int x :: st) h = wps rm K Q c_M_keepMiddle_68 kc ks loc (.int (x + y) :: st) h := rfl
theorem s_M_keepMiddle_68 {x : Int64} {l0 l1 l2 l3 l4 l5 : Option Value} {l : eg_Lo} : wps rm K Q c_M_keepMiddle_68 kc ks (l0 :: l1 :: l2 :: l3 :: l4 :: l5 :: some (.long x) :: l) (st) h = wps rm K Q c_M_keepMiddle_70 kc ks (l0 :: l1 :: l2 :: l3 :: l4 :: l5 :: some (.long x) :: l) (.long x :: st) h := rfl
theorem s_M_keepMiddle_70 {x : Int64} {l0 l1 l2 l3 l4 l5 l6 l7 : Option Value} {l : eg_Lo} : wps rm K Q c_M_keepMiddle_70 kc ks (l0 :: l1 :: l2 :: l3 :: l4 :: l5 :: l6 :: l7 :: some (.long x) :: l) (st) h = wps rm K Q c_M_keepMiddle_72 kc ks (l0 :: l1 :: l2 :: l3 :: l4 :: l5 :: l6 :: l7 :: some (.long x) :: l) (.long x :: st) h := rfl
theorem s_M_keepMiddle_72 {x y : Int64} : wps rm K Q c_M_keepMiddle_72 kc ks loc (.long y :: .long x :: st) h = (¬ y = 0 ∧ wps rm K Q c_M_keepMiddle_73 kc ks loc (.long (x / y) :: st) h) := rfl
theorem s_M_keepMiddle_73 {x : Nat} {i : Int32} {v : Int64} : wps rm K Q c_M_keepMiddle_73 kc ks loc (.long v :: .int i :: .ref (x + 1) :: st) h = eg_lst h x i v (fun h9 => wps rm K Q c_M_keepMiddle_74 kc ks loc (st) h9) := rfl
theorem s_M_keepMiddle_74  : wps rm K Q c_M_keepMiddle_74 kc ks loc ([]) h = (kc = rm.cells ∧ Q none h) := rfl
def T_M_keepMiddle : List (Nat × List eg_I) := []
end
theorem q_M_keepMiddle : (T_M_keepMiddle.all fun q => eg_seq m_M_keepMiddle q.1 q.2) = true := by decide +kernel
theorem b_M_keepMiddle {as : List Value} {h : List eg_E} {Q : Option Value → List eg_E → Prop} (hf : (eg_fl as).length ≤ 10) (hw : wps (eg_rm m_M_keepMiddle) (eg_run (eg_rm m_M_keepMiddle) (eg_R m_M_keepMiddle Q (h.length + 0)) Q T_M_keepMiddle 2) Q c_M_keepMiddle_0 0 0 (eg_entry 10 as) [] h) : eg_Runs n_M_keepMiddle as h Q := eg_begin (d := m_M_keepMiddle) rfl (by decide) (by decide +kernel) q_M_keepMiddle hf hw
/-! ===== M_fitCircle ===== -/
def c_M_fitCircle_485 : List eg_I := .inl (485, 1, .lreturn, 0, 0) :: []
def c_M_fitCircle_482 : List eg_I := .inr (482, 1, 238, n_M_circleOfThree, 2, 12, 0, 0) :: c_M_fitCircle_485
def c_M_fitCircle_481 : List eg_I := .inl (481, 1, .iload 2, 0, 0) :: c_M_fitCircle_482
def c_M_fitCircle_480 : List eg_I := .inl (480, 1, .iload 1, 0, 0) :: c_M_fitCircle_481
def c_M_fitCircle_479 : List eg_I := .inl (479, 1, .aload 0, 0, 0) :: c_M_fitCircle_480
def c_M_fitCircle_476 : List eg_I := .inl (476, 3, .goto (-258), 218, 0) :: []
def c_M_fitCircle_473 : List eg_I := .inl (473, 3, .iinc 6 (1), 0, 0) :: c_M_fitCircle_476
def c_M_fitCircle_470 : List eg_I := .inl (470, 3, .goto (-240), 230, 0) :: []
def c_M_fitCircle_467 : List eg_I := .inl (467, 3, .iinc 7 (1), 0, 0) :: c_M_fitCircle_470
def c_M_fitCircle_466 : List eg_I := .inl (466, 1, .lreturn, 0, 0) :: []
def c_M_fitCircle_463 : List eg_I := .inl (463, 3, .sipush (2), 216, 0) :: c_M_fitCircle_466
def c_M_fitCircle_460 : List eg_I := .inr (460, 1, 231, n_M_keepMiddle, 4, 12, 0, 0) :: c_M_fitCircle_463
def c_M_fitCircle_457 : List eg_I := .inl (457, 3, .sipush (2), 216, 0) :: c_M_fitCircle_460
def c_M_fitCircle_456 : List eg_I := .inl (456, 1, .i2l, 0, 0) :: c_M_fitCircle_457
def c_M_fitCircle_455 : List eg_I := .inl (455, 1, .iadd, 0, 0) :: c_M_fitCircle_456
def c_M_fitCircle_454 : List eg_I := .inl (454, 1, .iaload, 0, 0) :: c_M_fitCircle_455
def c_M_fitCircle_452 : List eg_I := .inl (452, 2, .iload 9, 0, 0) :: c_M_fitCircle_454
def c_M_fitCircle_449 : List eg_I := .inl (449, 3, .getfield 16, 12, 2) :: c_M_fitCircle_452
def c_M_fitCircle_448 : List eg_I := .inl (448, 1, .aload 0, 0, 0) :: c_M_fitCircle_449
def c_M_fitCircle_447 : List eg_I := .inl (447, 1, .iaload, 0, 0) :: c_M_fitCircle_448
def c_M_fitCircle_445 : List eg_I := .inl (445, 2, .iload 8, 0, 0) :: c_M_fitCircle_447
def c_M_fitCircle_442 : List eg_I := .inl (442, 3, .getfield 16, 12, 2) :: c_M_fitCircle_445
def c_M_fitCircle_441 : List eg_I := .inl (441, 1, .aload 0, 0, 0) :: c_M_fitCircle_442
def c_M_fitCircle_440 : List eg_I := .inl (440, 1, .i2l, 0, 0) :: c_M_fitCircle_441
def c_M_fitCircle_439 : List eg_I := .inl (439, 1, .iadd, 0, 0) :: c_M_fitCircle_440
def c_M_fitCircle_438 : List eg_I := .inl (438, 1, .iaload, 0, 0) :: c_M_fitCircle_439
def c_M_fitCircle_436 : List eg_I := .inl (436, 2, .iload 9, 0, 0) :: c_M_fitCircle_438
def c_M_fitCircle_433 : List eg_I := .inl (433, 3, .getfield 13, 12, 1) :: c_M_fitCircle_436
def c_M_fitCircle_432 : List eg_I := .inl (432, 1, .aload 0, 0, 0) :: c_M_fitCircle_433
def c_M_fitCircle_431 : List eg_I := .inl (431, 1, .iaload, 0, 0) :: c_M_fitCircle_432
def c_M_fitCircle_429 : List eg_I := .inl (429, 2, .iload 8, 0, 0) :: c_M_fitCircle_431
def c_M_fitCircle_426 : List eg_I := .inl (426, 3, .getfield 13, 12, 1) :: c_M_fitCircle_429
def c_M_fitCircle_425 : List eg_I := .inl (425, 1, .aload 0, 0, 0) :: c_M_fitCircle_426
def c_M_fitCircle_424 : List eg_I := .inl (424, 1, .iload 1, 0, 0) :: c_M_fitCircle_425
def c_M_fitCircle_423 : List eg_I := .inl (423, 1, .aload 0, 0, 0) :: c_M_fitCircle_424
def c_M_fitCircle_420 : List eg_I := .inr (420, 1, 196, n_M_keepMiss, 3, 12, 0, 0) :: c_M_fitCircle_423
def c_M_fitCircle_417 : List eg_I := .inl (417, 3, .sipush (4), 204, 0) :: c_M_fitCircle_420
def c_M_fitCircle_416 : List eg_I := .inl (416, 1, .ladd, 0, 0) :: c_M_fitCircle_417
def c_M_fitCircle_415 : List eg_I := .inl (415, 1, .lmul, 0, 0) :: c_M_fitCircle_416
def c_M_fitCircle_413 : List eg_I := .inl (413, 2, .lload 13, 0, 0) :: c_M_fitCircle_415
def c_M_fitCircle_411 : List eg_I := .inl (411, 2, .lload 13, 0, 0) :: c_M_fitCircle_413
def c_M_fitCircle_410 : List eg_I := .inl (410, 1, .lmul, 0, 0) :: c_M_fitCircle_411
def c_M_fitCircle_408 : List eg_I := .inl (408, 2, .lload 11, 0, 0) :: c_M_fitCircle_410
def c_M_fitCircle_406 : List eg_I := .inl (406, 2, .lload 11, 0, 0) :: c_M_fitCircle_408
def c_M_fitCircle_405 : List eg_I := .inl (405, 1, .iload 1, 0, 0) :: c_M_fitCircle_406
def c_M_fitCircle_404 : List eg_I := .inl (404, 1, .aload 0, 0, 0) :: c_M_fitCircle_405
def c_M_fitCircle_402 : List eg_I := .inl (402, 2, .lstore 13, 0, 0) :: c_M_fitCircle_404
def c_M_fitCircle_401 : List eg_I := .inl (401, 1, .i2l, 0, 0) :: c_M_fitCircle_402
def c_M_fitCircle_400 : List eg_I := .inl (400, 1, .isub, 0, 0) :: c_M_fitCircle_401
def c_M_fitCircle_399 : List eg_I := .inl (399, 1, .iaload, 0, 0) :: c_M_fitCircle_400
def c_M_fitCircle_397 : List eg_I := .inl (397, 2, .iload 9, 0, 0) :: c_M_fitCircle_399
def c_M_fitCircle_394 : List eg_I := .inl (394, 3, .getfield 16, 12, 2) :: c_M_fitCircle_397
def c_M_fitCircle_393 : List eg_I := .inl (393, 1, .aload 0, 0, 0) :: c_M_fitCircle_394
def c_M_fitCircle_392 : List eg_I := .inl (392, 1, .iaload, 0, 0) :: c_M_fitCircle_393
def c_M_fitCircle_390 : List eg_I := .inl (390, 2, .iload 8, 0, 0) :: c_M_fitCircle_392
def c_M_fitCircle_387 : List eg_I := .inl (387, 3, .getfield 16, 12, 2) :: c_M_fitCircle_390
def c_M_fitCircle_386 : List eg_I := .inl (386, 1, .aload 0, 0, 0) :: c_M_fitCircle_387
def c_M_fitCircle_384 : List eg_I := .inl (384, 2, .lstore 11, 0, 0) :: c_M_fitCircle_386
def c_M_fitCircle_383 : List eg_I := .inl (383, 1, .i2l, 0, 0) :: c_M_fitCircle_384
def c_M_fitCircle_382 : List eg_I := .inl (382, 1, .isub, 0, 0) :: c_M_fitCircle_383
def c_M_fitCircle_381 : List eg_I := .inl (381, 1, .iaload, 0, 0) :: c_M_fitCircle_382
def c_M_fitCircle_379 : List eg_I := .inl (379, 2, .iload 9, 0, 0) :: c_M_fitCircle_381
def c_M_fitCircle_376 : List eg_I := .inl (376, 3, .getfield 13, 12, 1) :: c_M_fitCircle_379
def c_M_fitCircle_375 : List eg_I := .inl (375, 1, .aload 0, 0, 0) :: c_M_fitCircle_376
def c_M_fitCircle_374 : List eg_I := .inl (374, 1, .iaload, 0, 0) :: c_M_fitCircle_375
def c_M_fitCircle_372 : List eg_I := .inl (372, 2, .iload 8, 0, 0) :: c_M_fitCircle_374
def c_M_fitCircle_369 : List eg_I := .inl (369, 3, .getfield 13, 12, 1) :: c_M_fitCircle_372
def c_M_fitCircle_368 : List eg_I := .inl (368, 1, .aload 0, 0, 0) :: c_M_fitCircle_369
def c_M_fitCircle_367 : List eg_I := .inl (367, 1, .iastore, 0, 0) :: c_M_fitCircle_368
def c_M_fitCircle_365 : List eg_I := .inl (365, 2, .iload 7, 0, 0) :: c_M_fitCircle_367
def c_M_fitCircle_364 : List eg_I := .inl (364, 1, .iadd, 0, 0) :: c_M_fitCircle_365
def c_M_fitCircle_363 : List eg_I := .inl (363, 1, .iconst (1), 0, 0) :: c_M_fitCircle_364
def c_M_fitCircle_362 : List eg_I := .inl (362, 1, .imul, 0, 0) :: c_M_fitCircle_363
def c_M_fitCircle_361 : List eg_I := .inl (361, 1, .iload 1, 0, 0) :: c_M_fitCircle_362
def c_M_fitCircle_359 : List eg_I := .inl (359, 2, .iconst (6), 0, 0) :: c_M_fitCircle_361
def c_M_fitCircle_356 : List eg_I := .inl (356, 3, .getfield 38, 12, 9) :: c_M_fitCircle_359
def c_M_fitCircle_355 : List eg_I := .inl (355, 1, .aload 0, 0, 0) :: c_M_fitCircle_356
def c_M_fitCircle_354 : List eg_I := .inl (354, 1, .iastore, 0, 0) :: c_M_fitCircle_355
def c_M_fitCircle_352 : List eg_I := .inl (352, 2, .iload 6, 0, 0) :: c_M_fitCircle_354
def c_M_fitCircle_351 : List eg_I := .inl (351, 1, .imul, 0, 0) :: c_M_fitCircle_352
def c_M_fitCircle_350 : List eg_I := .inl (350, 1, .iload 1, 0, 0) :: c_M_fitCircle_351
def c_M_fitCircle_348 : List eg_I := .inl (348, 2, .iconst (6), 0, 0) :: c_M_fitCircle_350
def c_M_fitCircle_345 : List eg_I := .inl (345, 3, .getfield 38, 12, 9) :: c_M_fitCircle_348
def c_M_fitCircle_344 : List eg_I := .inl (344, 1, .aload 0, 0, 0) :: c_M_fitCircle_345
def c_M_fitCircle_343 : List eg_I := .inl (343, 1, .iastore, 0, 0) :: c_M_fitCircle_344
def c_M_fitCircle_342 : List eg_I := .inl (342, 1, .iconst (2), 0, 0) :: c_M_fitCircle_343
def c_M_fitCircle_341 : List eg_I := .inl (341, 1, .iload 1, 0, 0) :: c_M_fitCircle_342
def c_M_fitCircle_338 : List eg_I := .inl (338, 3, .getfield 35, 12, 8) :: c_M_fitCircle_341
def c_M_fitCircle_337 : List eg_I := .inl (337, 1, .aload 0, 0, 0) :: c_M_fitCircle_338
def c_M_fitCircle_336 : List eg_I := .inl (336, 1, .iastore, 0, 0) :: c_M_fitCircle_337
def c_M_fitCircle_335 : List eg_I := .inl (335, 1, .iconst (5), 0, 0) :: c_M_fitCircle_336
def c_M_fitCircle_334 : List eg_I := .inl (334, 1, .iload 1, 0, 0) :: c_M_fitCircle_335
def c_M_fitCircle_331 : List eg_I := .inl (331, 3, .getfield 32, 12, 7) :: c_M_fitCircle_334
def c_M_fitCircle_330 : List eg_I := .inl (330, 1, .aload 0, 0, 0) :: c_M_fitCircle_331
def c_M_fitCircle_327 : List eg_I := .inl (327, 3, .ifCond .eq (140), 467, 0) :: c_M_fitCircle_330
def c_M_fitCircle_324 : List eg_I := .inr (324, 1, 235, n_M_isRoundOf, 3, 12, 0, 0) :: c_M_fitCircle_327
def c_M_fitCircle_322 : List eg_I := .inl (322, 2, .iload 7, 0, 0) :: c_M_fitCircle_324
def c_M_fitCircle_320 : List eg_I := .inl (320, 2, .iload 6, 0, 0) :: c_M_fitCircle_322
def c_M_fitCircle_319 : List eg_I := .inl (319, 1, .iload 2, 0, 0) :: c_M_fitCircle_320
def c_M_fitCircle_318 : List eg_I := .inl (318, 1, .aload 0, 0, 0) :: c_M_fitCircle_319
def c_M_fitCircle_315 : List eg_I := .inl (315, 3, .ifCond .eq (152), 467, 0) :: c_M_fitCircle_318
def c_M_fitCircle_313 : List eg_I := .inl (313, 2, .iload 10, 0, 0) :: c_M_fitCircle_315
def c_M_fitCircle_311 : List eg_I := .inl (311, 2, .istore 10, 0, 0) :: c_M_fitCircle_313
def c_M_fitCircle_310 : List eg_I := .inl (310, 1, .iconst (0), 0, 0) :: c_M_fitCircle_311
def c_M_fitCircle_307 : List eg_I := .inl (307, 3, .goto (4), 311, 0) :: []
def c_M_fitCircle_306 : List eg_I := .inl (306, 1, .iconst (1), 0, 0) :: c_M_fitCircle_307
def c_M_fitCircle_303 : List eg_I := .inl (303, 3, .if_icmp .eq (7), 310, 0) :: c_M_fitCircle_306
def c_M_fitCircle_302 : List eg_I := .inl (302, 1, .iaload, 0, 0) :: c_M_fitCircle_303
def c_M_fitCircle_300 : List eg_I := .inl (300, 2, .iload 9, 0, 0) :: c_M_fitCircle_302
def c_M_fitCircle_297 : List eg_I := .inl (297, 3, .getfield 16, 12, 2) :: c_M_fitCircle_300
def c_M_fitCircle_296 : List eg_I := .inl (296, 1, .aload 0, 0, 0) :: c_M_fitCircle_297
def c_M_fitCircle_295 : List eg_I := .inl (295, 1, .iaload, 0, 0) :: c_M_fitCircle_296
def c_M_fitCircle_293 : List eg_I := .inl (293, 2, .iload 8, 0, 0) :: c_M_fitCircle_295
def c_M_fitCircle_290 : List eg_I := .inl (290, 3, .getfield 16, 12, 2) :: c_M_fitCircle_293
def c_M_fitCircle_289 : List eg_I := .inl (289, 1, .aload 0, 0, 0) :: c_M_fitCircle_290
def c_M_fitCircle_286 : List eg_I := .inl (286, 3, .if_icmp .ne (20), 306, 0) :: c_M_fitCircle_289
def c_M_fitCircle_285 : List eg_I := .inl (285, 1, .iaload, 0, 0) :: c_M_fitCircle_286
def c_M_fitCircle_283 : List eg_I := .inl (283, 2, .iload 9, 0, 0) :: c_M_fitCircle_285
def c_M_fitCircle_280 : List eg_I := .inl (280, 3, .getfield 13, 12, 1) :: c_M_fitCircle_283
def c_M_fitCircle_279 : List eg_I := .inl (279, 1, .aload 0, 0, 0) :: c_M_fitCircle_280
def c_M_fitCircle_278 : List eg_I := .inl (278, 1, .iaload, 0, 0) :: c_M_fitCircle_279
def c_M_fitCircle_276 : List eg_I := .inl (276, 2, .iload 8, 0, 0) :: c_M_fitCircle_278
def c_M_fitCircle_273 : List eg_I := .inl (273, 3, .getfield 13, 12, 1) :: c_M_fitCircle_276
def c_M_fitCircle_272 : List eg_I := .inl (272, 1, .aload 0, 0, 0) :: c_M_fitCircle_273
def c_M_fitCircle_269 : List eg_I := .inl (269, 3, .ifCond .ne (41), 310, 0) :: c_M_fitCircle_272
def c_M_fitCircle_268 : List eg_I := .inl (268, 1, .baload, 0, 0) :: c_M_fitCircle_269
def c_M_fitCircle_266 : List eg_I := .inl (266, 2, .iload 9, 0, 0) :: c_M_fitCircle_268
def c_M_fitCircle_263 : List eg_I := .inl (263, 3, .getfield 22, 12, 4) :: c_M_fitCircle_266
def c_M_fitCircle_262 : List eg_I := .inl (262, 1, .aload 0, 0, 0) :: c_M_fitCircle_263
def c_M_fitCircle_259 : List eg_I := .inl (259, 3, .ifCond .ne (51), 310, 0) :: c_M_fitCircle_262
def c_M_fitCircle_258 : List eg_I := .inl (258, 1, .baload, 0, 0) :: c_M_fitCircle_259
def c_M_fitCircle_256 : List eg_I := .inl (256, 2, .iload 8, 0, 0) :: c_M_fitCircle_258
def c_M_fitCircle_253 : List eg_I := .inl (253, 3, .getfield 22, 12, 4) :: c_M_fitCircle_256
def c_M_fitCircle_252 : List eg_I := .inl (252, 1, .aload 0, 0, 0) :: c_M_fitCircle_253
def c_M_fitCircle_250 : List eg_I := .inl (250, 2, .istore 9, 0, 0) :: c_M_fitCircle_252
def c_M_fitCircle_247 : List eg_I := .inr (247, 0, 103, n_M_at_II, 2, 12, 0, 0) :: c_M_fitCircle_250
def c_M_fitCircle_245 : List eg_I := .inl (245, 2, .iload 7, 0, 0) :: c_M_fitCircle_247
def c_M_fitCircle_244 : List eg_I := .inl (244, 1, .iload 2, 0, 0) :: c_M_fitCircle_245
def c_M_fitCircle_242 : List eg_I := .inl (242, 2, .istore 8, 0, 0) :: c_M_fitCircle_244
def c_M_fitCircle_239 : List eg_I := .inr (239, 0, 103, n_M_at_II, 2, 12, 0, 0) :: c_M_fitCircle_242
def c_M_fitCircle_237 : List eg_I := .inl (237, 2, .iload 6, 0, 0) :: c_M_fitCircle_239
def c_M_fitCircle_236 : List eg_I := .inl (236, 1, .iload 2, 0, 0) :: c_M_fitCircle_237
def c_M_fitCircle_233 : List eg_I := .inl (233, 3, .if_icmp .ge (240), 473, 0) :: c_M_fitCircle_236
def c_M_fitCircle_232 : List eg_I := .inl (232, 1, .iload 3, 0, 0) :: c_M_fitCircle_233
def c_M_fitCircle_230 : List eg_I := .inl (230, 2, .iload 7, 0, 0) :: c_M_fitCircle_232
def c_M_fitCircle_228 : List eg_I := .inl (228, 2, .istore 7, 0, 0) :: [.inl (230, 0, .nop, 0, 0)]
def c_M_fitCircle_227 : List eg_I := .inl (227, 1, .iadd, 0, 0) :: c_M_fitCircle_228
def c_M_fitCircle_226 : List eg_I := .inl (226, 1, .iconst (1), 0, 0) :: c_M_fitCircle_227
def c_M_fitCircle_224 : List eg_I := .inl (224, 2, .iload 6, 0, 0) :: c_M_fitCircle_226
def c_M_fitCircle_221 : List eg_I := .inl (221, 3, .if_icmp .ge (258), 479, 0) :: c_M_fitCircle_224
def c_M_fitCircle_220 : List eg_I := .inl (220, 1, .iload 3, 0, 0) :: c_M_fitCircle_221
def c_M_fitCircle_218 : List eg_I := .inl (218, 2, .iload 6, 0, 0) :: c_M_fitCircle_220
def c_M_fitCircle_216 : List eg_I := .inl (216, 2, .istore 6, 0, 0) :: [.inl (218, 0, .nop, 0, 0)]
def c_M_fitCircle_215 : List eg_I := .inl (215, 1, .iconst (0), 0, 0) :: c_M_fitCircle_216
def c_M_fitCircle_214 : List eg_I := .inl (214, 1, .lreturn, 0, 0) :: []
def c_M_fitCircle_213 : List eg_I := .inl (213, 1, .sipush (1), 0, 0) :: c_M_fitCircle_214
def c_M_fitCircle_210 : List eg_I := .inr (210, 1, 231, n_M_keepMiddle, 4, 12, 0, 0) :: c_M_fitCircle_213
def c_M_fitCircle_209 : List eg_I := .inl (209, 1, .sipush (1), 0, 0) :: c_M_fitCircle_210
def c_M_fitCircle_208 : List eg_I := .inl (208, 1, .i2l, 0, 0) :: c_M_fitCircle_209
def c_M_fitCircle_207 : List eg_I := .inl (207, 1, .iaload, 0, 0) :: c_M_fitCircle_208
def c_M_fitCircle_204 : List eg_I := .inr (204, 0, 103, n_M_at_II, 2, 12, 0, 0) :: c_M_fitCircle_207
def c_M_fitCircle_202 : List eg_I := .inl (202, 2, .iload 4, 0, 0) :: c_M_fitCircle_204
def c_M_fitCircle_201 : List eg_I := .inl (201, 1, .iload 2, 0, 0) :: c_M_fitCircle_202
def c_M_fitCircle_198 : List eg_I := .inl (198, 3, .getfield 16, 12, 2) :: c_M_fitCircle_201
def c_M_fitCircle_197 : List eg_I := .inl (197, 1, .aload 0, 0, 0) :: c_M_fitCircle_198
def c_M_fitCircle_196 : List eg_I := .inl (196, 1, .i2l, 0, 0) :: c_M_fitCircle_197
def c_M_fitCircle_195 : List eg_I := .inl (195, 1, .iaload, 0, 0) :: c_M_fitCircle_196
def c_M_fitCircle_192 : List eg_I := .inr (192, 0, 103, n_M_at_II, 2, 12, 0, 0) :: c_M_fitCircle_195
def c_M_fitCircle_190 : List eg_I := .inl (190, 2, .iload 4, 0, 0) :: c_M_fitCircle_192
def c_M_fitCircle_189 : List eg_I := .inl (189, 1, .iload 2, 0, 0) :: c_M_fitCircle_190
def c_M_fitCircle_186 : List eg_I := .inl (186, 3, .getfield 13, 12, 1) :: c_M_fitCircle_189
def c_M_fitCircle_185 : List eg_I := .inl (185, 1, .aload 0, 0, 0) :: c_M_fitCircle_186
def c_M_fitCircle_184 : List eg_I := .inl (184, 1, .iload 1, 0, 0) :: c_M_fitCircle_185
def c_M_fitCircle_183 : List eg_I := .inl (183, 1, .aload 0, 0, 0) :: c_M_fitCircle_184
def c_M_fitCircle_180 : List eg_I := .inr (180, 1, 196, n_M_keepMiss, 3, 12, 0, 0) :: c_M_fitCircle_183
def c_M_fitCircle_179 : List eg_I := .inl (179, 1, .sipush (1), 0, 0) :: c_M_fitCircle_180
def c_M_fitCircle_178 : List eg_I := .inl (178, 1, .sipush (0), 0, 0) :: c_M_fitCircle_179
def c_M_fitCircle_177 : List eg_I := .inl (177, 1, .iload 1, 0, 0) :: c_M_fitCircle_178
def c_M_fitCircle_176 : List eg_I := .inl (176, 1, .aload 0, 0, 0) :: c_M_fitCircle_177
def c_M_fitCircle_175 : List eg_I := .inl (175, 1, .iastore, 0, 0) :: c_M_fitCircle_176
def c_M_fitCircle_173 : List eg_I := .inl (173, 2, .iload 4, 0, 0) :: c_M_fitCircle_175
def c_M_fitCircle_172 : List eg_I := .inl (172, 1, .imul, 0, 0) :: c_M_fitCircle_173
def c_M_fitCircle_171 : List eg_I := .inl (171, 1, .iload 1, 0, 0) :: c_M_fitCircle_172
def c_M_fitCircle_169 : List eg_I := .inl (169, 2, .iconst (6), 0, 0) :: c_M_fitCircle_171
def c_M_fitCircle_166 : List eg_I := .inl (166, 3, .getfield 38, 12, 9) :: c_M_fitCircle_169
def c_M_fitCircle_165 : List eg_I := .inl (165, 1, .aload 0, 0, 0) :: c_M_fitCircle_166
def c_M_fitCircle_164 : List eg_I := .inl (164, 1, .iastore, 0, 0) :: c_M_fitCircle_165
def c_M_fitCircle_163 : List eg_I := .inl (163, 1, .iconst (1), 0, 0) :: c_M_fitCircle_164
def c_M_fitCircle_162 : List eg_I := .inl (162, 1, .iload 1, 0, 0) :: c_M_fitCircle_163
def c_M_fitCircle_159 : List eg_I := .inl (159, 3, .getfield 35, 12, 8) :: c_M_fitCircle_162
def c_M_fitCircle_158 : List eg_I := .inl (158, 1, .aload 0, 0, 0) :: c_M_fitCircle_159
def c_M_fitCircle_157 : List eg_I := .inl (157, 1, .iastore, 0, 0) :: c_M_fitCircle_158
def c_M_fitCircle_156 : List eg_I := .inl (156, 1, .iconst (5), 0, 0) :: c_M_fitCircle_157
def c_M_fitCircle_155 : List eg_I := .inl (155, 1, .iload 1, 0, 0) :: c_M_fitCircle_156
def c_M_fitCircle_152 : List eg_I := .inl (152, 3, .getfield 32, 12, 7) :: c_M_fitCircle_155
def c_M_fitCircle_151 : List eg_I := .inl (151, 1, .aload 0, 0, 0) :: c_M_fitCircle_152
def c_M_fitCircle_148 : List eg_I := .inl (148, 3, .ifCond .ne (67), 215, 0) :: c_M_fitCircle_151
def c_M_fitCircle_146 : List eg_I := .inl (146, 2, .iload 5, 0, 0) :: c_M_fitCircle_148
def c_M_fitCircle_143 : List eg_I := .inl (143, 3, .goto (-79), 64, 0) :: []
def c_M_fitCircle_140 : List eg_I := .inl (140, 3, .iinc 6 (1), 0, 0) :: c_M_fitCircle_143
def c_M_fitCircle_138 : List eg_I := .inl (138, 2, .istore 5, 0, 0) :: c_M_fitCircle_140
def c_M_fitCircle_137 : List eg_I := .inl (137, 1, .ior, 0, 0) :: c_M_fitCircle_138
def c_M_fitCircle_136 : List eg_I := .inl (136, 1, .iconst (0), 0, 0) :: c_M_fitCircle_137
def c_M_fitCircle_133 : List eg_I := .inl (133, 3, .goto (4), 137, 0) :: []
def c_M_fitCircle_132 : List eg_I := .inl (132, 1, .iconst (1), 0, 0) :: c_M_fitCircle_133
def c_M_fitCircle_129 : List eg_I := .inl (129, 3, .if_icmp .eq (7), 136, 0) :: c_M_fitCircle_132
def c_M_fitCircle_128 : List eg_I := .inl (128, 1, .iaload, 0, 0) :: c_M_fitCircle_129
def c_M_fitCircle_125 : List eg_I := .inr (125, 0, 103, n_M_at_II, 2, 12, 0, 0) :: c_M_fitCircle_128
def c_M_fitCircle_123 : List eg_I := .inl (123, 2, .iload 4, 0, 0) :: c_M_fitCircle_125
def c_M_fitCircle_122 : List eg_I := .inl (122, 1, .iload 2, 0, 0) :: c_M_fitCircle_123
def c_M_fitCircle_119 : List eg_I := .inl (119, 3, .getfield 16, 12, 2) :: c_M_fitCircle_122
def c_M_fitCircle_118 : List eg_I := .inl (118, 1, .aload 0, 0, 0) :: c_M_fitCircle_119
def c_M_fitCircle_117 : List eg_I := .inl (117, 1, .iaload, 0, 0) :: c_M_fitCircle_118
def c_M_fitCircle_115 : List eg_I := .inl (115, 2, .iload 7, 0, 0) :: c_M_fitCircle_117
def c_M_fitCircle_112 : List eg_I := .inl (112, 3, .getfield 16, 12, 2) :: c_M_fitCircle_115
def c_M_fitCircle_111 : List eg_I := .inl (111, 1, .aload 0, 0, 0) :: c_M_fitCircle_112
def c_M_fitCircle_108 : List eg_I := .inl (108, 3, .if_icmp .ne (24), 132, 0) :: c_M_fitCircle_111
def c_M_fitCircle_107 : List eg_I := .inl (107, 1, .iaload, 0, 0) :: c_M_fitCircle_108
def c_M_fitCircle_104 : List eg_I := .inr (104, 0, 103, n_M_at_II, 2, 12, 0, 0) :: c_M_fitCircle_107
def c_M_fitCircle_102 : List eg_I := .inl (102, 2, .iload 4, 0, 0) :: c_M_fitCircle_104
def c_M_fitCircle_101 : List eg_I := .inl (101, 1, .iload 2, 0, 0) :: c_M_fitCircle_102
def c_M_fitCircle_98 : List eg_I := .inl (98, 3, .getfield 13, 12, 1) :: c_M_fitCircle_101
def c_M_fitCircle_97 : List eg_I := .inl (97, 1, .aload 0, 0, 0) :: c_M_fitCircle_98
def c_M_fitCircle_96 : List eg_I := .inl (96, 1, .iaload, 0, 0) :: c_M_fitCircle_97
def c_M_fitCircle_94 : List eg_I := .inl (94, 2, .iload 7, 0, 0) :: c_M_fitCircle_96
def c_M_fitCircle_91 : List eg_I := .inl (91, 3, .getfield 13, 12, 1) :: c_M_fitCircle_94
def c_M_fitCircle_90 : List eg_I := .inl (90, 1, .aload 0, 0, 0) :: c_M_fitCircle_91
def c_M_fitCircle_87 : List eg_I := .inl (87, 3, .ifCond .ne (49), 136, 0) :: c_M_fitCircle_90
def c_M_fitCircle_86 : List eg_I := .inl (86, 1, .baload, 0, 0) :: c_M_fitCircle_87
def c_M_fitCircle_84 : List eg_I := .inl (84, 2, .iload 7, 0, 0) :: c_M_fitCircle_86
def c_M_fitCircle_81 : List eg_I := .inl (81, 3, .getfield 22, 12, 4) :: c_M_fitCircle_84
def c_M_fitCircle_80 : List eg_I := .inl (80, 1, .aload 0, 0, 0) :: c_M_fitCircle_81
def c_M_fitCircle_78 : List eg_I := .inl (78, 2, .iload 5, 0, 0) :: c_M_fitCircle_80
def c_M_fitCircle_76 : List eg_I := .inl (76, 2, .istore 7, 0, 0) :: c_M_fitCircle_78
def c_M_fitCircle_73 : List eg_I := .inr (73, 0, 103, n_M_at_II, 2, 12, 0, 0) :: c_M_fitCircle_76
def c_M_fitCircle_71 : List eg_I := .inl (71, 2, .iload 6, 0, 0) :: c_M_fitCircle_73
def c_M_fitCircle_70 : List eg_I := .inl (70, 1, .iload 2, 0, 0) :: c_M_fitCircle_71
def c_M_fitCircle_67 : List eg_I := .inl (67, 3, .if_icmp .ge (79), 146, 0) :: c_M_fitCircle_70
def c_M_fitCircle_66 : List eg_I := .inl (66, 1, .iload 3, 0, 0) :: c_M_fitCircle_67
def c_M_fitCircle_64 : List eg_I := .inl (64, 2, .iload 6, 0, 0) :: c_M_fitCircle_66
def c_M_fitCircle_62 : List eg_I := .inl (62, 2, .istore 6, 0, 0) :: [.inl (64, 0, .nop, 0, 0)]
def c_M_fitCircle_61 : List eg_I := .inl (61, 1, .iconst (0), 0, 0) :: c_M_fitCircle_62
def c_M_fitCircle_60 : List eg_I := .inl (60, 1, .lreturn, 0, 0) :: []
def c_M_fitCircle_57 : List eg_I := .inr (57, 1, 112, n_M_finding, 1, 12, 0, 0) :: c_M_fitCircle_60
def c_M_fitCircle_54 : List eg_I := .inl (54, 3, .sipush (-1000000000000000006), 138, 0) :: c_M_fitCircle_57
def c_M_fitCircle_53 : List eg_I := .inl (53, 1, .aload 0, 0, 0) :: c_M_fitCircle_54
def c_M_fitCircle_50 : List eg_I := .inl (50, 3, .ifCond .ge (11), 61, 0) :: c_M_fitCircle_53
def c_M_fitCircle_48 : List eg_I := .inl (48, 2, .iload 4, 0, 0) :: c_M_fitCircle_50
def c_M_fitCircle_45 : List eg_I := .inl (45, 3, .goto (-27), 18, 0) :: []
def c_M_fitCircle_42 : List eg_I := .inl (42, 3, .iinc 6 (-1), 0, 0) :: c_M_fitCircle_45
def c_M_fitCircle_40 : List eg_I := .inl (40, 2, .istore 4, 0, 0) :: c_M_fitCircle_42
def c_M_fitCircle_38 : List eg_I := .inl (38, 2, .iload 4, 0, 0) :: c_M_fitCircle_40
def c_M_fitCircle_35 : List eg_I := .inl (35, 3, .goto (5), 40, 0) :: []
def c_M_fitCircle_33 : List eg_I := .inl (33, 2, .iload 6, 0, 0) :: c_M_fitCircle_35
def c_M_fitCircle_30 : List eg_I := .inl (30, 3, .ifCond .eq (8), 38, 0) :: c_M_fitCircle_33
def c_M_fitCircle_27 : List eg_I := .inr (27, 1, 185, n_M_isHere, 2, 12, 0, 0) :: c_M_fitCircle_30
def c_M_fitCircle_25 : List eg_I := .inl (25, 2, .iload 6, 0, 0) :: c_M_fitCircle_27
def c_M_fitCircle_24 : List eg_I := .inl (24, 1, .iload 2, 0, 0) :: c_M_fitCircle_25
def c_M_fitCircle_23 : List eg_I := .inl (23, 1, .aload 0, 0, 0) :: c_M_fitCircle_24
def c_M_fitCircle_20 : List eg_I := .inl (20, 3, .ifCond .lt (28), 48, 0) :: c_M_fitCircle_23
def c_M_fitCircle_18 : List eg_I := .inl (18, 2, .iload 6, 0, 0) :: c_M_fitCircle_20
def c_M_fitCircle_16 : List eg_I := .inl (16, 2, .istore 6, 0, 0) :: [.inl (18, 0, .nop, 0, 0)]
def c_M_fitCircle_15 : List eg_I := .inl (15, 1, .isub, 0, 0) :: c_M_fitCircle_16
def c_M_fitCircle_14 : List eg_I := .inl (14, 1, .iconst (1), 0, 0) :: c_M_fitCircle_15
def c_M_fitCircle_13 : List eg_I := .inl (13, 1, .iload 3, 0, 0) :: c_M_fitCircle_14
def c_M_fitCircle_11 : List eg_I := .inl (11, 2, .istore 5, 0, 0) :: c_M_fitCircle_13
def c_M_fitCircle_10 : List eg_I := .inl (10, 1, .iconst (0), 0, 0) :: c_M_fitCircle_11
def c_M_fitCircle_8 : List eg_I := .inl (8, 2, .istore 4, 0, 0) :: c_M_fitCircle_10
def c_M_fitCircle_7 : List eg_I := .inl (7, 1, .iconst (-1), 0, 0) :: c_M_fitCircle_8
def c_M_fitCircle_6 : List eg_I := .inl (6, 1, .istore 3, 0, 0) :: c_M_fitCircle_7
def c_M_fitCircle_5 : List eg_I := .inl (5, 1, .iaload, 0, 0) :: c_M_fitCircle_6
def c_M_fitCircle_4 : List eg_I := .inl (4, 1, .iload 2, 0, 0) :: c_M_fitCircle_5
def c_M_fitCircle_1 : List eg_I := .inl (1, 3, .getfield 9, 12, 0) :: c_M_fitCircle_4
def c_M_fitCircle_0 : List eg_I := .inl (0, 1, .aload 0, 0, 0) :: c_M_fitCircle_1
section
variable {rm : Room} {K : Nat → Nat → Nat → eg_Lo → List Value → List eg_E → Prop} {Q : Option Value → List eg_E → Prop} {kc ks : Nat} {loc : eg_Lo} {st : List Value} {h : List eg_E}
theorem s_M_fitCircle_0 {x : Nat} {l : eg_Lo} : wps rm K Q c_M_fitCircle_0 kc ks (some (.ref x) :: l) (st) h = wps rm K Q c_M_fitCircle_1 kc ks (some (.ref x) :: l) (.ref x :: st) h := rfl
theorem s_M_fitCircle_1 {x : Nat} : wps rm K Q c_M_fitCircle_1 kc ks loc (.ref (x + 1) :: st) h = eg_gf h x 12 0 (fun v => wps rm K Q c_M_fitCircle_4 kc ks loc (v :: st) h) := rfl
theorem s_M_fitCircle_4 {x : Int32} {l0 l1 : Option Value} {l : eg_Lo} : wps rm K Q c_M_fitCircle_4 kc ks (l0 :: l1 :: some (.int x) :: l) (st) h = wps rm K Q c_M_fitCircle_5 kc ks (l0 :: l1 :: some (.int x) :: l) (.int x :: st) h := rfl
theorem s_M_fitCircle_5 {x : Nat} {i : Int32} : wps rm K Q c_M_fitCircle_5 kc ks loc (.int i :: .ref (x + 1) :: st) h = eg_ia h x i (fun v => wps rm K Q c_M_fitCircle_6 kc ks loc (.int v :: st) h) := rfl
theorem s_M_fitCircle_6 {x : Int32} : wps rm K Q c_M_fitCircle_6 kc ks loc (.int x :: st) h = wps rm K Q c_M_fitCircle_7 kc ks (eg_set1 loc 3 (.int x)) (st) h := rfl
theorem s_M_fitCircle_7  : wps rm K Q c_M_fitCircle_7 kc ks loc (st) h = wps rm K Q c_M_fitCircle_8 kc ks loc (.int (-1) :: st) h := rfl
theorem s_M_fitCircle_8 {x : Int32} : wps rm K Q c_M_fitCircle_8 kc ks loc (.int x :: st) h = wps rm K Q c_M_fitCircle_10 kc ks (eg_set1 loc 4 (.int x)) (st) h := rfl
theorem s_M_fitCircle_10  : wps rm K Q c_M_fitCircle_10 kc ks loc (st) h = wps rm K Q c_M_fitCircle_11 kc ks loc (.int (0) :: st) h := rfl
theorem s_M_fitCircle_11 {x : Int32} : wps rm K Q c_M_fitCircle_11 kc ks loc (.int x :: st) h = wps rm K Q c_M_fitCircle_13 kc ks (eg_set1 loc 5 (.int x)) (st) h := rfl
theorem s_M_fitCircle_13 {x : Int32} {l0 l1 l2 : Option Value} {l : eg_Lo} : wps rm K Q c_M_fitCircle_13 kc ks (l0 :: l1 :: l2 :: some (.int x) :: l) (st) h = wps rm K Q c_M_fitCircle_14 kc ks (l0 :: l1 :: l2 :: some (.int x) :: l) (.int x :: st) h := rfl
theorem s_M_fitCircle_14  : wps rm K Q c_M_fitCircle_14 kc ks loc (st) h = wps rm K Q c_M_fitCircle_15 kc ks loc (.int (1) :: st) h := rfl
theorem s_M_fitCircle_15 {x y : Int32} : wps rm K Q c_M_fitCircle_15 kc ks loc (.int y :: .int x :: st) h = wps rm K Q c_M_fitCircle_16 kc ks loc (.int (x - y) :: st) h := rfl
theorem s_M_fitCircle_16 {x : Int32} : wps rm K Q c_M_fitCircle_16 kc ks loc (.int x :: st) h = K 18 kc ks (eg_set1 loc 6 (.int x)) (st) h := rfl
theorem s_M_fitCircle_18 {x : Int32} {l0 l1 l2 l3 l4 l5 : Option Value} {l : eg_Lo} : wps rm K Q c_M_fitCircle_18 kc ks (l0 :: l1 :: l2 :: l3 :: l4 :: l5 :: some (.int x) :: l) (st) h = wps rm K Q c_M_fitCircle_20 kc ks (l0 :: l1 :: l2 :: l3 :: l4 :: l5 :: some (.int x) :: l) (.int x :: st) h := rfl
theorem s_M_fitCircle_20 {x : Int32} : wps rm K Q c_M_fitCircle_20 kc ks loc (.int x :: st) h = ((x < 0 → K 48 kc ks loc st h) ∧ (¬ x < 0 → wps rm K Q c_M_fitCircle_23 kc ks loc (st) h)) := rfl
theorem s_M_fitCircle_23 {x : Nat} {l : eg_Lo} : wps rm K Q c_M_fitCircle_23 kc ks (some (.ref x) :: l) (st) h = wps rm K Q c_M_fitCircle_24 kc ks (some (.ref x) :: l) (.ref x :: st) h := rfl
theorem s_M_fitCircle_24 {x : Int32} {l0 l1 : Option Value} {l : eg_Lo} : wps rm K Q c_M_fitCircle_24 kc ks (l0 :: l1 :: some (.int x) :: l) (st) h = wps rm K Q c_M_fitCircle_25 kc ks (l0 :: l1 :: some (.int x) :: l) (.int x :: st) h := rfl
theorem s_M_fitCircle_25 {x : Int32} {l0 l1 l2 l3 l4 l5 : Option Value} {l : eg_Lo} : wps rm K Q c_M_fitCircle_25 kc ks (l0 :: l1 :: l2 :: l3 :: l4 :: l5 :: some (.int x) :: l) (st) h = wps rm K Q c_M_fitCircle_27 kc ks (l0 :: l1 :: l2 :: l3 :: l4 :: l5 :: some (.int x) :: l) (.int x :: st) h := rfl
theorem s_M_fitCircle_27  {a1 : Value} {a2 : Value} {x : Nat} : wps rm K Q c_M_fitCircle_27 kc ks loc (a2 :: a1 :: .ref (x + 1) :: st) h = (eg_cls h x 12 ∧ st.length ≤ 4 ∧ eg_Cs n_M_isHere (.ref (x + 1) :: [a1, a2]) h (fun v h9 => wps rm K Q c_M_fitCircle_30 kc ks loc (v.toList ++ st) h9)) := eg_c1_2
theorem s_M_fitCircle_30 {x : Int32} : wps rm K Q c_M_fitCircle_30 kc ks loc (.int x :: st) h = ((x = 0 → K 38 kc ks loc st h) ∧ (¬ x = 0 → wps rm K Q c_M_fitCircle_33 kc ks loc (st) h)) := rfl
theorem s_M_fitCircle_33 {x : Int32} {l0 l1 l2 l3 l4 l5 : Option Value} {l : eg_Lo} : wps rm K Q c_M_fitCircle_33 kc ks (l0 :: l1 :: l2 :: l3 :: l4 :: l5 :: some (.int x) :: l) (st) h = wps rm K Q c_M_fitCircle_35 kc ks (l0 :: l1 :: l2 :: l3 :: l4 :: l5 :: some (.int x) :: l) (.int x :: st) h := rfl
theorem s_M_fitCircle_35  : wps rm K Q c_M_fitCircle_35 kc ks loc (st) h = K 40 kc ks loc st h := rfl
theorem s_M_fitCircle_38 {x : Int32} {l0 l1 l2 l3 : Option Value} {l : eg_Lo} : wps rm K Q c_M_fitCircle_38 kc ks (l0 :: l1 :: l2 :: l3 :: some (.int x) :: l) (st) h = wps rm K Q c_M_fitCircle_40 kc ks (l0 :: l1 :: l2 :: l3 :: some (.int x) :: l) (.int x :: st) h := rfl
theorem s_M_fitCircle_40 {x : Int32} : wps rm K Q c_M_fitCircle_40 kc ks loc (.int x :: st) h = wps rm K Q c_M_fitCircle_42 kc ks (eg_set1 loc 4 (.int x)) (st) h := rfl
theorem s_M_fitCircle_42 {x : Int32} {l0 l1 l2 l3 l4 l5 : Option Value} {l9 : eg_Lo} : wps rm K Q c_M_fitCircle_42 kc ks (l0 :: l1 :: l2 :: l3 :: l4 :: l5 :: some (.int x) :: l9) (st) h = wps rm K Q c_M_fitCircle_45 kc ks (eg_set1 (l0 :: l1 :: l2 :: l3 :: l4 :: l5 :: some (.int x) :: l9) 6 (.int (x + (-1)))) (st) h := rfl
theorem s_M_fitCircle_45  : wps rm K Q c_M_fitCircle_45 kc ks loc (st) h = K 18 kc ks loc st h := rfl
theorem s_M_fitCircle_48 {x : Int32} {l0 l1 l2 l3 : Option Value} {l : eg_Lo} : wps rm K Q c_M_fitCircle_48 kc ks (l0 :: l1 :: l2 :: l3 :: some (.int x) :: l) (st) h = wps rm K Q c_M_fitCircle_50 kc ks (l0 :: l1 :: l2 :: l3 :: some (.int x) :: l) (.int x :: st) h := rfl
theorem s_M_fitCircle_50 {x : Int32} : wps rm K Q c_M_fitCircle_50 kc ks loc (.int x :: st) h = ((0 ≤ x → K 61 kc ks loc st h) ∧ (¬ 0 ≤ x → wps rm K Q c_M_fitCircle_53 kc ks loc (st) h)) := rfl
theorem s_M_fitCircle_53 {x : Nat} {l : eg_Lo} : wps rm K Q c_M_fitCircle_53 kc ks (some (.ref x) :: l) (st) h = wps rm K Q c_M_fitCircle_54 kc ks (some (.ref x) :: l) (.ref x :: st) h := rfl
theorem s_M_fitCircle_54  : wps rm K Q c_M_fitCircle_54 kc ks loc (st) h = wps rm K Q c_M_fitCircle_57 kc ks loc (.long (-1000000000000000006) :: st) h := rfl
theorem s_M_fitCircle_57  {a1 : Value} {x : Nat} : wps rm K Q c_M_fitCircle_57 kc ks loc (a1 :: .ref (x + 1) :: st) h = (eg_cls h x 12 ∧ st.length ≤ 4 ∧ eg_Cs n_M_finding (.ref (x + 1) :: [a1]) h (fun v h9 => wps rm K Q c_M_fitCircle_60 kc ks loc (v.toList ++ st) h9)) := eg_c1_1
theorem s_M_fitCircle_60 {x : Int64} : wps rm K Q c_M_fitCircle_60 kc ks loc ([.long x]) h = (kc = rm.cells ∧ Q (some (.long x)) h) := rfl
theorem s_M_fitCircle_61  : wps rm K Q c_M_fitCircle_61 kc ks loc (st) h = wps rm K Q c_M_fitCircle_62 kc ks loc (.int (0) :: st) h := rfl
theorem s_M_fitCircle_62 {x : Int32} : wps rm K Q c_M_fitCircle_62 kc ks loc (.int x :: st) h = K 64 kc ks (eg_set1 loc 6 (.int x)) (st) h := rfl
theorem s_M_fitCircle_64 {x : Int32} {l0 l1 l2 l3 l4 l5 : Option Value} {l : eg_Lo} : wps rm K Q c_M_fitCircle_64 kc ks (l0 :: l1 :: l2 :: l3 :: l4 :: l5 :: some (.int x) :: l) (st) h = wps rm K Q c_M_fitCircle_66 kc ks (l0 :: l1 :: l2 :: l3 :: l4 :: l5 :: some (.int x) :: l) (.int x :: st) h := rfl
theorem s_M_fitCircle_66 {x : Int32} {l0 l1 l2 : Option Value} {l : eg_Lo} : wps rm K Q c_M_fitCircle_66 kc ks (l0 :: l1 :: l2 :: some (.int x) :: l) (st) h = wps rm K Q c_M_fitCircle_67 kc ks (l0 :: l1 :: l2 :: some (.int x) :: l) (.int x :: st) h := rfl
theorem s_M_fitCircle_67 {x y : Int32} : wps rm K Q c_M_fitCircle_67 kc ks loc (.int y :: .int x :: st) h = ((y ≤ x → K 146 kc ks loc st h) ∧ (¬ y ≤ x → wps rm K Q c_M_fitCircle_70 kc ks loc (st) h)) := rfl
theorem s_M_fitCircle_70 {x : Int32} {l0 l1 : Option Value} {l : eg_Lo} : wps rm K Q c_M_fitCircle_70 kc ks (l0 :: l1 :: some (.int x) :: l) (st) h = wps rm K Q c_M_fitCircle_71 kc ks (l0 :: l1 :: some (.int x) :: l) (.int x :: st) h := rfl
theorem s_M_fitCircle_71 {x : Int32} {l0 l1 l2 l3 l4 l5 : Option Value} {l : eg_Lo} : wps rm K Q c_M_fitCircle_71 kc ks (l0 :: l1 :: l2 :: l3 :: l4 :: l5 :: some (.int x) :: l) (st) h = wps rm K Q c_M_fitCircle_73 kc ks (l0 :: l1 :: l2 :: l3 :: l4 :: l5 :: some (.int x) :: l) (.int x :: st) h := rfl
theorem s_M_fitCircle_73  {a1 : Value} {a2 : Value} : wps rm K Q c_M_fitCircle_73 kc ks loc (a2 :: a1 :: st) h = (st.length ≤ 4 ∧ eg_Cs n_M_at_II [a1, a2] h (fun v h9 => wps rm K Q c_M_fitCircle_76 kc ks loc (v.toList ++ st) h9)) := eg_c0_2
theorem s_M_fitCircle_76 {x : Int32} : wps rm K Q c_M_fitCircle_76 kc ks loc (.int x :: st) h = wps rm K Q c_M_fitCircle_78 kc ks (eg_set1 loc 7 (.int x)) (st) h := rfl
theorem s_M_fitCircle_78 {x : Int32} {l0 l1 l2 l3 l4 : Option Value} {l : eg_Lo} : wps rm K Q c_M_fitCircle_78 kc ks (l0 :: l1 :: l2 :: l3 :: l4 :: some (.int x) :: l) (st) h = wps rm K Q c_M_fitCircle_80 kc ks (l0 :: l1 :: l2 :: l3 :: l4 :: some (.int x) :: l) (.int x :: st) h := rfl
theorem s_M_fitCircle_80 {x : Nat} {l : eg_Lo} : wps rm K Q c_M_fitCircle_80 kc ks (some (.ref x) :: l) (st) h = wps rm K Q c_M_fitCircle_81 kc ks (some (.ref x) :: l) (.ref x :: st) h := rfl
theorem s_M_fitCircle_81 {x : Nat} : wps rm K Q c_M_fitCircle_81 kc ks loc (.ref (x + 1) :: st) h = eg_gf h x 12 4 (fun v => wps rm K Q c_M_fitCircle_84 kc ks loc (v :: st) h) := rfl
theorem s_M_fitCircle_84 {x : Int32} {l0 l1 l2 l3 l4 l5 l6 : Option Value} {l : eg_Lo} : wps rm K Q c_M_fitCircle_84 kc ks (l0 :: l1 :: l2 :: l3 :: l4 :: l5 :: l6 :: some (.int x) :: l) (st) h = wps rm K Q c_M_fitCircle_86 kc ks (l0 :: l1 :: l2 :: l3 :: l4 :: l5 :: l6 :: some (.int x) :: l) (.int x :: st) h := rfl
theorem s_M_fitCircle_86 {x : Nat} {i : Int32} : wps rm K Q c_M_fitCircle_86 kc ks loc (.int i :: .ref (x + 1) :: st) h = eg_ba h x i (fun v => wps rm K Q c_M_fitCircle_87 kc ks loc (.int v :: st) h) := rfl
theorem s_M_fitCircle_87 {x : Int32} : wps rm K Q c_M_fitCircle_87 kc ks loc (.int x :: st) h = ((¬ x = 0 → K 136 kc ks loc st h) ∧ (x = 0 → wps rm K Q c_M_fitCircle_90 kc ks loc (st) h)) := rfl
theorem s_M_fitCircle_90 {x : Nat} {l : eg_Lo} : wps rm K Q c_M_fitCircle_90 kc ks (some (.ref x) :: l) (st) h = wps rm K Q c_M_fitCircle_91 kc ks (some (.ref x) :: l) (.ref x :: st) h := rfl
theorem s_M_fitCircle_91 {x : Nat} : wps rm K Q c_M_fitCircle_91 kc ks loc (.ref (x + 1) :: st) h = eg_gf h x 12 1 (fun v => wps rm K Q c_M_fitCircle_94 kc ks loc (v :: st) h) := rfl
theorem s_M_fitCircle_94 {x : Int32} {l0 l1 l2 l3 l4 l5 l6 : Option Value} {l : eg_Lo} : wps rm K Q c_M_fitCircle_94 kc ks (l0 :: l1 :: l2 :: l3 :: l4 :: l5 :: l6 :: some (.int x) :: l) (st) h = wps rm K Q c_M_fitCircle_96 kc ks (l0 :: l1 :: l2 :: l3 :: l4 :: l5 :: l6 :: some (.int x) :: l) (.int x :: st) h := rfl
theorem s_M_fitCircle_96 {x : Nat} {i : Int32} : wps rm K Q c_M_fitCircle_96 kc ks loc (.int i :: .ref (x + 1) :: st) h = eg_ia h x i (fun v => wps rm K Q c_M_fitCircle_97 kc ks loc (.int v :: st) h) := rfl
theorem s_M_fitCircle_97 {x : Nat} {l : eg_Lo} : wps rm K Q c_M_fitCircle_97 kc ks (some (.ref x) :: l) (st) h = wps rm K Q c_M_fitCircle_98 kc ks (some (.ref x) :: l) (.ref x :: st) h := rfl
theorem s_M_fitCircle_98 {x : Nat} : wps rm K Q c_M_fitCircle_98 kc ks loc (.ref (x + 1) :: st) h = eg_gf h x 12 1 (fun v => wps rm K Q c_M_fitCircle_101 kc ks loc (v :: st) h) := rfl
theorem s_M_fitCircle_101 {x : Int32} {l0 l1 : Option Value} {l : eg_Lo} : wps rm K Q c_M_fitCircle_101 kc ks (l0 :: l1 :: some (.int x) :: l) (st) h = wps rm K Q c_M_fitCircle_102 kc ks (l0 :: l1 :: some (.int x) :: l) (.int x :: st) h := rfl
theorem s_M_fitCircle_102 {x : Int32} {l0 l1 l2 l3 : Option Value} {l : eg_Lo} : wps rm K Q c_M_fitCircle_102 kc ks (l0 :: l1 :: l2 :: l3 :: some (.int x) :: l) (st) h = wps rm K Q c_M_fitCircle_104 kc ks (l0 :: l1 :: l2 :: l3 :: some (.int x) :: l) (.int x :: st) h := rfl
theorem s_M_fitCircle_104  {a1 : Value} {a2 : Value} : wps rm K Q c_M_fitCircle_104 kc ks loc (a2 :: a1 :: st) h = (st.length ≤ 4 ∧ eg_Cs n_M_at_II [a1, a2] h (fun v h9 => wps rm K Q c_M_fitCircle_107 kc ks loc (v.toList ++ st) h9)) := eg_c0_2
theorem s_M_fitCircle_107 {x : Nat} {i : Int32} : wps rm K Q c_M_fitCircle_107 kc ks loc (.int i :: .ref (x + 1) :: st) h = eg_ia h x i (fun v => wps rm K Q c_M_fitCircle_108 kc ks loc (.int v :: st) h) := rfl
theorem s_M_fitCircle_108 {x y : Int32} : wps rm K Q c_M_fitCircle_108 kc ks loc (.int y :: .int x :: st) h = ((¬ x = y → K 132 kc ks loc st h) ∧ (x = y → wps rm K Q c_M_fitCircle_111 kc ks loc (st) h)) := rfl
theorem s_M_fitCircle_111 {x : Nat} {l : eg_Lo} : wps rm K Q c_M_fitCircle_111 kc ks (some (.ref x) :: l) (st) h = wps rm K Q c_M_fitCircle_112 kc ks (some (.ref x) :: l) (.ref x :: st) h := rfl
theorem s_M_fitCircle_112 {x : Nat} : wps rm K Q c_M_fitCircle_112 kc ks loc (.ref (x + 1) :: st) h = eg_gf h x 12 2 (fun v => wps rm K Q c_M_fitCircle_115 kc ks loc (v :: st) h) := rfl
theorem s_M_fitCircle_115 {x : Int32} {l0 l1 l2 l3 l4 l5 l6 : Option Value} {l : eg_Lo} : wps rm K Q c_M_fitCircle_115 kc ks (l0 :: l1 :: l2 :: l3 :: l4 :: l5 :: l6 :: some (.int x) :: l) (st) h = wps rm K Q c_M_fitCircle_117 kc ks (l0 :: l1 :: l2 :: l3 :: l4 :: l5 :: l6 :: some (.int x) :: l) (.int x :: st) h := rfl
theorem s_M_fitCircle_117 {x : Nat} {i : Int32} : wps rm K Q c_M_fitCircle_117 kc ks loc (.int i :: .ref (x + 1) :: st) h = eg_ia h x i (fun v => wps rm K Q c_M_fitCircle_118 kc ks loc (.int v :: st) h) := rfl
theorem s_M_fitCircle_118 {x : Nat} {l : eg_Lo} : wps rm K Q c_M_fitCircle_118 kc ks (some (.ref x) :: l) (st) h = wps rm K Q c_M_fitCircle_119 kc ks (some (.ref x) :: l) (.ref x :: st) h := rfl
theorem s_M_fitCircle_119 {x : Nat} : wps rm K Q c_M_fitCircle_119 kc ks loc (.ref (x + 1) :: st) h = eg_gf h x 12 2 (fun v => wps rm K Q c_M_fitCircle_122 kc ks loc (v :: st) h) := rfl
theorem s_M_fitCircle_122 {x : Int32} {l0 l1 : Option Value} {l : eg_Lo} : wps rm K Q c_M_fitCircle_122 kc ks (l0 :: l1 :: some (.int x) :: l) (st) h = wps rm K Q c_M_fitCircle_123 kc ks (l0 :: l1 :: some (.int x) :: l) (.int x :: st) h := rfl
theorem s_M_fitCircle_123 {x : Int32} {l0 l1 l2 l3 : Option Value} {l : eg_Lo} : wps rm K Q c_M_fitCircle_123 kc ks (l0 :: l1 :: l2 :: l3 :: some (.int x) :: l) (st) h = wps rm K Q c_M_fitCircle_125 kc ks (l0 :: l1 :: l2 :: l3 :: some (.int x) :: l) (.int x :: st) h := rfl
theorem s_M_fitCircle_125  {a1 : Value} {a2 : Value} : wps rm K Q c_M_fitCircle_125 kc ks loc (a2 :: a1 :: st) h = (st.length ≤ 4 ∧ eg_Cs n_M_at_II [a1, a2] h (fun v h9 => wps rm K Q c_M_fitCircle_128 kc ks loc (v.toList ++ st) h9)) := eg_c0_2
theorem s_M_fitCircle_128 {x : Nat} {i : Int32} : wps rm K Q c_M_fitCircle_128 kc ks loc (.int i :: .ref (x + 1) :: st) h = eg_ia h x i (fun v => wps rm K Q c_M_fitCircle_129 kc ks loc (.int v :: st) h) := rfl
theorem s_M_fitCircle_129 {x y : Int32} : wps rm K Q c_M_fitCircle_129 kc ks loc (.int y :: .int x :: st) h = ((x = y → K 136 kc ks loc st h) ∧ (¬ x = y → wps rm K Q c_M_fitCircle_132 kc ks loc (st) h)) := rfl
theorem s_M_fitCircle_132  : wps rm K Q c_M_fitCircle_132 kc ks loc (st) h = wps rm K Q c_M_fitCircle_133 kc ks loc (.int (1) :: st) h := rfl
theorem s_M_fitCircle_133  : wps rm K Q c_M_fitCircle_133 kc ks loc (st) h = K 137 kc ks loc st h := rfl
theorem s_M_fitCircle_136  : wps rm K Q c_M_fitCircle_136 kc ks loc (st) h = wps rm K Q c_M_fitCircle_137 kc ks loc (.int (0) :: st) h := rfl
theorem s_M_fitCircle_137 {x y : Int32} : wps rm K Q c_M_fitCircle_137 kc ks loc (.int y :: .int x :: st) h = wps rm K Q c_M_fitCircle_138 kc ks loc (.int (x ||| y) :: st) h := rfl
theorem s_M_fitCircle_138 {x : Int32} : wps rm K Q c_M_fitCircle_138 kc ks loc (.int x :: st) h = wps rm K Q c_M_fitCircle_140 kc ks (eg_set1 loc 5 (.int x)) (st) h := rfl
theorem s_M_fitCircle_140 {x : Int32} {l0 l1 l2 l3 l4 l5 : Option Value} {l9 : eg_Lo} : wps rm K Q c_M_fitCircle_140 kc ks (l0 :: l1 :: l2 :: l3 :: l4 :: l5 :: some (.int x) :: l9) (st) h = wps rm K Q c_M_fitCircle_143 kc ks (eg_set1 (l0 :: l1 :: l2 :: l3 :: l4 :: l5 :: some (.int x) :: l9) 6 (.int (x + (1)))) (st) h := rfl
theorem s_M_fitCircle_143  : wps rm K Q c_M_fitCircle_143 kc ks loc (st) h = K 64 kc ks loc st h := rfl
theorem s_M_fitCircle_146 {x : Int32} {l0 l1 l2 l3 l4 : Option Value} {l : eg_Lo} : wps rm K Q c_M_fitCircle_146 kc ks (l0 :: l1 :: l2 :: l3 :: l4 :: some (.int x) :: l) (st) h = wps rm K Q c_M_fitCircle_148 kc ks (l0 :: l1 :: l2 :: l3 :: l4 :: some (.int x) :: l) (.int x :: st) h := rfl
theorem s_M_fitCircle_148 {x : Int32} : wps rm K Q c_M_fitCircle_148 kc ks loc (.int x :: st) h = ((¬ x = 0 → K 215 kc ks loc st h) ∧ (x = 0 → wps rm K Q c_M_fitCircle_151 kc ks loc (st) h)) := rfl
theorem s_M_fitCircle_151 {x : Nat} {l : eg_Lo} : wps rm K Q c_M_fitCircle_151 kc ks (some (.ref x) :: l) (st) h = wps rm K Q c_M_fitCircle_152 kc ks (some (.ref x) :: l) (.ref x :: st) h := rfl
theorem s_M_fitCircle_152 {x : Nat} : wps rm K Q c_M_fitCircle_152 kc ks loc (.ref (x + 1) :: st) h = eg_gf h x 12 7 (fun v => wps rm K Q c_M_fitCircle_155 kc ks loc (v :: st) h) := rfl
theorem s_M_fitCircle_155 {x : Int32} {l0 : Option Value} {l : eg_Lo} : wps rm K Q c_M_fitCircle_155 kc ks (l0 :: some (.int x) :: l) (st) h = wps rm K Q c_M_fitCircle_156 kc ks (l0 :: some (.int x) :: l) (.int x :: st) h := rfl
theorem s_M_fitCircle_156  : wps rm K Q c_M_fitCircle_156 kc ks loc (st) h = wps rm K Q c_M_fitCircle_157 kc ks loc (.int (5) :: st) h := rfl
theorem s_M_fitCircle_157 {x : Nat} {i : Int32} {v : Int32} : wps rm K Q c_M_fitCircle_157 kc ks loc (.int v :: .int i :: .ref (x + 1) :: st) h = eg_is h x i v (fun h9 => wps rm K Q c_M_fitCircle_158 kc ks loc (st) h9) := rfl
theorem s_M_fitCircle_158 {x : Nat} {l : eg_Lo} : wps rm K Q c_M_fitCircle_158 kc ks (some (.ref x) :: l) (st) h = wps rm K Q c_M_fitCircle_159 kc ks (some (.ref x) :: l) (.ref x :: st) h := rfl
theorem s_M_fitCircle_159 {x : Nat} : wps rm K Q c_M_fitCircle_159 kc ks loc (.ref (x + 1) :: st) h = eg_gf h x 12 8 (fun v => wps rm K Q c_M_fitCircle_162 kc ks loc (v :: st) h) := rfl
theorem s_M_fitCircle_162 {x : Int32} {l0 : Option Value} {l : eg_Lo} : wps rm K Q c_M_fitCircle_162 kc ks (l0 :: some (.int x) :: l) (st) h = wps rm K Q c_M_fitCircle_163 kc ks (l0 :: some (.int x) :: l) (.int x :: st) h := rfl
theorem s_M_fitCircle_163  : wps rm K Q c_M_fitCircle_163 kc ks loc (st) h = wps rm K Q c_M_fitCircle_164 kc ks loc (.int (1) :: st) h := rfl
theorem s_M_fitCircle_164 {x : Nat} {i : Int32} {v : Int32} : wps rm K Q c_M_fitCircle_164 kc ks loc (.int v :: .int i :: .ref (x + 1) :: st) h = eg_is h x i v (fun h9 => wps rm K Q c_M_fitCircle_165 kc ks loc (st) h9) := rfl
theorem s_M_fitCircle_165 {x : Nat} {l : eg_Lo} : wps rm K Q c_M_fitCircle_165 kc ks (some (.ref x) :: l) (st) h = wps rm K Q c_M_fitCircle_166 kc ks (some (.ref x) :: l) (.ref x :: st) h := rfl
theorem s_M_fitCircle_166 {x : Nat} : wps rm K Q c_M_fitCircle_166 kc ks loc (.ref (x + 1) :: st) h = eg_gf h x 12 9 (fun v => wps rm K Q c_M_fitCircle_169 kc ks loc (v :: st) h) := rfl
theorem s_M_fitCircle_169  : wps rm K Q c_M_fitCircle_169 kc ks loc (st) h = wps rm K Q c_M_fitCircle_171 kc ks loc (.int (6) :: st) h := rfl
theorem s_M_fitCircle_171 {x : Int32} {l0 : Option Value} {l : eg_Lo} : wps rm K Q c_M_fitCircle_171 kc ks (l0 :: some (.int x) :: l) (st) h = wps rm K Q c_M_fitCircle_172 kc ks (l0 :: some (.int x) :: l) (.int x :: st) h := rfl
theorem s_M_fitCircle_172 {x y : Int32} : wps rm K Q c_M_fitCircle_172 kc ks loc (.int y :: .int x :: st) h = wps rm K Q c_M_fitCircle_173 kc ks loc (.int (x * y) :: st) h := rfl
theorem s_M_fitCircle_173 {x : Int32} {l0 l1 l2 l3 : Option Value} {l : eg_Lo} : wps rm K Q c_M_fitCircle_173 kc ks (l0 :: l1 :: l2 :: l3 :: some (.int x) :: l) (st) h = wps rm K Q c_M_fitCircle_175 kc ks (l0 :: l1 :: l2 :: l3 :: some (.int x) :: l) (.int x :: st) h := rfl
theorem s_M_fitCircle_175 {x : Nat} {i : Int32} {v : Int32} : wps rm K Q c_M_fitCircle_175 kc ks loc (.int v :: .int i :: .ref (x + 1) :: st) h = eg_is h x i v (fun h9 => wps rm K Q c_M_fitCircle_176 kc ks loc (st) h9) := rfl
theorem s_M_fitCircle_176 {x : Nat} {l : eg_Lo} : wps rm K Q c_M_fitCircle_176 kc ks (some (.ref x) :: l) (st) h = wps rm K Q c_M_fitCircle_177 kc ks (some (.ref x) :: l) (.ref x :: st) h := rfl
theorem s_M_fitCircle_177 {x : Int32} {l0 : Option Value} {l : eg_Lo} : wps rm K Q c_M_fitCircle_177 kc ks (l0 :: some (.int x) :: l) (st) h = wps rm K Q c_M_fitCircle_178 kc ks (l0 :: some (.int x) :: l) (.int x :: st) h := rfl
theorem s_M_fitCircle_178  : wps rm K Q c_M_fitCircle_178 kc ks loc (st) h = wps rm K Q c_M_fitCircle_179 kc ks loc (.long (0) :: st) h := rfl
theorem s_M_fitCircle_179  : wps rm K Q c_M_fitCircle_179 kc ks loc (st) h = wps rm K Q c_M_fitCircle_180 kc ks loc (.long (1) :: st) h := rfl
theorem s_M_fitCircle_180  {a1 : Value} {a2 : Value} {a3 : Value} {x : Nat} : wps rm K Q c_M_fitCircle_180 kc ks loc (a3 :: a2 :: a1 :: .ref (x + 1) :: st) h = (eg_cls h x 12 ∧ st.length ≤ 4 ∧ eg_Cs n_M_keepMiss (.ref (x + 1) :: [a1, a2, a3]) h (fun v h9 => wps rm K Q c_M_fitCircle_183 kc ks loc (v.toList ++ st) h9)) := eg_c1_3
theorem s_M_fitCircle_183 {x : Nat} {l : eg_Lo} : wps rm K Q c_M_fitCircle_183 kc ks (some (.ref x) :: l) (st) h = wps rm K Q c_M_fitCircle_184 kc ks (some (.ref x) :: l) (.ref x :: st) h := rfl
theorem s_M_fitCircle_184 {x : Int32} {l0 : Option Value} {l : eg_Lo} : wps rm K Q c_M_fitCircle_184 kc ks (l0 :: some (.int x) :: l) (st) h = wps rm K Q c_M_fitCircle_185 kc ks (l0 :: some (.int x) :: l) (.int x :: st) h := rfl
theorem s_M_fitCircle_185 {x : Nat} {l : eg_Lo} : wps rm K Q c_M_fitCircle_185 kc ks (some (.ref x) :: l) (st) h = wps rm K Q c_M_fitCircle_186 kc ks (some (.ref x) :: l) (.ref x :: st) h := rfl
theorem s_M_fitCircle_186 {x : Nat} : wps rm K Q c_M_fitCircle_186 kc ks loc (.ref (x + 1) :: st) h = eg_gf h x 12 1 (fun v => wps rm K Q c_M_fitCircle_189 kc ks loc (v :: st) h) := rfl
theorem s_M_fitCircle_189 {x : Int32} {l0 l1 : Option Value} {l : eg_Lo} : wps rm K Q c_M_fitCircle_189 kc ks (l0 :: l1 :: some (.int x) :: l) (st) h = wps rm K Q c_M_fitCircle_190 kc ks (l0 :: l1 :: some (.int x) :: l) (.int x :: st) h := rfl
theorem s_M_fitCircle_190 {x : Int32} {l0 l1 l2 l3 : Option Value} {l : eg_Lo} : wps rm K Q c_M_fitCircle_190 kc ks (l0 :: l1 :: l2 :: l3 :: some (.int x) :: l) (st) h = wps rm K Q c_M_fitCircle_192 kc ks (l0 :: l1 :: l2 :: l3 :: some (.int x) :: l) (.int x :: st) h := rfl
theorem s_M_fitCircle_192  {a1 : Value} {a2 : Value} : wps rm K Q c_M_fitCircle_192 kc ks loc (a2 :: a1 :: st) h = (st.length ≤ 4 ∧ eg_Cs n_M_at_II [a1, a2] h (fun v h9 => wps rm K Q c_M_fitCircle_195 kc ks loc (v.toList ++ st) h9)) := eg_c0_2
theorem s_M_fitCircle_195 {x : Nat} {i : Int32} : wps rm K Q c_M_fitCircle_195 kc ks loc (.int i :: .ref (x + 1) :: st) h = eg_ia h x i (fun v => wps rm K Q c_M_fitCircle_196 kc ks loc (.int v :: st) h) := rfl
theorem s_M_fitCircle_196 {x : Int32} : wps rm K Q c_M_fitCircle_196 kc ks loc (.int x :: st) h = wps rm K Q c_M_fitCircle_197 kc ks loc (.long (x.toInt64) :: st) h := rfl
theorem s_M_fitCircle_197 {x : Nat} {l : eg_Lo} : wps rm K Q c_M_fitCircle_197 kc ks (some (.ref x) :: l) (st) h = wps rm K Q c_M_fitCircle_198 kc ks (some (.ref x) :: l) (.ref x :: st) h := rfl
theorem s_M_fitCircle_198 {x : Nat} : wps rm K Q c_M_fitCircle_198 kc ks loc (.ref (x + 1) :: st) h = eg_gf h x 12 2 (fun v => wps rm K Q c_M_fitCircle_201 kc ks loc (v :: st) h) := rfl
theorem s_M_fitCircle_201 {x : Int32} {l0 l1 : Option Value} {l : eg_Lo} : wps rm K Q c_M_fitCircle_201 kc ks (l0 :: l1 :: some (.int x) :: l) (st) h = wps rm K Q c_M_fitCircle_202 kc ks (l0 :: l1 :: some (.int x) :: l) (.int x :: st) h := rfl
theorem s_M_fitCircle_202 {x : Int32} {l0 l1 l2 l3 : Option Value} {l : eg_Lo} : wps rm K Q c_M_fitCircle_202 kc ks (l0 :: l1 :: l2 :: l3 :: some (.int x) :: l) (st) h = wps rm K Q c_M_fitCircle_204 kc ks (l0 :: l1 :: l2 :: l3 :: some (.int x) :: l) (.int x :: st) h := rfl
theorem s_M_fitCircle_204  {a1 : Value} {a2 : Value} : wps rm K Q c_M_fitCircle_204 kc ks loc (a2 :: a1 :: st) h = (st.length ≤ 4 ∧ eg_Cs n_M_at_II [a1, a2] h (fun v h9 => wps rm K Q c_M_fitCircle_207 kc ks loc (v.toList ++ st) h9)) := eg_c0_2
theorem s_M_fitCircle_207 {x : Nat} {i : Int32} : wps rm K Q c_M_fitCircle_207 kc ks loc (.int i :: .ref (x + 1) :: st) h = eg_ia h x i (fun v => wps rm K Q c_M_fitCircle_208 kc ks loc (.int v :: st) h) := rfl
theorem s_M_fitCircle_208 {x : Int32} : wps rm K Q c_M_fitCircle_208 kc ks loc (.int x :: st) h = wps rm K Q c_M_fitCircle_209 kc ks loc (.long (x.toInt64) :: st) h := rfl
theorem s_M_fitCircle_209  : wps rm K Q c_M_fitCircle_209 kc ks loc (st) h = wps rm K Q c_M_fitCircle_210 kc ks loc (.long (1) :: st) h := rfl
theorem s_M_fitCircle_210  {a1 : Value} {a2 : Value} {a3 : Value} {a4 : Value} {x : Nat} : wps rm K Q c_M_fitCircle_210 kc ks loc (a4 :: a3 :: a2 :: a1 :: .ref (x + 1) :: st) h = (eg_cls h x 12 ∧ st.length ≤ 4 ∧ eg_Cs n_M_keepMiddle (.ref (x + 1) :: [a1, a2, a3, a4]) h (fun v h9 => wps rm K Q c_M_fitCircle_213 kc ks loc (v.toList ++ st) h9)) := eg_c1_4
theorem s_M_fitCircle_213  : wps rm K Q c_M_fitCircle_213 kc ks loc (st) h = wps rm K Q c_M_fitCircle_214 kc ks loc (.long (1) :: st) h := rfl
theorem s_M_fitCircle_214 {x : Int64} : wps rm K Q c_M_fitCircle_214 kc ks loc ([.long x]) h = (kc = rm.cells ∧ Q (some (.long x)) h) := rfl
theorem s_M_fitCircle_215  : wps rm K Q c_M_fitCircle_215 kc ks loc (st) h = wps rm K Q c_M_fitCircle_216 kc ks loc (.int (0) :: st) h := rfl
theorem s_M_fitCircle_216 {x : Int32} : wps rm K Q c_M_fitCircle_216 kc ks loc (.int x :: st) h = K 218 kc ks (eg_set1 loc 6 (.int x)) (st) h := rfl
theorem s_M_fitCircle_218 {x : Int32} {l0 l1 l2 l3 l4 l5 : Option Value} {l : eg_Lo} : wps rm K Q c_M_fitCircle_218 kc ks (l0 :: l1 :: l2 :: l3 :: l4 :: l5 :: some (.int x) :: l) (st) h = wps rm K Q c_M_fitCircle_220 kc ks (l0 :: l1 :: l2 :: l3 :: l4 :: l5 :: some (.int x) :: l) (.int x :: st) h := rfl
theorem s_M_fitCircle_220 {x : Int32} {l0 l1 l2 : Option Value} {l : eg_Lo} : wps rm K Q c_M_fitCircle_220 kc ks (l0 :: l1 :: l2 :: some (.int x) :: l) (st) h = wps rm K Q c_M_fitCircle_221 kc ks (l0 :: l1 :: l2 :: some (.int x) :: l) (.int x :: st) h := rfl
theorem s_M_fitCircle_221 {x y : Int32} : wps rm K Q c_M_fitCircle_221 kc ks loc (.int y :: .int x :: st) h = ((y ≤ x → K 479 kc ks loc st h) ∧ (¬ y ≤ x → wps rm K Q c_M_fitCircle_224 kc ks loc (st) h)) := rfl
theorem s_M_fitCircle_224 {x : Int32} {l0 l1 l2 l3 l4 l5 : Option Value} {l : eg_Lo} : wps rm K Q c_M_fitCircle_224 kc ks (l0 :: l1 :: l2 :: l3 :: l4 :: l5 :: some (.int x) :: l) (st) h = wps rm K Q c_M_fitCircle_226 kc ks (l0 :: l1 :: l2 :: l3 :: l4 :: l5 :: some (.int x) :: l) (.int x :: st) h := rfl
theorem s_M_fitCircle_226  : wps rm K Q c_M_fitCircle_226 kc ks loc (st) h = wps rm K Q c_M_fitCircle_227 kc ks loc (.int (1) :: st) h := rfl
theorem s_M_fitCircle_227 {x y : Int32} : wps rm K Q c_M_fitCircle_227 kc ks loc (.int y :: .int x :: st) h = wps rm K Q c_M_fitCircle_228 kc ks loc (.int (x + y) :: st) h := rfl
theorem s_M_fitCircle_228 {x : Int32} : wps rm K Q c_M_fitCircle_228 kc ks loc (.int x :: st) h = K 230 kc ks (eg_set1 loc 7 (.int x)) (st) h := rfl
theorem s_M_fitCircle_230 {x : Int32} {l0 l1 l2 l3 l4 l5 l6 : Option Value} {l : eg_Lo} : wps rm K Q c_M_fitCircle_230 kc ks (l0 :: l1 :: l2 :: l3 :: l4 :: l5 :: l6 :: some (.int x) :: l) (st) h = wps rm K Q c_M_fitCircle_232 kc ks (l0 :: l1 :: l2 :: l3 :: l4 :: l5 :: l6 :: some (.int x) :: l) (.int x :: st) h := rfl
theorem s_M_fitCircle_232 {x : Int32} {l0 l1 l2 : Option Value} {l : eg_Lo} : wps rm K Q c_M_fitCircle_232 kc ks (l0 :: l1 :: l2 :: some (.int x) :: l) (st) h = wps rm K Q c_M_fitCircle_233 kc ks (l0 :: l1 :: l2 :: some (.int x) :: l) (.int x :: st) h := rfl
theorem s_M_fitCircle_233 {x y : Int32} : wps rm K Q c_M_fitCircle_233 kc ks loc (.int y :: .int x :: st) h = ((y ≤ x → K 473 kc ks loc st h) ∧ (¬ y ≤ x → wps rm K Q c_M_fitCircle_236 kc ks loc (st) h)) := rfl
theorem s_M_fitCircle_236 {x : Int32} {l0 l1 : Option Value} {l : eg_Lo} : wps rm K Q c_M_fitCircle_236 kc ks (l0 :: l1 :: some (.int x) :: l) (st) h = wps rm K Q c_M_fitCircle_237 kc ks (l0 :: l1 :: some (.int x) :: l) (.int x :: st) h := rfl
theorem s_M_fitCircle_237 {x : Int32} {l0 l1 l2 l3 l4 l5 : Option Value} {l : eg_Lo} : wps rm K Q c_M_fitCircle_237 kc ks (l0 :: l1 :: l2 :: l3 :: l4 :: l5 :: some (.int x) :: l) (st) h = wps rm K Q c_M_fitCircle_239 kc ks (l0 :: l1 :: l2 :: l3 :: l4 :: l5 :: some (.int x) :: l) (.int x :: st) h := rfl
theorem s_M_fitCircle_239  {a1 : Value} {a2 : Value} : wps rm K Q c_M_fitCircle_239 kc ks loc (a2 :: a1 :: st) h = (st.length ≤ 4 ∧ eg_Cs n_M_at_II [a1, a2] h (fun v h9 => wps rm K Q c_M_fitCircle_242 kc ks loc (v.toList ++ st) h9)) := eg_c0_2
theorem s_M_fitCircle_242 {x : Int32} : wps rm K Q c_M_fitCircle_242 kc ks loc (.int x :: st) h = wps rm K Q c_M_fitCircle_244 kc ks (eg_set1 loc 8 (.int x)) (st) h := rfl
theorem s_M_fitCircle_244 {x : Int32} {l0 l1 : Option Value} {l : eg_Lo} : wps rm K Q c_M_fitCircle_244 kc ks (l0 :: l1 :: some (.int x) :: l) (st) h = wps rm K Q c_M_fitCircle_245 kc ks (l0 :: l1 :: some (.int x) :: l) (.int x :: st) h := rfl
theorem s_M_fitCircle_245 {x : Int32} {l0 l1 l2 l3 l4 l5 l6 : Option Value} {l : eg_Lo} : wps rm K Q c_M_fitCircle_245 kc ks (l0 :: l1 :: l2 :: l3 :: l4 :: l5 :: l6 :: some (.int x) :: l) (st) h = wps rm K Q c_M_fitCircle_247 kc ks (l0 :: l1 :: l2 :: l3 :: l4 :: l5 :: l6 :: some (.int x) :: l) (.int x :: st) h := rfl
theorem s_M_fitCircle_247  {a1 : Value} {a2 : Value} : wps rm K Q c_M_fitCircle_247 kc ks loc (a2 :: a1 :: st) h = (st.length ≤ 4 ∧ eg_Cs n_M_at_II [a1, a2] h (fun v h9 => wps rm K Q c_M_fitCircle_250 kc ks loc (v.toList ++ st) h9)) := eg_c0_2
theorem s_M_fitCircle_250 {x : Int32} : wps rm K Q c_M_fitCircle_250 kc ks loc (.int x :: st) h = wps rm K Q c_M_fitCircle_252 kc ks (eg_set1 loc 9 (.int x)) (st) h := rfl
theorem s_M_fitCircle_252 {x : Nat} {l : eg_Lo} : wps rm K Q c_M_fitCircle_252 kc ks (some (.ref x) :: l) (st) h = wps rm K Q c_M_fitCircle_253 kc ks (some (.ref x) :: l) (.ref x :: st) h := rfl
theorem s_M_fitCircle_253 {x : Nat} : wps rm K Q c_M_fitCircle_253 kc ks loc (.ref (x + 1) :: st) h = eg_gf h x 12 4 (fun v => wps rm K Q c_M_fitCircle_256 kc ks loc (v :: st) h) := rfl
theorem s_M_fitCircle_256 {x : Int32} {l0 l1 l2 l3 l4 l5 l6 l7 : Option Value} {l : eg_Lo} : wps rm K Q c_M_fitCircle_256 kc ks (l0 :: l1 :: l2 :: l3 :: l4 :: l5 :: l6 :: l7 :: some (.int x) :: l) (st) h = wps rm K Q c_M_fitCircle_258 kc ks (l0 :: l1 :: l2 :: l3 :: l4 :: l5 :: l6 :: l7 :: some (.int x) :: l) (.int x :: st) h := rfl
theorem s_M_fitCircle_258 {x : Nat} {i : Int32} : wps rm K Q c_M_fitCircle_258 kc ks loc (.int i :: .ref (x + 1) :: st) h = eg_ba h x i (fun v => wps rm K Q c_M_fitCircle_259 kc ks loc (.int v :: st) h) := rfl
theorem s_M_fitCircle_259 {x : Int32} : wps rm K Q c_M_fitCircle_259 kc ks loc (.int x :: st) h = ((¬ x = 0 → K 310 kc ks loc st h) ∧ (x = 0 → wps rm K Q c_M_fitCircle_262 kc ks loc (st) h)) := rfl
theorem s_M_fitCircle_262 {x : Nat} {l : eg_Lo} : wps rm K Q c_M_fitCircle_262 kc ks (some (.ref x) :: l) (st) h = wps rm K Q c_M_fitCircle_263 kc ks (some (.ref x) :: l) (.ref x :: st) h := rfl
theorem s_M_fitCircle_263 {x : Nat} : wps rm K Q c_M_fitCircle_263 kc ks loc (.ref (x + 1) :: st) h = eg_gf h x 12 4 (fun v => wps rm K Q c_M_fitCircle_266 kc ks loc (v :: st) h) := rfl
theorem s_M_fitCircle_266 {x : Int32} {l0 l1 l2 l3 l4 l5 l6 l7 l8 : Option Value} {l : eg_Lo} : wps rm K Q c_M_fitCircle_266 kc ks (l0 :: l1 :: l2 :: l3 :: l4 :: l5 :: l6 :: l7 :: l8 :: some (.int x) :: l) (st) h = wps rm K Q c_M_fitCircle_268 kc ks (l0 :: l1 :: l2 :: l3 :: l4 :: l5 :: l6 :: l7 :: l8 :: some (.int x) :: l) (.int x :: st) h := rfl
theorem s_M_fitCircle_268 {x : Nat} {i : Int32} : wps rm K Q c_M_fitCircle_268 kc ks loc (.int i :: .ref (x + 1) :: st) h = eg_ba h x i (fun v => wps rm K Q c_M_fitCircle_269 kc ks loc (.int v :: st) h) := rfl
theorem s_M_fitCircle_269 {x : Int32} : wps rm K Q c_M_fitCircle_269 kc ks loc (.int x :: st) h = ((¬ x = 0 → K 310 kc ks loc st h) ∧ (x = 0 → wps rm K Q c_M_fitCircle_272 kc ks loc (st) h)) := rfl
theorem s_M_fitCircle_272 {x : Nat} {l : eg_Lo} : wps rm K Q c_M_fitCircle_272 kc ks (some (.ref x) :: l) (st) h = wps rm K Q c_M_fitCircle_273 kc ks (some (.ref x) :: l) (.ref x :: st) h := rfl
theorem s_M_fitCircle_273 {x : Nat} : wps rm K Q c_M_fitCircle_273 kc ks loc (.ref (x + 1) :: st) h = eg_gf h x 12 1 (fun v => wps rm K Q c_M_fitCircle_276 kc ks loc (v :: st) h) := rfl
theorem s_M_fitCircle_276 {x : Int32} {l0 l1 l2 l3 l4 l5 l6 l7 : Option Value} {l : eg_Lo} : wps rm K Q c_M_fitCircle_276 kc ks (l0 :: l1 :: l2 :: l3 :: l4 :: l5 :: l6 :: l7 :: some (.int x) :: l) (st) h = wps rm K Q c_M_fitCircle_278 kc ks (l0 :: l1 :: l2 :: l3 :: l4 :: l5 :: l6 :: l7 :: some (.int x) :: l) (.int x :: st) h := rfl
theorem s_M_fitCircle_278 {x : Nat} {i : Int32} : wps rm K Q c_M_fitCircle_278 kc ks loc (.int i :: .ref (x + 1) :: st) h = eg_ia h x i (fun v => wps rm K Q c_M_fitCircle_279 kc ks loc (.int v :: st) h) := rfl
theorem s_M_fitCircle_279 {x : Nat} {l : eg_Lo} : wps rm K Q c_M_fitCircle_279 kc ks (some (.ref x) :: l) (st) h = wps rm K Q c_M_fitCircle_280 kc ks (some (.ref x) :: l) (.ref x :: st) h := rfl
theorem s_M_fitCircle_280 {x : Nat} : wps rm K Q c_M_fitCircle_280 kc ks loc (.ref (x + 1) :: st) h = eg_gf h x 12 1 (fun v => wps rm K Q c_M_fitCircle_283 kc ks loc (v :: st) h) := rfl
theorem s_M_fitCircle_283 {x : Int32} {l0 l1 l2 l3 l4 l5 l6 l7 l8 : Option Value} {l : eg_Lo} : wps rm K Q c_M_fitCircle_283 kc ks (l0 :: l1 :: l2 :: l3 :: l4 :: l5 :: l6 :: l7 :: l8 :: some (.int x) :: l) (st) h = wps rm K Q c_M_fitCircle_285 kc ks (l0 :: l1 :: l2 :: l3 :: l4 :: l5 :: l6 :: l7 :: l8 :: some (.int x) :: l) (.int x :: st) h := rfl
theorem s_M_fitCircle_285 {x : Nat} {i : Int32} : wps rm K Q c_M_fitCircle_285 kc ks loc (.int i :: .ref (x + 1) :: st) h = eg_ia h x i (fun v => wps rm K Q c_M_fitCircle_286 kc ks loc (.int v :: st) h) := rfl
theorem s_M_fitCircle_286 {x y : Int32} : wps rm K Q c_M_fitCircle_286 kc ks loc (.int y :: .int x :: st) h = ((¬ x = y → K 306 kc ks loc st h) ∧ (x = y → wps rm K Q c_M_fitCircle_289 kc ks loc (st) h)) := rfl
theorem s_M_fitCircle_289 {x : Nat} {l : eg_Lo} : wps rm K Q c_M_fitCircle_289 kc ks (some (.ref x) :: l) (st) h = wps rm K Q c_M_fitCircle_290 kc ks (some (.ref x) :: l) (.ref x :: st) h := rfl
theorem s_M_fitCircle_290 {x : Nat} : wps rm K Q c_M_fitCircle_290 kc ks loc (.ref (x + 1) :: st) h = eg_gf h x 12 2 (fun v => wps rm K Q c_M_fitCircle_293 kc ks loc (v :: st) h) := rfl
theorem s_M_fitCircle_293 {x : Int32} {l0 l1 l2 l3 l4 l5 l6 l7 : Option Value} {l : eg_Lo} : wps rm K Q c_M_fitCircle_293 kc ks (l0 :: l1 :: l2 :: l3 :: l4 :: l5 :: l6 :: l7 :: some (.int x) :: l) (st) h = wps rm K Q c_M_fitCircle_295 kc ks (l0 :: l1 :: l2 :: l3 :: l4 :: l5 :: l6 :: l7 :: some (.int x) :: l) (.int x :: st) h := rfl
theorem s_M_fitCircle_295 {x : Nat} {i : Int32} : wps rm K Q c_M_fitCircle_295 kc ks loc (.int i :: .ref (x + 1) :: st) h = eg_ia h x i (fun v => wps rm K Q c_M_fitCircle_296 kc ks loc (.int v :: st) h) := rfl
theorem s_M_fitCircle_296 {x : Nat} {l : eg_Lo} : wps rm K Q c_M_fitCircle_296 kc ks (some (.ref x) :: l) (st) h = wps rm K Q c_M_fitCircle_297 kc ks (some (.ref x) :: l) (.ref x :: st) h := rfl
theorem s_M_fitCircle_297 {x : Nat} : wps rm K Q c_M_fitCircle_297 kc ks loc (.ref (x + 1) :: st) h = eg_gf h x 12 2 (fun v => wps rm K Q c_M_fitCircle_300 kc ks loc (v :: st) h) := rfl
theorem s_M_fitCircle_300 {x : Int32} {l0 l1 l2 l3 l4 l5 l6 l7 l8 : Option Value} {l : eg_Lo} : wps rm K Q c_M_fitCircle_300 kc ks (l0 :: l1 :: l2 :: l3 :: l4 :: l5 :: l6 :: l7 :: l8 :: some (.int x) :: l) (st) h = wps rm K Q c_M_fitCircle_302 kc ks (l0 :: l1 :: l2 :: l3 :: l4 :: l5 :: l6 :: l7 :: l8 :: some (.int x) :: l) (.int x :: st) h := rfl
theorem s_M_fitCircle_302 {x : Nat} {i : Int32} : wps rm K Q c_M_fitCircle_302 kc ks loc (.int i :: .ref (x + 1) :: st) h = eg_ia h x i (fun v => wps rm K Q c_M_fitCircle_303 kc ks loc (.int v :: st) h) := rfl
theorem s_M_fitCircle_303 {x y : Int32} : wps rm K Q c_M_fitCircle_303 kc ks loc (.int y :: .int x :: st) h = ((x = y → K 310 kc ks loc st h) ∧ (¬ x = y → wps rm K Q c_M_fitCircle_306 kc ks loc (st) h)) := rfl
theorem s_M_fitCircle_306  : wps rm K Q c_M_fitCircle_306 kc ks loc (st) h = wps rm K Q c_M_fitCircle_307 kc ks loc (.int (1) :: st) h := rfl
theorem s_M_fitCircle_307  : wps rm K Q c_M_fitCircle_307 kc ks loc (st) h = K 311 kc ks loc st h := rfl
theorem s_M_fitCircle_310  : wps rm K Q c_M_fitCircle_310 kc ks loc (st) h = wps rm K Q c_M_fitCircle_311 kc ks loc (.int (0) :: st) h := rfl
theorem s_M_fitCircle_311 {x : Int32} : wps rm K Q c_M_fitCircle_311 kc ks loc (.int x :: st) h = wps rm K Q c_M_fitCircle_313 kc ks (eg_set1 loc 10 (.int x)) (st) h := rfl
theorem s_M_fitCircle_313 {x : Int32} {l0 l1 l2 l3 l4 l5 l6 l7 l8 l9 : Option Value} {l : eg_Lo} : wps rm K Q c_M_fitCircle_313 kc ks (l0 :: l1 :: l2 :: l3 :: l4 :: l5 :: l6 :: l7 :: l8 :: l9 :: some (.int x) :: l) (st) h = wps rm K Q c_M_fitCircle_315 kc ks (l0 :: l1 :: l2 :: l3 :: l4 :: l5 :: l6 :: l7 :: l8 :: l9 :: some (.int x) :: l) (.int x :: st) h := rfl
theorem s_M_fitCircle_315 {x : Int32} : wps rm K Q c_M_fitCircle_315 kc ks loc (.int x :: st) h = ((x = 0 → K 467 kc ks loc st h) ∧ (¬ x = 0 → wps rm K Q c_M_fitCircle_318 kc ks loc (st) h)) := rfl
theorem s_M_fitCircle_318 {x : Nat} {l : eg_Lo} : wps rm K Q c_M_fitCircle_318 kc ks (some (.ref x) :: l) (st) h = wps rm K Q c_M_fitCircle_319 kc ks (some (.ref x) :: l) (.ref x :: st) h := rfl
theorem s_M_fitCircle_319 {x : Int32} {l0 l1 : Option Value} {l : eg_Lo} : wps rm K Q c_M_fitCircle_319 kc ks (l0 :: l1 :: some (.int x) :: l) (st) h = wps rm K Q c_M_fitCircle_320 kc ks (l0 :: l1 :: some (.int x) :: l) (.int x :: st) h := rfl
theorem s_M_fitCircle_320 {x : Int32} {l0 l1 l2 l3 l4 l5 : Option Value} {l : eg_Lo} : wps rm K Q c_M_fitCircle_320 kc ks (l0 :: l1 :: l2 :: l3 :: l4 :: l5 :: some (.int x) :: l) (st) h = wps rm K Q c_M_fitCircle_322 kc ks (l0 :: l1 :: l2 :: l3 :: l4 :: l5 :: some (.int x) :: l) (.int x :: st) h := rfl
theorem s_M_fitCircle_322 {x : Int32} {l0 l1 l2 l3 l4 l5 l6 : Option Value} {l : eg_Lo} : wps rm K Q c_M_fitCircle_322 kc ks (l0 :: l1 :: l2 :: l3 :: l4 :: l5 :: l6 :: some (.int x) :: l) (st) h = wps rm K Q c_M_fitCircle_324 kc ks (l0 :: l1 :: l2 :: l3 :: l4 :: l5 :: l6 :: some (.int x) :: l) (.int x :: st) h := rfl
theorem s_M_fitCircle_324  {a1 : Value} {a2 : Value} {a3 : Value} {x : Nat} : wps rm K Q c_M_fitCircle_324 kc ks loc (a3 :: a2 :: a1 :: .ref (x + 1) :: st) h = (eg_cls h x 12 ∧ st.length ≤ 4 ∧ eg_Cs n_M_isRoundOf (.ref (x + 1) :: [a1, a2, a3]) h (fun v h9 => wps rm K Q c_M_fitCircle_327 kc ks loc (v.toList ++ st) h9)) := eg_c1_3
theorem s_M_fitCircle_327 {x : Int32} : wps rm K Q c_M_fitCircle_327 kc ks loc (.int x :: st) h = ((x = 0 → K 467 kc ks loc st h) ∧ (¬ x = 0 → wps rm K Q c_M_fitCircle_330 kc ks loc (st) h)) := rfl
theorem s_M_fitCircle_330 {x : Nat} {l : eg_Lo} : wps rm K Q c_M_fitCircle_330 kc ks (some (.ref x) :: l) (st) h = wps rm K Q c_M_fitCircle_331 kc ks (some (.ref x) :: l) (.ref x :: st) h := rfl
theorem s_M_fitCircle_331 {x : Nat} : wps rm K Q c_M_fitCircle_331 kc ks loc (.ref (x + 1) :: st) h = eg_gf h x 12 7 (fun v => wps rm K Q c_M_fitCircle_334 kc ks loc (v :: st) h) := rfl
theorem s_M_fitCircle_334 {x : Int32} {l0 : Option Value} {l : eg_Lo} : wps rm K Q c_M_fitCircle_334 kc ks (l0 :: some (.int x) :: l) (st) h = wps rm K Q c_M_fitCircle_335 kc ks (l0 :: some (.int x) :: l) (.int x :: st) h := rfl
theorem s_M_fitCircle_335  : wps rm K Q c_M_fitCircle_335 kc ks loc (st) h = wps rm K Q c_M_fitCircle_336 kc ks loc (.int (5) :: st) h := rfl
theorem s_M_fitCircle_336 {x : Nat} {i : Int32} {v : Int32} : wps rm K Q c_M_fitCircle_336 kc ks loc (.int v :: .int i :: .ref (x + 1) :: st) h = eg_is h x i v (fun h9 => wps rm K Q c_M_fitCircle_337 kc ks loc (st) h9) := rfl
theorem s_M_fitCircle_337 {x : Nat} {l : eg_Lo} : wps rm K Q c_M_fitCircle_337 kc ks (some (.ref x) :: l) (st) h = wps rm K Q c_M_fitCircle_338 kc ks (some (.ref x) :: l) (.ref x :: st) h := rfl
theorem s_M_fitCircle_338 {x : Nat} : wps rm K Q c_M_fitCircle_338 kc ks loc (.ref (x + 1) :: st) h = eg_gf h x 12 8 (fun v => wps rm K Q c_M_fitCircle_341 kc ks loc (v :: st) h) := rfl
theorem s_M_fitCircle_341 {x : Int32} {l0 : Option Value} {l : eg_Lo} : wps rm K Q c_M_fitCircle_341 kc ks (l0 :: some (.int x) :: l) (st) h = wps rm K Q c_M_fitCircle_342 kc ks (l0 :: some (.int x) :: l) (.int x :: st) h := rfl
theorem s_M_fitCircle_342  : wps rm K Q c_M_fitCircle_342 kc ks loc (st) h = wps rm K Q c_M_fitCircle_343 kc ks loc (.int (2) :: st) h := rfl
theorem s_M_fitCircle_343 {x : Nat} {i : Int32} {v : Int32} : wps rm K Q c_M_fitCircle_343 kc ks loc (.int v :: .int i :: .ref (x + 1) :: st) h = eg_is h x i v (fun h9 => wps rm K Q c_M_fitCircle_344 kc ks loc (st) h9) := rfl
theorem s_M_fitCircle_344 {x : Nat} {l : eg_Lo} : wps rm K Q c_M_fitCircle_344 kc ks (some (.ref x) :: l) (st) h = wps rm K Q c_M_fitCircle_345 kc ks (some (.ref x) :: l) (.ref x :: st) h := rfl
theorem s_M_fitCircle_345 {x : Nat} : wps rm K Q c_M_fitCircle_345 kc ks loc (.ref (x + 1) :: st) h = eg_gf h x 12 9 (fun v => wps rm K Q c_M_fitCircle_348 kc ks loc (v :: st) h) := rfl
theorem s_M_fitCircle_348  : wps rm K Q c_M_fitCircle_348 kc ks loc (st) h = wps rm K Q c_M_fitCircle_350 kc ks loc (.int (6) :: st) h := rfl
theorem s_M_fitCircle_350 {x : Int32} {l0 : Option Value} {l : eg_Lo} : wps rm K Q c_M_fitCircle_350 kc ks (l0 :: some (.int x) :: l) (st) h = wps rm K Q c_M_fitCircle_351 kc ks (l0 :: some (.int x) :: l) (.int x :: st) h := rfl
theorem s_M_fitCircle_351 {x y : Int32} : wps rm K Q c_M_fitCircle_351 kc ks loc (.int y :: .int x :: st) h = wps rm K Q c_M_fitCircle_352 kc ks loc (.int (x * y) :: st) h := rfl
theorem s_M_fitCircle_352 {x : Int32} {l0 l1 l2 l3 l4 l5 : Option Value} {l : eg_Lo} : wps rm K Q c_M_fitCircle_352 kc ks (l0 :: l1 :: l2 :: l3 :: l4 :: l5 :: some (.int x) :: l) (st) h = wps rm K Q c_M_fitCircle_354 kc ks (l0 :: l1 :: l2 :: l3 :: l4 :: l5 :: some (.int x) :: l) (.int x :: st) h := rfl
theorem s_M_fitCircle_354 {x : Nat} {i : Int32} {v : Int32} : wps rm K Q c_M_fitCircle_354 kc ks loc (.int v :: .int i :: .ref (x + 1) :: st) h = eg_is h x i v (fun h9 => wps rm K Q c_M_fitCircle_355 kc ks loc (st) h9) := rfl
theorem s_M_fitCircle_355 {x : Nat} {l : eg_Lo} : wps rm K Q c_M_fitCircle_355 kc ks (some (.ref x) :: l) (st) h = wps rm K Q c_M_fitCircle_356 kc ks (some (.ref x) :: l) (.ref x :: st) h := rfl
theorem s_M_fitCircle_356 {x : Nat} : wps rm K Q c_M_fitCircle_356 kc ks loc (.ref (x + 1) :: st) h = eg_gf h x 12 9 (fun v => wps rm K Q c_M_fitCircle_359 kc ks loc (v :: st) h) := rfl
theorem s_M_fitCircle_359  : wps rm K Q c_M_fitCircle_359 kc ks loc (st) h = wps rm K Q c_M_fitCircle_361 kc ks loc (.int (6) :: st) h := rfl
theorem s_M_fitCircle_361 {x : Int32} {l0 : Option Value} {l : eg_Lo} : wps rm K Q c_M_fitCircle_361 kc ks (l0 :: some (.int x) :: l) (st) h = wps rm K Q c_M_fitCircle_362 kc ks (l0 :: some (.int x) :: l) (.int x :: st) h := rfl
theorem s_M_fitCircle_362 {x y : Int32} : wps rm K Q c_M_fitCircle_362 kc ks loc (.int y :: .int x :: st) h = wps rm K Q c_M_fitCircle_363 kc ks loc (.int (x * y) :: st) h := rfl
theorem s_M_fitCircle_363  : wps rm K Q c_M_fitCircle_363 kc ks loc (st) h = wps rm K Q c_M_fitCircle_364 kc ks loc (.int (1) :: st) h := rfl
theorem s_M_fitCircle_364 {x y : Int32} : wps rm K Q c_M_fitCircle_364 kc ks loc (.int y :: .int x :: st) h = wps rm K Q c_M_fitCircle_365 kc ks loc (.int (x + y) :: st) h := rfl
theorem s_M_fitCircle_365 {x : Int32} {l0 l1 l2 l3 l4 l5 l6 : Option Value} {l : eg_Lo} : wps rm K Q c_M_fitCircle_365 kc ks (l0 :: l1 :: l2 :: l3 :: l4 :: l5 :: l6 :: some (.int x) :: l) (st) h = wps rm K Q c_M_fitCircle_367 kc ks (l0 :: l1 :: l2 :: l3 :: l4 :: l5 :: l6 :: some (.int x) :: l) (.int x :: st) h := rfl
theorem s_M_fitCircle_367 {x : Nat} {i : Int32} {v : Int32} : wps rm K Q c_M_fitCircle_367 kc ks loc (.int v :: .int i :: .ref (x + 1) :: st) h = eg_is h x i v (fun h9 => wps rm K Q c_M_fitCircle_368 kc ks loc (st) h9) := rfl
theorem s_M_fitCircle_368 {x : Nat} {l : eg_Lo} : wps rm K Q c_M_fitCircle_368 kc ks (some (.ref x) :: l) (st) h = wps rm K Q c_M_fitCircle_369 kc ks (some (.ref x) :: l) (.ref x :: st) h := rfl
theorem s_M_fitCircle_369 {x : Nat} : wps rm K Q c_M_fitCircle_369 kc ks loc (.ref (x + 1) :: st) h = eg_gf h x 12 1 (fun v => wps rm K Q c_M_fitCircle_372 kc ks loc (v :: st) h) := rfl
theorem s_M_fitCircle_372 {x : Int32} {l0 l1 l2 l3 l4 l5 l6 l7 : Option Value} {l : eg_Lo} : wps rm K Q c_M_fitCircle_372 kc ks (l0 :: l1 :: l2 :: l3 :: l4 :: l5 :: l6 :: l7 :: some (.int x) :: l) (st) h = wps rm K Q c_M_fitCircle_374 kc ks (l0 :: l1 :: l2 :: l3 :: l4 :: l5 :: l6 :: l7 :: some (.int x) :: l) (.int x :: st) h := rfl
theorem s_M_fitCircle_374 {x : Nat} {i : Int32} : wps rm K Q c_M_fitCircle_374 kc ks loc (.int i :: .ref (x + 1) :: st) h = eg_ia h x i (fun v => wps rm K Q c_M_fitCircle_375 kc ks loc (.int v :: st) h) := rfl
theorem s_M_fitCircle_375 {x : Nat} {l : eg_Lo} : wps rm K Q c_M_fitCircle_375 kc ks (some (.ref x) :: l) (st) h = wps rm K Q c_M_fitCircle_376 kc ks (some (.ref x) :: l) (.ref x :: st) h := rfl
theorem s_M_fitCircle_376 {x : Nat} : wps rm K Q c_M_fitCircle_376 kc ks loc (.ref (x + 1) :: st) h = eg_gf h x 12 1 (fun v => wps rm K Q c_M_fitCircle_379 kc ks loc (v :: st) h) := rfl
theorem s_M_fitCircle_379 {x : Int32} {l0 l1 l2 l3 l4 l5 l6 l7 l8 : Option Value} {l : eg_Lo} : wps rm K Q c_M_fitCircle_379 kc ks (l0 :: l1 :: l2 :: l3 :: l4 :: l5 :: l6 :: l7 :: l8 :: some (.int x) :: l) (st) h = wps rm K Q c_M_fitCircle_381 kc ks (l0 :: l1 :: l2 :: l3 :: l4 :: l5 :: l6 :: l7 :: l8 :: some (.int x) :: l) (.int x :: st) h := rfl
theorem s_M_fitCircle_381 {x : Nat} {i : Int32} : wps rm K Q c_M_fitCircle_381 kc ks loc (.int i :: .ref (x + 1) :: st) h = eg_ia h x i (fun v => wps rm K Q c_M_fitCircle_382 kc ks loc (.int v :: st) h) := rfl
theorem s_M_fitCircle_382 {x y : Int32} : wps rm K Q c_M_fitCircle_382 kc ks loc (.int y :: .int x :: st) h = wps rm K Q c_M_fitCircle_383 kc ks loc (.int (x - y) :: st) h := rfl
theorem s_M_fitCircle_383 {x : Int32} : wps rm K Q c_M_fitCircle_383 kc ks loc (.int x :: st) h = wps rm K Q c_M_fitCircle_384 kc ks loc (.long (x.toInt64) :: st) h := rfl
theorem s_M_fitCircle_384 {x : Int64} : wps rm K Q c_M_fitCircle_384 kc ks loc (.long x :: st) h = wps rm K Q c_M_fitCircle_386 kc ks (eg_set2 loc 11 (.long x)) (st) h := rfl
theorem s_M_fitCircle_386 {x : Nat} {l : eg_Lo} : wps rm K Q c_M_fitCircle_386 kc ks (some (.ref x) :: l) (st) h = wps rm K Q c_M_fitCircle_387 kc ks (some (.ref x) :: l) (.ref x :: st) h := rfl
theorem s_M_fitCircle_387 {x : Nat} : wps rm K Q c_M_fitCircle_387 kc ks loc (.ref (x + 1) :: st) h = eg_gf h x 12 2 (fun v => wps rm K Q c_M_fitCircle_390 kc ks loc (v :: st) h) := rfl
theorem s_M_fitCircle_390 {x : Int32} {l0 l1 l2 l3 l4 l5 l6 l7 : Option Value} {l : eg_Lo} : wps rm K Q c_M_fitCircle_390 kc ks (l0 :: l1 :: l2 :: l3 :: l4 :: l5 :: l6 :: l7 :: some (.int x) :: l) (st) h = wps rm K Q c_M_fitCircle_392 kc ks (l0 :: l1 :: l2 :: l3 :: l4 :: l5 :: l6 :: l7 :: some (.int x) :: l) (.int x :: st) h := rfl
theorem s_M_fitCircle_392 {x : Nat} {i : Int32} : wps rm K Q c_M_fitCircle_392 kc ks loc (.int i :: .ref (x + 1) :: st) h = eg_ia h x i (fun v => wps rm K Q c_M_fitCircle_393 kc ks loc (.int v :: st) h) := rfl
theorem s_M_fitCircle_393 {x : Nat} {l : eg_Lo} : wps rm K Q c_M_fitCircle_393 kc ks (some (.ref x) :: l) (st) h = wps rm K Q c_M_fitCircle_394 kc ks (some (.ref x) :: l) (.ref x :: st) h := rfl
theorem s_M_fitCircle_394 {x : Nat} : wps rm K Q c_M_fitCircle_394 kc ks loc (.ref (x + 1) :: st) h = eg_gf h x 12 2 (fun v => wps rm K Q c_M_fitCircle_397 kc ks loc (v :: st) h) := rfl
theorem s_M_fitCircle_397 {x : Int32} {l0 l1 l2 l3 l4 l5 l6 l7 l8 : Option Value} {l : eg_Lo} : wps rm K Q c_M_fitCircle_397 kc ks (l0 :: l1 :: l2 :: l3 :: l4 :: l5 :: l6 :: l7 :: l8 :: some (.int x) :: l) (st) h = wps rm K Q c_M_fitCircle_399 kc ks (l0 :: l1 :: l2 :: l3 :: l4 :: l5 :: l6 :: l7 :: l8 :: some (.int x) :: l) (.int x :: st) h := rfl
theorem s_M_fitCircle_399 {x : Nat} {i : Int32} : wps rm K Q c_M_fitCircle_399 kc ks loc (.int i :: .ref (x + 1) :: st) h = eg_ia h x i (fun v => wps rm K Q c_M_fitCircle_400 kc ks loc (.int v :: st) h) := rfl
theorem s_M_fitCircle_400 {x y : Int32} : wps rm K Q c_M_fitCircle_400 kc ks loc (.int y :: .int x :: st) h = wps rm K Q c_M_fitCircle_401 kc ks loc (.int (x - y) :: st) h := rfl
theorem s_M_fitCircle_401 {x : Int32} : wps rm K Q c_M_fitCircle_401 kc ks loc (.int x :: st) h = wps rm K Q c_M_fitCircle_402 kc ks loc (.long (x.toInt64) :: st) h := rfl
theorem s_M_fitCircle_402 {x : Int64} : wps rm K Q c_M_fitCircle_402 kc ks loc (.long x :: st) h = wps rm K Q c_M_fitCircle_404 kc ks (eg_set2 loc 13 (.long x)) (st) h := rfl
theorem s_M_fitCircle_404 {x : Nat} {l : eg_Lo} : wps rm K Q c_M_fitCircle_404 kc ks (some (.ref x) :: l) (st) h = wps rm K Q c_M_fitCircle_405 kc ks (some (.ref x) :: l) (.ref x :: st) h := rfl
theorem s_M_fitCircle_405 {x : Int32} {l0 : Option Value} {l : eg_Lo} : wps rm K Q c_M_fitCircle_405 kc ks (l0 :: some (.int x) :: l) (st) h = wps rm K Q c_M_fitCircle_406 kc ks (l0 :: some (.int x) :: l) (.int x :: st) h := rfl
theorem s_M_fitCircle_406 {x : Int64} {l0 l1 l2 l3 l4 l5 l6 l7 l8 l9 l10 : Option Value} {l : eg_Lo} : wps rm K Q c_M_fitCircle_406 kc ks (l0 :: l1 :: l2 :: l3 :: l4 :: l5 :: l6 :: l7 :: l8 :: l9 :: l10 :: some (.long x) :: l) (st) h = wps rm K Q c_M_fitCircle_408 kc ks (l0 :: l1 :: l2 :: l3 :: l4 :: l5 :: l6 :: l7 :: l8 :: l9 :: l10 :: some (.long x) :: l) (.long x :: st) h := rfl
theorem s_M_fitCircle_408 {x : Int64} {l0 l1 l2 l3 l4 l5 l6 l7 l8 l9 l10 : Option Value} {l : eg_Lo} : wps rm K Q c_M_fitCircle_408 kc ks (l0 :: l1 :: l2 :: l3 :: l4 :: l5 :: l6 :: l7 :: l8 :: l9 :: l10 :: some (.long x) :: l) (st) h = wps rm K Q c_M_fitCircle_410 kc ks (l0 :: l1 :: l2 :: l3 :: l4 :: l5 :: l6 :: l7 :: l8 :: l9 :: l10 :: some (.long x) :: l) (.long x :: st) h := rfl
theorem s_M_fitCircle_410 {x y : Int64} : wps rm K Q c_M_fitCircle_410 kc ks loc (.long y :: .long x :: st) h = wps rm K Q c_M_fitCircle_411 kc ks loc (.long (x * y) :: st) h := rfl
theorem s_M_fitCircle_411 {x : Int64} {l0 l1 l2 l3 l4 l5 l6 l7 l8 l9 l10 l11 l12 : Option Value} {l : eg_Lo} : wps rm K Q c_M_fitCircle_411 kc ks (l0 :: l1 :: l2 :: l3 :: l4 :: l5 :: l6 :: l7 :: l8 :: l9 :: l10 :: l11 :: l12 :: some (.long x) :: l) (st) h = wps rm K Q c_M_fitCircle_413 kc ks (l0 :: l1 :: l2 :: l3 :: l4 :: l5 :: l6 :: l7 :: l8 :: l9 :: l10 :: l11 :: l12 :: some (.long x) :: l) (.long x :: st) h := rfl
theorem s_M_fitCircle_413 {x : Int64} {l0 l1 l2 l3 l4 l5 l6 l7 l8 l9 l10 l11 l12 : Option Value} {l : eg_Lo} : wps rm K Q c_M_fitCircle_413 kc ks (l0 :: l1 :: l2 :: l3 :: l4 :: l5 :: l6 :: l7 :: l8 :: l9 :: l10 :: l11 :: l12 :: some (.long x) :: l) (st) h = wps rm K Q c_M_fitCircle_415 kc ks (l0 :: l1 :: l2 :: l3 :: l4 :: l5 :: l6 :: l7 :: l8 :: l9 :: l10 :: l11 :: l12 :: some (.long x) :: l) (.long x :: st) h := rfl
theorem s_M_fitCircle_415 {x y : Int64} : wps rm K Q c_M_fitCircle_415 kc ks loc (.long y :: .long x :: st) h = wps rm K Q c_M_fitCircle_416 kc ks loc (.long (x * y) :: st) h := rfl
theorem s_M_fitCircle_416 {x y : Int64} : wps rm K Q c_M_fitCircle_416 kc ks loc (.long y :: .long x :: st) h = wps rm K Q c_M_fitCircle_417 kc ks loc (.long (x + y) :: st) h := rfl
theorem s_M_fitCircle_417  : wps rm K Q c_M_fitCircle_417 kc ks loc (st) h = wps rm K Q c_M_fitCircle_420 kc ks loc (.long (4) :: st) h := rfl
theorem s_M_fitCircle_420  {a1 : Value} {a2 : Value} {a3 : Value} {x : Nat} : wps rm K Q c_M_fitCircle_420 kc ks loc (a3 :: a2 :: a1 :: .ref (x + 1) :: st) h = (eg_cls h x 12 ∧ st.length ≤ 4 ∧ eg_Cs n_M_keepMiss (.ref (x + 1) :: [a1, a2, a3]) h (fun v h9 => wps rm K Q c_M_fitCircle_423 kc ks loc (v.toList ++ st) h9)) := eg_c1_3
theorem s_M_fitCircle_423 {x : Nat} {l : eg_Lo} : wps rm K Q c_M_fitCircle_423 kc ks (some (.ref x) :: l) (st) h = wps rm K Q c_M_fitCircle_424 kc ks (some (.ref x) :: l) (.ref x :: st) h := rfl
theorem s_M_fitCircle_424 {x : Int32} {l0 : Option Value} {l : eg_Lo} : wps rm K Q c_M_fitCircle_424 kc ks (l0 :: some (.int x) :: l) (st) h = wps rm K Q c_M_fitCircle_425 kc ks (l0 :: some (.int x) :: l) (.int x :: st) h := rfl
theorem s_M_fitCircle_425 {x : Nat} {l : eg_Lo} : wps rm K Q c_M_fitCircle_425 kc ks (some (.ref x) :: l) (st) h = wps rm K Q c_M_fitCircle_426 kc ks (some (.ref x) :: l) (.ref x :: st) h := rfl
theorem s_M_fitCircle_426 {x : Nat} : wps rm K Q c_M_fitCircle_426 kc ks loc (.ref (x + 1) :: st) h = eg_gf h x 12 1 (fun v => wps rm K Q c_M_fitCircle_429 kc ks loc (v :: st) h) := rfl
theorem s_M_fitCircle_429 {x : Int32} {l0 l1 l2 l3 l4 l5 l6 l7 : Option Value} {l : eg_Lo} : wps rm K Q c_M_fitCircle_429 kc ks (l0 :: l1 :: l2 :: l3 :: l4 :: l5 :: l6 :: l7 :: some (.int x) :: l) (st) h = wps rm K Q c_M_fitCircle_431 kc ks (l0 :: l1 :: l2 :: l3 :: l4 :: l5 :: l6 :: l7 :: some (.int x) :: l) (.int x :: st) h := rfl
theorem s_M_fitCircle_431 {x : Nat} {i : Int32} : wps rm K Q c_M_fitCircle_431 kc ks loc (.int i :: .ref (x + 1) :: st) h = eg_ia h x i (fun v => wps rm K Q c_M_fitCircle_432 kc ks loc (.int v :: st) h) := rfl
theorem s_M_fitCircle_432 {x : Nat} {l : eg_Lo} : wps rm K Q c_M_fitCircle_432 kc ks (some (.ref x) :: l) (st) h = wps rm K Q c_M_fitCircle_433 kc ks (some (.ref x) :: l) (.ref x :: st) h := rfl
theorem s_M_fitCircle_433 {x : Nat} : wps rm K Q c_M_fitCircle_433 kc ks loc (.ref (x + 1) :: st) h = eg_gf h x 12 1 (fun v => wps rm K Q c_M_fitCircle_436 kc ks loc (v :: st) h) := rfl
theorem s_M_fitCircle_436 {x : Int32} {l0 l1 l2 l3 l4 l5 l6 l7 l8 : Option Value} {l : eg_Lo} : wps rm K Q c_M_fitCircle_436 kc ks (l0 :: l1 :: l2 :: l3 :: l4 :: l5 :: l6 :: l7 :: l8 :: some (.int x) :: l) (st) h = wps rm K Q c_M_fitCircle_438 kc ks (l0 :: l1 :: l2 :: l3 :: l4 :: l5 :: l6 :: l7 :: l8 :: some (.int x) :: l) (.int x :: st) h := rfl
theorem s_M_fitCircle_438 {x : Nat} {i : Int32} : wps rm K Q c_M_fitCircle_438 kc ks loc (.int i :: .ref (x + 1) :: st) h = eg_ia h x i (fun v => wps rm K Q c_M_fitCircle_439 kc ks loc (.int v :: st) h) := rfl
theorem s_M_fitCircle_439 {x y : Int32} : wps rm K Q c_M_fitCircle_439 kc ks loc (.int y :: .int x :: st) h = wps rm K Q c_M_fitCircle_440 kc ks loc (.int (x + y) :: st) h := rfl
theorem s_M_fitCircle_440 {x : Int32} : wps rm K Q c_M_fitCircle_440 kc ks loc (.int x :: st) h = wps rm K Q c_M_fitCircle_441 kc ks loc (.long (x.toInt64) :: st) h := rfl
theorem s_M_fitCircle_441 {x : Nat} {l : eg_Lo} : wps rm K Q c_M_fitCircle_441 kc ks (some (.ref x) :: l) (st) h = wps rm K Q c_M_fitCircle_442 kc ks (some (.ref x) :: l) (.ref x :: st) h := rfl
theorem s_M_fitCircle_442 {x : Nat} : wps rm K Q c_M_fitCircle_442 kc ks loc (.ref (x + 1) :: st) h = eg_gf h x 12 2 (fun v => wps rm K Q c_M_fitCircle_445 kc ks loc (v :: st) h) := rfl
theorem s_M_fitCircle_445 {x : Int32} {l0 l1 l2 l3 l4 l5 l6 l7 : Option Value} {l : eg_Lo} : wps rm K Q c_M_fitCircle_445 kc ks (l0 :: l1 :: l2 :: l3 :: l4 :: l5 :: l6 :: l7 :: some (.int x) :: l) (st) h = wps rm K Q c_M_fitCircle_447 kc ks (l0 :: l1 :: l2 :: l3 :: l4 :: l5 :: l6 :: l7 :: some (.int x) :: l) (.int x :: st) h := rfl
theorem s_M_fitCircle_447 {x : Nat} {i : Int32} : wps rm K Q c_M_fitCircle_447 kc ks loc (.int i :: .ref (x + 1) :: st) h = eg_ia h x i (fun v => wps rm K Q c_M_fitCircle_448 kc ks loc (.int v :: st) h) := rfl
theorem s_M_fitCircle_448 {x : Nat} {l : eg_Lo} : wps rm K Q c_M_fitCircle_448 kc ks (some (.ref x) :: l) (st) h = wps rm K Q c_M_fitCircle_449 kc ks (some (.ref x) :: l) (.ref x :: st) h := rfl
theorem s_M_fitCircle_449 {x : Nat} : wps rm K Q c_M_fitCircle_449 kc ks loc (.ref (x + 1) :: st) h = eg_gf h x 12 2 (fun v => wps rm K Q c_M_fitCircle_452 kc ks loc (v :: st) h) := rfl
theorem s_M_fitCircle_452 {x : Int32} {l0 l1 l2 l3 l4 l5 l6 l7 l8 : Option Value} {l : eg_Lo} : wps rm K Q c_M_fitCircle_452 kc ks (l0 :: l1 :: l2 :: l3 :: l4 :: l5 :: l6 :: l7 :: l8 :: some (.int x) :: l) (st) h = wps rm K Q c_M_fitCircle_454 kc ks (l0 :: l1 :: l2 :: l3 :: l4 :: l5 :: l6 :: l7 :: l8 :: some (.int x) :: l) (.int x :: st) h := rfl
theorem s_M_fitCircle_454 {x : Nat} {i : Int32} : wps rm K Q c_M_fitCircle_454 kc ks loc (.int i :: .ref (x + 1) :: st) h = eg_ia h x i (fun v => wps rm K Q c_M_fitCircle_455 kc ks loc (.int v :: st) h) := rfl
theorem s_M_fitCircle_455 {x y : Int32} : wps rm K Q c_M_fitCircle_455 kc ks loc (.int y :: .int x :: st) h = wps rm K Q c_M_fitCircle_456 kc ks loc (.int (x + y) :: st) h := rfl
theorem s_M_fitCircle_456 {x : Int32} : wps rm K Q c_M_fitCircle_456 kc ks loc (.int x :: st) h = wps rm K Q c_M_fitCircle_457 kc ks loc (.long (x.toInt64) :: st) h := rfl
theorem s_M_fitCircle_457  : wps rm K Q c_M_fitCircle_457 kc ks loc (st) h = wps rm K Q c_M_fitCircle_460 kc ks loc (.long (2) :: st) h := rfl
theorem s_M_fitCircle_460  {a1 : Value} {a2 : Value} {a3 : Value} {a4 : Value} {x : Nat} : wps rm K Q c_M_fitCircle_460 kc ks loc (a4 :: a3 :: a2 :: a1 :: .ref (x + 1) :: st) h = (eg_cls h x 12 ∧ st.length ≤ 4 ∧ eg_Cs n_M_keepMiddle (.ref (x + 1) :: [a1, a2, a3, a4]) h (fun v h9 => wps rm K Q c_M_fitCircle_463 kc ks loc (v.toList ++ st) h9)) := eg_c1_4
theorem s_M_fitCircle_463  : wps rm K Q c_M_fitCircle_463 kc ks loc (st) h = wps rm K Q c_M_fitCircle_466 kc ks loc (.long (2) :: st) h := rfl
theorem s_M_fitCircle_466 {x : Int64} : wps rm K Q c_M_fitCircle_466 kc ks loc ([.long x]) h = (kc = rm.cells ∧ Q (some (.long x)) h) := rfl
theorem s_M_fitCircle_467 {x : Int32} {l0 l1 l2 l3 l4 l5 l6 : Option Value} {l9 : eg_Lo} : wps rm K Q c_M_fitCircle_467 kc ks (l0 :: l1 :: l2 :: l3 :: l4 :: l5 :: l6 :: some (.int x) :: l9) (st) h = wps rm K Q c_M_fitCircle_470 kc ks (eg_set1 (l0 :: l1 :: l2 :: l3 :: l4 :: l5 :: l6 :: some (.int x) :: l9) 7 (.int (x + (1)))) (st) h := rfl
theorem s_M_fitCircle_470  : wps rm K Q c_M_fitCircle_470 kc ks loc (st) h = K 230 kc ks loc st h := rfl
theorem s_M_fitCircle_473 {x : Int32} {l0 l1 l2 l3 l4 l5 : Option Value} {l9 : eg_Lo} : wps rm K Q c_M_fitCircle_473 kc ks (l0 :: l1 :: l2 :: l3 :: l4 :: l5 :: some (.int x) :: l9) (st) h = wps rm K Q c_M_fitCircle_476 kc ks (eg_set1 (l0 :: l1 :: l2 :: l3 :: l4 :: l5 :: some (.int x) :: l9) 6 (.int (x + (1)))) (st) h := rfl
theorem s_M_fitCircle_476  : wps rm K Q c_M_fitCircle_476 kc ks loc (st) h = K 218 kc ks loc st h := rfl
theorem s_M_fitCircle_479 {x : Nat} {l : eg_Lo} : wps rm K Q c_M_fitCircle_479 kc ks (some (.ref x) :: l) (st) h = wps rm K Q c_M_fitCircle_480 kc ks (some (.ref x) :: l) (.ref x :: st) h := rfl
theorem s_M_fitCircle_480 {x : Int32} {l0 : Option Value} {l : eg_Lo} : wps rm K Q c_M_fitCircle_480 kc ks (l0 :: some (.int x) :: l) (st) h = wps rm K Q c_M_fitCircle_481 kc ks (l0 :: some (.int x) :: l) (.int x :: st) h := rfl
theorem s_M_fitCircle_481 {x : Int32} {l0 l1 : Option Value} {l : eg_Lo} : wps rm K Q c_M_fitCircle_481 kc ks (l0 :: l1 :: some (.int x) :: l) (st) h = wps rm K Q c_M_fitCircle_482 kc ks (l0 :: l1 :: some (.int x) :: l) (.int x :: st) h := rfl
theorem s_M_fitCircle_482  {a1 : Value} {a2 : Value} {x : Nat} : wps rm K Q c_M_fitCircle_482 kc ks loc (a2 :: a1 :: .ref (x + 1) :: st) h = (eg_cls h x 12 ∧ st.length ≤ 4 ∧ eg_Cs n_M_circleOfThree (.ref (x + 1) :: [a1, a2]) h (fun v h9 => wps rm K Q c_M_fitCircle_485 kc ks loc (v.toList ++ st) h9)) := eg_c1_2
theorem s_M_fitCircle_485 {x : Int64} : wps rm K Q c_M_fitCircle_485 kc ks loc ([.long x]) h = (kc = rm.cells ∧ Q (some (.long x)) h) := rfl
def T_M_fitCircle : List (Nat × List eg_I) := [(38, c_M_fitCircle_38), (40, c_M_fitCircle_40), (48, c_M_fitCircle_48), (61, c_M_fitCircle_61), (132, c_M_fitCircle_132), (136, c_M_fitCircle_136), (137, c_M_fitCircle_137), (146, c_M_fitCircle_146), (215, c_M_fitCircle_215), (306, c_M_fitCircle_306), (310, c_M_fitCircle_310), (311, c_M_fitCircle_311), (467, c_M_fitCircle_467), (473, c_M_fitCircle_473), (479, c_M_fitCircle_479)]
theorem j_M_fitCircle_38 {R : Nat → Nat → Nat → eg_Lo → List Value → List eg_E → Prop} {f pc0 : Nat} : eg_run rm R Q T_M_fitCircle (f + 1) 38 kc ks loc st h = wps rm (eg_run rm R Q T_M_fitCircle f) Q c_M_fitCircle_38 kc ks loc st h := rfl
theorem j_M_fitCircle_40 {R : Nat → Nat → Nat → eg_Lo → List Value → List eg_E → Prop} {f pc0 : Nat} : eg_run rm R Q T_M_fitCircle (f + 1) 40 kc ks loc st h = wps rm (eg_run rm R Q T_M_fitCircle f) Q c_M_fitCircle_40 kc ks loc st h := rfl
theorem j_M_fitCircle_48 {R : Nat → Nat → Nat → eg_Lo → List Value → List eg_E → Prop} {f pc0 : Nat} : eg_run rm R Q T_M_fitCircle (f + 1) 48 kc ks loc st h = wps rm (eg_run rm R Q T_M_fitCircle f) Q c_M_fitCircle_48 kc ks loc st h := rfl
theorem j_M_fitCircle_61 {R : Nat → Nat → Nat → eg_Lo → List Value → List eg_E → Prop} {f pc0 : Nat} : eg_run rm R Q T_M_fitCircle (f + 1) 61 kc ks loc st h = wps rm (eg_run rm R Q T_M_fitCircle f) Q c_M_fitCircle_61 kc ks loc st h := rfl
theorem j_M_fitCircle_132 {R : Nat → Nat → Nat → eg_Lo → List Value → List eg_E → Prop} {f pc0 : Nat} : eg_run rm R Q T_M_fitCircle (f + 1) 132 kc ks loc st h = wps rm (eg_run rm R Q T_M_fitCircle f) Q c_M_fitCircle_132 kc ks loc st h := rfl
theorem j_M_fitCircle_136 {R : Nat → Nat → Nat → eg_Lo → List Value → List eg_E → Prop} {f pc0 : Nat} : eg_run rm R Q T_M_fitCircle (f + 1) 136 kc ks loc st h = wps rm (eg_run rm R Q T_M_fitCircle f) Q c_M_fitCircle_136 kc ks loc st h := rfl
theorem j_M_fitCircle_137 {R : Nat → Nat → Nat → eg_Lo → List Value → List eg_E → Prop} {f pc0 : Nat} : eg_run rm R Q T_M_fitCircle (f + 1) 137 kc ks loc st h = wps rm (eg_run rm R Q T_M_fitCircle f) Q c_M_fitCircle_137 kc ks loc st h := rfl
theorem j_M_fitCircle_146 {R : Nat → Nat → Nat → eg_Lo → List Value → List eg_E → Prop} {f pc0 : Nat} : eg_run rm R Q T_M_fitCircle (f + 1) 146 kc ks loc st h = wps rm (eg_run rm R Q T_M_fitCircle f) Q c_M_fitCircle_146 kc ks loc st h := rfl
theorem j_M_fitCircle_215 {R : Nat → Nat → Nat → eg_Lo → List Value → List eg_E → Prop} {f pc0 : Nat} : eg_run rm R Q T_M_fitCircle (f + 1) 215 kc ks loc st h = wps rm (eg_run rm R Q T_M_fitCircle f) Q c_M_fitCircle_215 kc ks loc st h := rfl
theorem j_M_fitCircle_306 {R : Nat → Nat → Nat → eg_Lo → List Value → List eg_E → Prop} {f pc0 : Nat} : eg_run rm R Q T_M_fitCircle (f + 1) 306 kc ks loc st h = wps rm (eg_run rm R Q T_M_fitCircle f) Q c_M_fitCircle_306 kc ks loc st h := rfl
theorem j_M_fitCircle_310 {R : Nat → Nat → Nat → eg_Lo → List Value → List eg_E → Prop} {f pc0 : Nat} : eg_run rm R Q T_M_fitCircle (f + 1) 310 kc ks loc st h = wps rm (eg_run rm R Q T_M_fitCircle f) Q c_M_fitCircle_310 kc ks loc st h := rfl
theorem j_M_fitCircle_311 {R : Nat → Nat → Nat → eg_Lo → List Value → List eg_E → Prop} {f pc0 : Nat} : eg_run rm R Q T_M_fitCircle (f + 1) 311 kc ks loc st h = wps rm (eg_run rm R Q T_M_fitCircle f) Q c_M_fitCircle_311 kc ks loc st h := rfl
theorem j_M_fitCircle_467 {R : Nat → Nat → Nat → eg_Lo → List Value → List eg_E → Prop} {f pc0 : Nat} : eg_run rm R Q T_M_fitCircle (f + 1) 467 kc ks loc st h = wps rm (eg_run rm R Q T_M_fitCircle f) Q c_M_fitCircle_467 kc ks loc st h := rfl
theorem j_M_fitCircle_473 {R : Nat → Nat → Nat → eg_Lo → List Value → List eg_E → Prop} {f pc0 : Nat} : eg_run rm R Q T_M_fitCircle (f + 1) 473 kc ks loc st h = wps rm (eg_run rm R Q T_M_fitCircle f) Q c_M_fitCircle_473 kc ks loc st h := rfl
theorem j_M_fitCircle_479 {R : Nat → Nat → Nat → eg_Lo → List Value → List eg_E → Prop} {f pc0 : Nat} : eg_run rm R Q T_M_fitCircle (f + 1) 479 kc ks loc st h = wps rm (eg_run rm R Q T_M_fitCircle f) Q c_M_fitCircle_479 kc ks loc st h := rfl
theorem j_M_fitCircle_18 {R : Nat → Nat → Nat → eg_Lo → List Value → List eg_E → Prop} {f pc0 : Nat} : eg_run rm R Q T_M_fitCircle (f + 1) 18 kc ks loc st h = R 18 kc ks loc st h := rfl
theorem j_M_fitCircle_64 {R : Nat → Nat → Nat → eg_Lo → List Value → List eg_E → Prop} {f pc0 : Nat} : eg_run rm R Q T_M_fitCircle (f + 1) 64 kc ks loc st h = R 64 kc ks loc st h := rfl
theorem j_M_fitCircle_218 {R : Nat → Nat → Nat → eg_Lo → List Value → List eg_E → Prop} {f pc0 : Nat} : eg_run rm R Q T_M_fitCircle (f + 1) 218 kc ks loc st h = R 218 kc ks loc st h := rfl
theorem j_M_fitCircle_230 {R : Nat → Nat → Nat → eg_Lo → List Value → List eg_E → Prop} {f pc0 : Nat} : eg_run rm R Q T_M_fitCircle (f + 1) 230 kc ks loc st h = R 230 kc ks loc st h := rfl
end
theorem q_M_fitCircle : (T_M_fitCircle.all fun q => eg_seq m_M_fitCircle q.1 q.2) = true := by decide +kernel
theorem b_M_fitCircle {as : List Value} {h : List eg_E} {Q : Option Value → List eg_E → Prop} (hf : (eg_fl as).length ≤ 15) (hw : wps (eg_rm m_M_fitCircle) (eg_run (eg_rm m_M_fitCircle) (eg_R m_M_fitCircle Q (h.length + 0)) Q T_M_fitCircle 17) Q c_M_fitCircle_0 0 0 (eg_entry 15 as) [] h) : eg_Runs n_M_fitCircle as h Q := eg_begin (d := m_M_fitCircle) rfl (by decide) (by decide +kernel) q_M_fitCircle hf hw
theorem p_M_fitCircle_18 {Q : Option Value → List eg_E → Prop} {n0 kc ks : Nat} {loc : eg_Lo} {st : List Value} {h : List eg_E} (hw : wps (eg_rm m_M_fitCircle) (eg_run (eg_rm m_M_fitCircle) (eg_R m_M_fitCircle Q n0) Q T_M_fitCircle 17) Q c_M_fitCircle_18 kc ks loc st h) : eg_R m_M_fitCircle Q n0 18 kc ks loc st h := eg_go (by decide +kernel) q_M_fitCircle hw
theorem p_M_fitCircle_64 {Q : Option Value → List eg_E → Prop} {n0 kc ks : Nat} {loc : eg_Lo} {st : List Value} {h : List eg_E} (hw : wps (eg_rm m_M_fitCircle) (eg_run (eg_rm m_M_fitCircle) (eg_R m_M_fitCircle Q n0) Q T_M_fitCircle 17) Q c_M_fitCircle_64 kc ks loc st h) : eg_R m_M_fitCircle Q n0 64 kc ks loc st h := eg_go (by decide +kernel) q_M_fitCircle hw
theorem p_M_fitCircle_218 {Q : Option Value → List eg_E → Prop} {n0 kc ks : Nat} {loc : eg_Lo} {st : List Value} {h : List eg_E} (hw : wps (eg_rm m_M_fitCircle) (eg_run (eg_rm m_M_fitCircle) (eg_R m_M_fitCircle Q n0) Q T_M_fitCircle 17) Q c_M_fitCircle_218 kc ks loc st h) : eg_R m_M_fitCircle Q n0 218 kc ks loc st h := eg_go (by decide +kernel) q_M_fitCircle hw
theorem p_M_fitCircle_230 {Q : Option Value → List eg_E → Prop} {n0 kc ks : Nat} {loc : eg_Lo} {st : List Value} {h : List eg_E} (hw : wps (eg_rm m_M_fitCircle) (eg_run (eg_rm m_M_fitCircle) (eg_R m_M_fitCircle Q n0) Q T_M_fitCircle 17) Q c_M_fitCircle_230 kc ks loc st h) : eg_R m_M_fitCircle Q n0 230 kc ks loc st h := eg_go (by decide +kernel) q_M_fitCircle hw
/-! ===== M_circleOfThree ===== -/
def c_M_circleOfThree_464 : List eg_I := .inl (464, 1, .lreturn, 0, 0) :: []
def c_M_circleOfThree_461 : List eg_I := .inl (461, 3, .sipush (3), 253, 0) :: c_M_circleOfThree_464
def c_M_circleOfThree_458 : List eg_I := .inr (458, 1, 231, n_M_keepMiddle, 4, 12, 0, 0) :: c_M_circleOfThree_461
def c_M_circleOfThree_455 : List eg_I := .inl (455, 3, .getfield 218, 12, 36) :: c_M_circleOfThree_458
def c_M_circleOfThree_454 : List eg_I := .inl (454, 1, .aload 0, 0, 0) :: c_M_circleOfThree_455
def c_M_circleOfThree_453 : List eg_I := .inl (453, 1, .ladd, 0, 0) :: c_M_circleOfThree_454
def c_M_circleOfThree_450 : List eg_I := .inl (450, 3, .getfield 224, 12, 35) :: c_M_circleOfThree_453
def c_M_circleOfThree_449 : List eg_I := .inl (449, 1, .aload 0, 0, 0) :: c_M_circleOfThree_450
def c_M_circleOfThree_448 : List eg_I := .inl (448, 1, .lmul, 0, 0) :: c_M_circleOfThree_449
def c_M_circleOfThree_445 : List eg_I := .inl (445, 3, .getfield 218, 12, 36) :: c_M_circleOfThree_448
def c_M_circleOfThree_444 : List eg_I := .inl (444, 1, .aload 0, 0, 0) :: c_M_circleOfThree_445
def c_M_circleOfThree_443 : List eg_I := .inl (443, 1, .i2l, 0, 0) :: c_M_circleOfThree_444
def c_M_circleOfThree_442 : List eg_I := .inl (442, 1, .iaload, 0, 0) :: c_M_circleOfThree_443
def c_M_circleOfThree_439 : List eg_I := .inr (439, 0, 103, n_M_at_II, 2, 12, 0, 0) :: c_M_circleOfThree_442
def c_M_circleOfThree_437 : List eg_I := .inl (437, 2, .iload 4, 0, 0) :: c_M_circleOfThree_439
def c_M_circleOfThree_436 : List eg_I := .inl (436, 1, .iload 2, 0, 0) :: c_M_circleOfThree_437
def c_M_circleOfThree_433 : List eg_I := .inl (433, 3, .getfield 16, 12, 2) :: c_M_circleOfThree_436
def c_M_circleOfThree_432 : List eg_I := .inl (432, 1, .aload 0, 0, 0) :: c_M_circleOfThree_433
def c_M_circleOfThree_431 : List eg_I := .inl (431, 1, .ladd, 0, 0) :: c_M_circleOfThree_432
def c_M_circleOfThree_428 : List eg_I := .inl (428, 3, .getfield 221, 12, 34) :: c_M_circleOfThree_431
def c_M_circleOfThree_427 : List eg_I := .inl (427, 1, .aload 0, 0, 0) :: c_M_circleOfThree_428
def c_M_circleOfThree_426 : List eg_I := .inl (426, 1, .lmul, 0, 0) :: c_M_circleOfThree_427
def c_M_circleOfThree_423 : List eg_I := .inl (423, 3, .getfield 218, 12, 36) :: c_M_circleOfThree_426
def c_M_circleOfThree_422 : List eg_I := .inl (422, 1, .aload 0, 0, 0) :: c_M_circleOfThree_423
def c_M_circleOfThree_421 : List eg_I := .inl (421, 1, .i2l, 0, 0) :: c_M_circleOfThree_422
def c_M_circleOfThree_420 : List eg_I := .inl (420, 1, .iaload, 0, 0) :: c_M_circleOfThree_421
def c_M_circleOfThree_417 : List eg_I := .inr (417, 0, 103, n_M_at_II, 2, 12, 0, 0) :: c_M_circleOfThree_420
def c_M_circleOfThree_415 : List eg_I := .inl (415, 2, .iload 4, 0, 0) :: c_M_circleOfThree_417
def c_M_circleOfThree_414 : List eg_I := .inl (414, 1, .iload 2, 0, 0) :: c_M_circleOfThree_415
def c_M_circleOfThree_411 : List eg_I := .inl (411, 3, .getfield 13, 12, 1) :: c_M_circleOfThree_414
def c_M_circleOfThree_410 : List eg_I := .inl (410, 1, .aload 0, 0, 0) :: c_M_circleOfThree_411
def c_M_circleOfThree_409 : List eg_I := .inl (409, 1, .iload 1, 0, 0) :: c_M_circleOfThree_410
def c_M_circleOfThree_408 : List eg_I := .inl (408, 1, .aload 0, 0, 0) :: c_M_circleOfThree_409
def c_M_circleOfThree_405 : List eg_I := .inr (405, 1, 196, n_M_keepMiss, 3, 12, 0, 0) :: c_M_circleOfThree_408
def c_M_circleOfThree_404 : List eg_I := .inl (404, 1, .lmul, 0, 0) :: c_M_circleOfThree_405
def c_M_circleOfThree_401 : List eg_I := .inl (401, 3, .getfield 218, 12, 36) :: c_M_circleOfThree_404
def c_M_circleOfThree_400 : List eg_I := .inl (400, 1, .aload 0, 0, 0) :: c_M_circleOfThree_401
def c_M_circleOfThree_397 : List eg_I := .inl (397, 3, .getfield 218, 12, 36) :: c_M_circleOfThree_400
def c_M_circleOfThree_396 : List eg_I := .inl (396, 1, .aload 0, 0, 0) :: c_M_circleOfThree_397
def c_M_circleOfThree_395 : List eg_I := .inl (395, 1, .ladd, 0, 0) :: c_M_circleOfThree_396
def c_M_circleOfThree_394 : List eg_I := .inl (394, 1, .lmul, 0, 0) :: c_M_circleOfThree_395
def c_M_circleOfThree_391 : List eg_I := .inl (391, 3, .getfield 224, 12, 35) :: c_M_circleOfThree_394
def c_M_circleOfThree_390 : List eg_I := .inl (390, 1, .aload 0, 0, 0) :: c_M_circleOfThree_391
def c_M_circleOfThree_387 : List eg_I := .inl (387, 3, .getfield 224, 12, 35) :: c_M_circleOfThree_390
def c_M_circleOfThree_386 : List eg_I := .inl (386, 1, .aload 0, 0, 0) :: c_M_circleOfThree_387
def c_M_circleOfThree_385 : List eg_I := .inl (385, 1, .lmul, 0, 0) :: c_M_circleOfThree_386
def c_M_circleOfThree_382 : List eg_I := .inl (382, 3, .getfield 221, 12, 34) :: c_M_circleOfThree_385
def c_M_circleOfThree_381 : List eg_I := .inl (381, 1, .aload 0, 0, 0) :: c_M_circleOfThree_382
def c_M_circleOfThree_378 : List eg_I := .inl (378, 3, .getfield 221, 12, 34) :: c_M_circleOfThree_381
def c_M_circleOfThree_377 : List eg_I := .inl (377, 1, .aload 0, 0, 0) :: c_M_circleOfThree_378
def c_M_circleOfThree_376 : List eg_I := .inl (376, 1, .iload 1, 0, 0) :: c_M_circleOfThree_377
def c_M_circleOfThree_375 : List eg_I := .inl (375, 1, .aload 0, 0, 0) :: c_M_circleOfThree_376
def c_M_circleOfThree_372 : List eg_I := .inl (372, 3, .goto (-154), 218, 0) :: []
def c_M_circleOfThree_369 : List eg_I := .inl (369, 3, .iinc 6 (1), 0, 0) :: c_M_circleOfThree_372
def c_M_circleOfThree_366 : List eg_I := .inl (366, 3, .iinc 5 (1), 0, 0) :: c_M_circleOfThree_369
def c_M_circleOfThree_365 : List eg_I := .inl (365, 1, .iastore, 0, 0) :: c_M_circleOfThree_366
def c_M_circleOfThree_363 : List eg_I := .inl (363, 2, .iload 6, 0, 0) :: c_M_circleOfThree_365
def c_M_circleOfThree_362 : List eg_I := .inl (362, 1, .iadd, 0, 0) :: c_M_circleOfThree_363
def c_M_circleOfThree_360 : List eg_I := .inl (360, 2, .iload 5, 0, 0) :: c_M_circleOfThree_362
def c_M_circleOfThree_359 : List eg_I := .inl (359, 1, .imul, 0, 0) :: c_M_circleOfThree_360
def c_M_circleOfThree_358 : List eg_I := .inl (358, 1, .iload 1, 0, 0) :: c_M_circleOfThree_359
def c_M_circleOfThree_356 : List eg_I := .inl (356, 2, .iconst (6), 0, 0) :: c_M_circleOfThree_358
def c_M_circleOfThree_353 : List eg_I := .inl (353, 3, .getfield 38, 12, 9) :: c_M_circleOfThree_356
def c_M_circleOfThree_352 : List eg_I := .inl (352, 1, .aload 0, 0, 0) :: c_M_circleOfThree_353
def c_M_circleOfThree_349 : List eg_I := .inl (349, 3, .if_icmp .ge (20), 369, 0) :: c_M_circleOfThree_352
def c_M_circleOfThree_348 : List eg_I := .inl (348, 1, .iconst (3), 0, 0) :: c_M_circleOfThree_349
def c_M_circleOfThree_346 : List eg_I := .inl (346, 2, .iload 5, 0, 0) :: c_M_circleOfThree_348
def c_M_circleOfThree_343 : List eg_I := .inl (343, 3, .ifCond .eq (26), 369, 0) :: c_M_circleOfThree_346
def c_M_circleOfThree_341 : List eg_I := .inl (341, 2, .iload 7, 0, 0) :: c_M_circleOfThree_343
def c_M_circleOfThree_338 : List eg_I := .inl (338, 3, .goto (-80), 258, 0) :: []
def c_M_circleOfThree_335 : List eg_I := .inl (335, 3, .iinc 8 (1), 0, 0) :: c_M_circleOfThree_338
def c_M_circleOfThree_333 : List eg_I := .inl (333, 2, .istore 7, 0, 0) :: c_M_circleOfThree_335
def c_M_circleOfThree_332 : List eg_I := .inl (332, 1, .iand, 0, 0) :: c_M_circleOfThree_333
def c_M_circleOfThree_331 : List eg_I := .inl (331, 1, .iconst (0), 0, 0) :: c_M_circleOfThree_332
def c_M_circleOfThree_328 : List eg_I := .inl (328, 3, .goto (4), 332, 0) :: []
def c_M_circleOfThree_327 : List eg_I := .inl (327, 1, .iconst (1), 0, 0) :: c_M_circleOfThree_328
def c_M_circleOfThree_324 : List eg_I := .inl (324, 3, .if_icmp .eq (7), 331, 0) :: c_M_circleOfThree_327
def c_M_circleOfThree_323 : List eg_I := .inl (323, 1, .iaload, 0, 0) :: c_M_circleOfThree_324
def c_M_circleOfThree_320 : List eg_I := .inr (320, 0, 103, n_M_at_II, 2, 12, 0, 0) :: c_M_circleOfThree_323
def c_M_circleOfThree_318 : List eg_I := .inl (318, 2, .iload 6, 0, 0) :: c_M_circleOfThree_320
def c_M_circleOfThree_317 : List eg_I := .inl (317, 1, .iload 2, 0, 0) :: c_M_circleOfThree_318
def c_M_circleOfThree_314 : List eg_I := .inl (314, 3, .getfield 16, 12, 2) :: c_M_circleOfThree_317
def c_M_circleOfThree_313 : List eg_I := .inl (313, 1, .aload 0, 0, 0) :: c_M_circleOfThree_314
def c_M_circleOfThree_312 : List eg_I := .inl (312, 1, .iaload, 0, 0) :: c_M_circleOfThree_313
def c_M_circleOfThree_310 : List eg_I := .inl (310, 2, .iload 9, 0, 0) :: c_M_circleOfThree_312
def c_M_circleOfThree_307 : List eg_I := .inl (307, 3, .getfield 16, 12, 2) :: c_M_circleOfThree_310
def c_M_circleOfThree_306 : List eg_I := .inl (306, 1, .aload 0, 0, 0) :: c_M_circleOfThree_307
def c_M_circleOfThree_303 : List eg_I := .inl (303, 3, .if_icmp .ne (24), 327, 0) :: c_M_circleOfThree_306
def c_M_circleOfThree_302 : List eg_I := .inl (302, 1, .iaload, 0, 0) :: c_M_circleOfThree_303
def c_M_circleOfThree_299 : List eg_I := .inr (299, 0, 103, n_M_at_II, 2, 12, 0, 0) :: c_M_circleOfThree_302
def c_M_circleOfThree_297 : List eg_I := .inl (297, 2, .iload 6, 0, 0) :: c_M_circleOfThree_299
def c_M_circleOfThree_296 : List eg_I := .inl (296, 1, .iload 2, 0, 0) :: c_M_circleOfThree_297
def c_M_circleOfThree_293 : List eg_I := .inl (293, 3, .getfield 13, 12, 1) :: c_M_circleOfThree_296
def c_M_circleOfThree_292 : List eg_I := .inl (292, 1, .aload 0, 0, 0) :: c_M_circleOfThree_293
def c_M_circleOfThree_291 : List eg_I := .inl (291, 1, .iaload, 0, 0) :: c_M_circleOfThree_292
def c_M_circleOfThree_289 : List eg_I := .inl (289, 2, .iload 9, 0, 0) :: c_M_circleOfThree_291
def c_M_circleOfThree_286 : List eg_I := .inl (286, 3, .getfield 13, 12, 1) :: c_M_circleOfThree_289
def c_M_circleOfThree_285 : List eg_I := .inl (285, 1, .aload 0, 0, 0) :: c_M_circleOfThree_286
def c_M_circleOfThree_283 : List eg_I := .inl (283, 2, .iload 7, 0, 0) :: c_M_circleOfThree_285
def c_M_circleOfThree_281 : List eg_I := .inl (281, 2, .istore 9, 0, 0) :: c_M_circleOfThree_283
def c_M_circleOfThree_278 : List eg_I := .inr (278, 0, 103, n_M_at_II, 2, 12, 0, 0) :: c_M_circleOfThree_281
def c_M_circleOfThree_277 : List eg_I := .inl (277, 1, .iaload, 0, 0) :: c_M_circleOfThree_278
def c_M_circleOfThree_276 : List eg_I := .inl (276, 1, .iadd, 0, 0) :: c_M_circleOfThree_277
def c_M_circleOfThree_274 : List eg_I := .inl (274, 2, .iload 8, 0, 0) :: c_M_circleOfThree_276
def c_M_circleOfThree_273 : List eg_I := .inl (273, 1, .imul, 0, 0) :: c_M_circleOfThree_274
def c_M_circleOfThree_272 : List eg_I := .inl (272, 1, .iload 1, 0, 0) :: c_M_circleOfThree_273
def c_M_circleOfThree_270 : List eg_I := .inl (270, 2, .iconst (6), 0, 0) :: c_M_circleOfThree_272
def c_M_circleOfThree_267 : List eg_I := .inl (267, 3, .getfield 38, 12, 9) :: c_M_circleOfThree_270
def c_M_circleOfThree_266 : List eg_I := .inl (266, 1, .aload 0, 0, 0) :: c_M_circleOfThree_267
def c_M_circleOfThree_265 : List eg_I := .inl (265, 1, .iload 2, 0, 0) :: c_M_circleOfThree_266
def c_M_circleOfThree_262 : List eg_I := .inl (262, 3, .if_icmp .ge (79), 341, 0) :: c_M_circleOfThree_265
def c_M_circleOfThree_260 : List eg_I := .inl (260, 2, .iload 5, 0, 0) :: c_M_circleOfThree_262
def c_M_circleOfThree_258 : List eg_I := .inl (258, 2, .iload 8, 0, 0) :: c_M_circleOfThree_260
def c_M_circleOfThree_256 : List eg_I := .inl (256, 2, .istore 8, 0, 0) :: [.inl (258, 0, .nop, 0, 0)]
def c_M_circleOfThree_255 : List eg_I := .inl (255, 1, .iconst (0), 0, 0) :: c_M_circleOfThree_256
def c_M_circleOfThree_253 : List eg_I := .inl (253, 2, .istore 7, 0, 0) :: c_M_circleOfThree_255
def c_M_circleOfThree_252 : List eg_I := .inl (252, 1, .iconst (0), 0, 0) :: c_M_circleOfThree_253
def c_M_circleOfThree_249 : List eg_I := .inl (249, 3, .goto (4), 253, 0) :: []
def c_M_circleOfThree_248 : List eg_I := .inl (248, 1, .iconst (1), 0, 0) :: c_M_circleOfThree_249
def c_M_circleOfThree_245 : List eg_I := .inl (245, 3, .ifCond .ne (7), 252, 0) :: c_M_circleOfThree_248
def c_M_circleOfThree_244 : List eg_I := .inl (244, 1, .lcmp, 0, 0) :: c_M_circleOfThree_245
def c_M_circleOfThree_243 : List eg_I := .inl (243, 1, .sipush (0), 0, 0) :: c_M_circleOfThree_244
def c_M_circleOfThree_240 : List eg_I := .inr (240, 1, 227, n_M_outside, 3, 12, 0, 0) :: c_M_circleOfThree_243
def c_M_circleOfThree_238 : List eg_I := .inl (238, 2, .iload 6, 0, 0) :: c_M_circleOfThree_240
def c_M_circleOfThree_236 : List eg_I := .inl (236, 2, .iload 4, 0, 0) :: c_M_circleOfThree_238
def c_M_circleOfThree_235 : List eg_I := .inl (235, 1, .iload 2, 0, 0) :: c_M_circleOfThree_236
def c_M_circleOfThree_234 : List eg_I := .inl (234, 1, .aload 0, 0, 0) :: c_M_circleOfThree_235
def c_M_circleOfThree_231 : List eg_I := .inl (231, 3, .ifCond .eq (21), 252, 0) :: c_M_circleOfThree_234
def c_M_circleOfThree_228 : List eg_I := .inr (228, 1, 185, n_M_isHere, 2, 12, 0, 0) :: c_M_circleOfThree_231
def c_M_circleOfThree_226 : List eg_I := .inl (226, 2, .iload 6, 0, 0) :: c_M_circleOfThree_228
def c_M_circleOfThree_225 : List eg_I := .inl (225, 1, .iload 2, 0, 0) :: c_M_circleOfThree_226
def c_M_circleOfThree_224 : List eg_I := .inl (224, 1, .aload 0, 0, 0) :: c_M_circleOfThree_225
def c_M_circleOfThree_221 : List eg_I := .inl (221, 3, .if_icmp .ge (154), 375, 0) :: c_M_circleOfThree_224
def c_M_circleOfThree_220 : List eg_I := .inl (220, 1, .iload 3, 0, 0) :: c_M_circleOfThree_221
def c_M_circleOfThree_218 : List eg_I := .inl (218, 2, .iload 6, 0, 0) :: c_M_circleOfThree_220
def c_M_circleOfThree_216 : List eg_I := .inl (216, 2, .istore 6, 0, 0) :: [.inl (218, 0, .nop, 0, 0)]
def c_M_circleOfThree_215 : List eg_I := .inl (215, 1, .iconst (0), 0, 0) :: c_M_circleOfThree_216
def c_M_circleOfThree_213 : List eg_I := .inl (213, 2, .istore 5, 0, 0) :: c_M_circleOfThree_215
def c_M_circleOfThree_212 : List eg_I := .inl (212, 1, .iconst (0), 0, 0) :: c_M_circleOfThree_213
def c_M_circleOfThree_211 : List eg_I := .inl (211, 1, .iastore, 0, 0) :: c_M_circleOfThree_212
def c_M_circleOfThree_210 : List eg_I := .inl (210, 1, .iconst (3), 0, 0) :: c_M_circleOfThree_211
def c_M_circleOfThree_209 : List eg_I := .inl (209, 1, .iload 1, 0, 0) :: c_M_circleOfThree_210
def c_M_circleOfThree_206 : List eg_I := .inl (206, 3, .getfield 35, 12, 8) :: c_M_circleOfThree_209
def c_M_circleOfThree_205 : List eg_I := .inl (205, 1, .aload 0, 0, 0) :: c_M_circleOfThree_206
def c_M_circleOfThree_204 : List eg_I := .inl (204, 1, .iastore, 0, 0) :: c_M_circleOfThree_205
def c_M_circleOfThree_203 : List eg_I := .inl (203, 1, .iconst (5), 0, 0) :: c_M_circleOfThree_204
def c_M_circleOfThree_202 : List eg_I := .inl (202, 1, .iload 1, 0, 0) :: c_M_circleOfThree_203
def c_M_circleOfThree_199 : List eg_I := .inl (199, 3, .getfield 32, 12, 7) :: c_M_circleOfThree_202
def c_M_circleOfThree_198 : List eg_I := .inl (198, 1, .aload 0, 0, 0) :: c_M_circleOfThree_199
def c_M_circleOfThree_195 : List eg_I := .inl (195, 3, .goto (-182), 13, 0) :: []
def c_M_circleOfThree_192 : List eg_I := .inl (192, 3, .iinc 5 (1), 0, 0) :: c_M_circleOfThree_195
def c_M_circleOfThree_189 : List eg_I := .inl (189, 3, .goto (-159), 30, 0) :: []
def c_M_circleOfThree_186 : List eg_I := .inl (186, 3, .iinc 6 (1), 0, 0) :: c_M_circleOfThree_189
def c_M_circleOfThree_183 : List eg_I := .inl (183, 3, .goto (-136), 47, 0) :: []
def c_M_circleOfThree_180 : List eg_I := .inl (180, 3, .iinc 7 (1), 0, 0) :: c_M_circleOfThree_183
def c_M_circleOfThree_178 : List eg_I := .inl (178, 2, .istore 4, 0, 0) :: c_M_circleOfThree_180
def c_M_circleOfThree_177 : List eg_I := .inl (177, 1, .iconst (-1), 0, 0) :: c_M_circleOfThree_178
def c_M_circleOfThree_174 : List eg_I := .inl (174, 3, .goto (4), 178, 0) :: []
def c_M_circleOfThree_172 : List eg_I := .inl (172, 2, .iload 5, 0, 0) :: c_M_circleOfThree_174
def c_M_circleOfThree_169 : List eg_I := .inl (169, 3, .ifCond .eq (8), 177, 0) :: c_M_circleOfThree_172
def c_M_circleOfThree_166 : List eg_I := .inr (166, 1, 250, n_M_hasAll, 2, 12, 0, 0) :: c_M_circleOfThree_169
def c_M_circleOfThree_164 : List eg_I := .inl (164, 2, .iload 5, 0, 0) :: c_M_circleOfThree_166
def c_M_circleOfThree_163 : List eg_I := .inl (163, 1, .iload 2, 0, 0) :: c_M_circleOfThree_164
def c_M_circleOfThree_162 : List eg_I := .inl (162, 1, .aload 0, 0, 0) :: c_M_circleOfThree_163
def c_M_circleOfThree_159 : List eg_I := .inl (159, 3, .ifCond .eq (18), 177, 0) :: c_M_circleOfThree_162
def c_M_circleOfThree_157 : List eg_I := .inl (157, 2, .iload 8, 0, 0) :: c_M_circleOfThree_159
def c_M_circleOfThree_154 : List eg_I := .inl (154, 3, .ifCond .le (23), 177, 0) :: c_M_circleOfThree_157
def c_M_circleOfThree_153 : List eg_I := .inl (153, 1, .lcmp, 0, 0) :: c_M_circleOfThree_154
def c_M_circleOfThree_152 : List eg_I := .inl (152, 1, .sipush (0), 0, 0) :: c_M_circleOfThree_153
def c_M_circleOfThree_149 : List eg_I := .inl (149, 3, .getfield 218, 12, 36) :: c_M_circleOfThree_152
def c_M_circleOfThree_148 : List eg_I := .inl (148, 1, .aload 0, 0, 0) :: c_M_circleOfThree_149
def c_M_circleOfThree_146 : List eg_I := .inl (146, 2, .istore 8, 0, 0) :: c_M_circleOfThree_148
def c_M_circleOfThree_145 : List eg_I := .inl (145, 1, .iconst (0), 0, 0) :: c_M_circleOfThree_146
def c_M_circleOfThree_142 : List eg_I := .inl (142, 3, .goto (4), 146, 0) :: []
def c_M_circleOfThree_141 : List eg_I := .inl (141, 1, .iconst (1), 0, 0) :: c_M_circleOfThree_142
def c_M_circleOfThree_138 : List eg_I := .inl (138, 3, .ifCond .eq (7), 145, 0) :: c_M_circleOfThree_141
def c_M_circleOfThree_135 : List eg_I := .inr (135, 1, 246, n_M_isSharp, 4, 12, 0, 0) :: c_M_circleOfThree_138
def c_M_circleOfThree_133 : List eg_I := .inl (133, 2, .iload 6, 0, 0) :: c_M_circleOfThree_135
def c_M_circleOfThree_131 : List eg_I := .inl (131, 2, .iload 5, 0, 0) :: c_M_circleOfThree_133
def c_M_circleOfThree_129 : List eg_I := .inl (129, 2, .iload 7, 0, 0) :: c_M_circleOfThree_131
def c_M_circleOfThree_128 : List eg_I := .inl (128, 1, .iload 2, 0, 0) :: c_M_circleOfThree_129
def c_M_circleOfThree_127 : List eg_I := .inl (127, 1, .aload 0, 0, 0) :: c_M_circleOfThree_128
def c_M_circleOfThree_124 : List eg_I := .inl (124, 3, .ifCond .eq (21), 145, 0) :: c_M_circleOfThree_127
def c_M_circleOfThree_121 : List eg_I := .inr (121, 1, 246, n_M_isSharp, 4, 12, 0, 0) :: c_M_circleOfThree_124
def c_M_circleOfThree_119 : List eg_I := .inl (119, 2, .iload 7, 0, 0) :: c_M_circleOfThree_121
def c_M_circleOfThree_117 : List eg_I := .inl (117, 2, .iload 5, 0, 0) :: c_M_circleOfThree_119
def c_M_circleOfThree_115 : List eg_I := .inl (115, 2, .iload 6, 0, 0) :: c_M_circleOfThree_117
def c_M_circleOfThree_114 : List eg_I := .inl (114, 1, .iload 2, 0, 0) :: c_M_circleOfThree_115
def c_M_circleOfThree_113 : List eg_I := .inl (113, 1, .aload 0, 0, 0) :: c_M_circleOfThree_114
def c_M_circleOfThree_110 : List eg_I := .inl (110, 3, .ifCond .eq (35), 145, 0) :: c_M_circleOfThree_113
def c_M_circleOfThree_107 : List eg_I := .inr (107, 1, 246, n_M_isSharp, 4, 12, 0, 0) :: c_M_circleOfThree_110
def c_M_circleOfThree_105 : List eg_I := .inl (105, 2, .iload 7, 0, 0) :: c_M_circleOfThree_107
def c_M_circleOfThree_103 : List eg_I := .inl (103, 2, .iload 6, 0, 0) :: c_M_circleOfThree_105
def c_M_circleOfThree_101 : List eg_I := .inl (101, 2, .iload 5, 0, 0) :: c_M_circleOfThree_103
def c_M_circleOfThree_100 : List eg_I := .inl (100, 1, .iload 2, 0, 0) :: c_M_circleOfThree_101
def c_M_circleOfThree_99 : List eg_I := .inl (99, 1, .aload 0, 0, 0) :: c_M_circleOfThree_100
def c_M_circleOfThree_96 : List eg_I := .inr (96, 1, 242, n_M_tellMiddle, 4, 12, 0, 0) :: c_M_circleOfThree_99
def c_M_circleOfThree_94 : List eg_I := .inl (94, 2, .iload 7, 0, 0) :: c_M_circleOfThree_96
def c_M_circleOfThree_92 : List eg_I := .inl (92, 2, .iload 6, 0, 0) :: c_M_circleOfThree_94
def c_M_circleOfThree_90 : List eg_I := .inl (90, 2, .iload 5, 0, 0) :: c_M_circleOfThree_92
def c_M_circleOfThree_89 : List eg_I := .inl (89, 1, .iload 2, 0, 0) :: c_M_circleOfThree_90
def c_M_circleOfThree_88 : List eg_I := .inl (88, 1, .aload 0, 0, 0) :: c_M_circleOfThree_89
def c_M_circleOfThree_85 : List eg_I := .inl (85, 3, .ifCond .eq (95), 180, 0) :: c_M_circleOfThree_88
def c_M_circleOfThree_82 : List eg_I := .inr (82, 1, 185, n_M_isHere, 2, 12, 0, 0) :: c_M_circleOfThree_85
def c_M_circleOfThree_80 : List eg_I := .inl (80, 2, .iload 7, 0, 0) :: c_M_circleOfThree_82
def c_M_circleOfThree_79 : List eg_I := .inl (79, 1, .iload 2, 0, 0) :: c_M_circleOfThree_80
def c_M_circleOfThree_78 : List eg_I := .inl (78, 1, .aload 0, 0, 0) :: c_M_circleOfThree_79
def c_M_circleOfThree_75 : List eg_I := .inl (75, 3, .ifCond .eq (105), 180, 0) :: c_M_circleOfThree_78
def c_M_circleOfThree_72 : List eg_I := .inr (72, 1, 185, n_M_isHere, 2, 12, 0, 0) :: c_M_circleOfThree_75
def c_M_circleOfThree_70 : List eg_I := .inl (70, 2, .iload 6, 0, 0) :: c_M_circleOfThree_72
def c_M_circleOfThree_69 : List eg_I := .inl (69, 1, .iload 2, 0, 0) :: c_M_circleOfThree_70
def c_M_circleOfThree_68 : List eg_I := .inl (68, 1, .aload 0, 0, 0) :: c_M_circleOfThree_69
def c_M_circleOfThree_65 : List eg_I := .inl (65, 3, .ifCond .eq (115), 180, 0) :: c_M_circleOfThree_68
def c_M_circleOfThree_62 : List eg_I := .inr (62, 1, 185, n_M_isHere, 2, 12, 0, 0) :: c_M_circleOfThree_65
def c_M_circleOfThree_60 : List eg_I := .inl (60, 2, .iload 5, 0, 0) :: c_M_circleOfThree_62
def c_M_circleOfThree_59 : List eg_I := .inl (59, 1, .iload 2, 0, 0) :: c_M_circleOfThree_60
def c_M_circleOfThree_58 : List eg_I := .inl (58, 1, .aload 0, 0, 0) :: c_M_circleOfThree_59
def c_M_circleOfThree_55 : List eg_I := .inl (55, 3, .ifCond .ge (131), 186, 0) :: c_M_circleOfThree_58
def c_M_circleOfThree_53 : List eg_I := .inl (53, 2, .iload 4, 0, 0) :: c_M_circleOfThree_55
def c_M_circleOfThree_50 : List eg_I := .inl (50, 3, .if_icmp .ge (136), 186, 0) :: c_M_circleOfThree_53
def c_M_circleOfThree_49 : List eg_I := .inl (49, 1, .iload 3, 0, 0) :: c_M_circleOfThree_50
def c_M_circleOfThree_47 : List eg_I := .inl (47, 2, .iload 7, 0, 0) :: c_M_circleOfThree_49
def c_M_circleOfThree_45 : List eg_I := .inl (45, 2, .istore 7, 0, 0) :: [.inl (47, 0, .nop, 0, 0)]
def c_M_circleOfThree_44 : List eg_I := .inl (44, 1, .iadd, 0, 0) :: c_M_circleOfThree_45
def c_M_circleOfThree_43 : List eg_I := .inl (43, 1, .iconst (1), 0, 0) :: c_M_circleOfThree_44
def c_M_circleOfThree_41 : List eg_I := .inl (41, 2, .iload 6, 0, 0) :: c_M_circleOfThree_43
def c_M_circleOfThree_38 : List eg_I := .inl (38, 3, .ifCond .ge (154), 192, 0) :: c_M_circleOfThree_41
def c_M_circleOfThree_36 : List eg_I := .inl (36, 2, .iload 4, 0, 0) :: c_M_circleOfThree_38
def c_M_circleOfThree_33 : List eg_I := .inl (33, 3, .if_icmp .ge (159), 192, 0) :: c_M_circleOfThree_36
def c_M_circleOfThree_32 : List eg_I := .inl (32, 1, .iload 3, 0, 0) :: c_M_circleOfThree_33
def c_M_circleOfThree_30 : List eg_I := .inl (30, 2, .iload 6, 0, 0) :: c_M_circleOfThree_32
def c_M_circleOfThree_28 : List eg_I := .inl (28, 2, .istore 6, 0, 0) :: [.inl (30, 0, .nop, 0, 0)]
def c_M_circleOfThree_27 : List eg_I := .inl (27, 1, .iadd, 0, 0) :: c_M_circleOfThree_28
def c_M_circleOfThree_26 : List eg_I := .inl (26, 1, .iconst (1), 0, 0) :: c_M_circleOfThree_27
def c_M_circleOfThree_24 : List eg_I := .inl (24, 2, .iload 5, 0, 0) :: c_M_circleOfThree_26
def c_M_circleOfThree_21 : List eg_I := .inl (21, 3, .ifCond .ge (177), 198, 0) :: c_M_circleOfThree_24
def c_M_circleOfThree_19 : List eg_I := .inl (19, 2, .iload 4, 0, 0) :: c_M_circleOfThree_21
def c_M_circleOfThree_16 : List eg_I := .inl (16, 3, .if_icmp .ge (182), 198, 0) :: c_M_circleOfThree_19
def c_M_circleOfThree_15 : List eg_I := .inl (15, 1, .iload 3, 0, 0) :: c_M_circleOfThree_16
def c_M_circleOfThree_13 : List eg_I := .inl (13, 2, .iload 5, 0, 0) :: c_M_circleOfThree_15
def c_M_circleOfThree_11 : List eg_I := .inl (11, 2, .istore 5, 0, 0) :: [.inl (13, 0, .nop, 0, 0)]
def c_M_circleOfThree_10 : List eg_I := .inl (10, 1, .iconst (0), 0, 0) :: c_M_circleOfThree_11
def c_M_circleOfThree_8 : List eg_I := .inl (8, 2, .istore 4, 0, 0) :: c_M_circleOfThree_10
def c_M_circleOfThree_7 : List eg_I := .inl (7, 1, .iconst (-1), 0, 0) :: c_M_circleOfThree_8
def c_M_circleOfThree_6 : List eg_I := .inl (6, 1, .istore 3, 0, 0) :: c_M_circleOfThree_7
def c_M_circleOfThree_5 : List eg_I := .inl (5, 1, .iaload, 0, 0) :: c_M_circleOfThree_6
def c_M_circleOfThree_4 : List eg_I := .inl (4, 1, .iload 2, 0, 0) :: c_M_circleOfThree_5
def c_M_circleOfThree_1 : List eg_I := .inl (1, 3, .getfield 9, 12, 0) :: c_M_circleOfThree_4
def c_M_circleOfThree_0 : List eg_I := .inl (0, 1, .aload 0, 0, 0) :: c_M_circleOfThree_1
section
variable {rm : Room} {K : Nat → Nat → Nat → eg_Lo → List Value → List eg_E → Prop} {Q : Option Value → List eg_E → Prop} {kc ks : Nat} {loc : eg_Lo} {st : List Value} {h : List eg_E}
theorem s_M_circleOfThree_0 {x : Nat} {l : eg_Lo} : wps rm K Q c_M_circleOfThree_0 kc ks (some (.ref x) :: l) (st) h = wps rm K Q c_M_circleOfThree_1 kc ks (some (.ref x) :: l) (.ref x :: st) h := rfl
theorem s_M_circleOfThree_1 {x : Nat} : wps rm K Q c_M_circleOfThree_1 kc ks loc (.ref (x + 1) :: st) h = eg_gf h x 12 0 (fun v => wps rm K Q c_M_circleOfThree_4 kc ks loc (v :: st) h) := rfl
theorem s_M_circleOfThree_4 {x : Int32} {l0 l1 : Option Value} {l : eg_Lo} : wps rm K Q c_M_circleOfThree_4 kc ks (l0 :: l1 :: some (.int x) :: l) (st) h = wps rm K Q c_M_circleOfThree_5 kc ks (l0 :: l1 :: some (.int x) :: l) (.int x :: st) h := rfl
theorem s_M_circleOfThree_5 {x : Nat} {i : Int32} : wps rm K Q c_M_circleOfThree_5 kc ks loc (.int i :: .ref (x + 1) :: st) h = eg_ia h x i (fun v => wps rm K Q c_M_circleOfThree_6 kc ks loc (.int v :: st) h) := rfl
theorem s_M_circleOfThree_6 {x : Int32} : wps rm K Q c_M_circleOfThree_6 kc ks loc (.int x :: st) h = wps rm K Q c_M_circleOfThree_7 kc ks (eg_set1 loc 3 (.int x)) (st) h := rfl
theorem s_M_circleOfThree_7  : wps rm K Q c_M_circleOfThree_7 kc ks loc (st) h = wps rm K Q c_M_circleOfThree_8 kc ks loc (.int (-1) :: st) h := rfl
theorem s_M_circleOfThree_8 {x : Int32} : wps rm K Q c_M_circleOfThree_8 kc ks loc (.int x :: st) h = wps rm K Q c_M_circleOfThree_10 kc ks (eg_set1 loc 4 (.int x)) (st) h := rfl
theorem s_M_circleOfThree_10  : wps rm K Q c_M_circleOfThree_10 kc ks loc (st) h = wps rm K Q c_M_circleOfThree_11 kc ks loc (.int (0) :: st) h := rfl
theorem s_M_circleOfThree_11 {x : Int32} : wps rm K Q c_M_circleOfThree_11 kc ks loc (.int x :: st) h = K 13 kc ks (eg_set1 loc 5 (.int x)) (st) h := rfl
theorem s_M_circleOfThree_13 {x : Int32} {l0 l1 l2 l3 l4 : Option Value} {l : eg_Lo} : wps rm K Q c_M_circleOfThree_13 kc ks (l0 :: l1 :: l2 :: l3 :: l4 :: some (.int x) :: l) (st) h = wps rm K Q c_M_circleOfThree_15 kc ks (l0 :: l1 :: l2 :: l3 :: l4 :: some (.int x) :: l) (.int x :: st) h := rfl
theorem s_M_circleOfThree_15 {x : Int32} {l0 l1 l2 : Option Value} {l : eg_Lo} : wps rm K Q c_M_circleOfThree_15 kc ks (l0 :: l1 :: l2 :: some (.int x) :: l) (st) h = wps rm K Q c_M_circleOfThree_16 kc ks (l0 :: l1 :: l2 :: some (.int x) :: l) (.int x :: st) h := rfl
theorem s_M_circleOfThree_16 {x y : Int32} : wps rm K Q c_M_circleOfThree_16 kc ks loc (.int y :: .int x :: st) h = ((y ≤ x → K 198 kc ks loc st h) ∧ (¬ y ≤ x → wps rm K Q c_M_circleOfThree_19 kc ks loc (st) h)) := rfl
theorem s_M_circleOfThree_19 {x : Int32} {l0 l1 l2 l3 : Option Value} {l : eg_Lo} : wps rm K Q c_M_circleOfThree_19 kc ks (l0 :: l1 :: l2 :: l3 :: some (.int x) :: l) (st) h = wps rm K Q c_M_circleOfThree_21 kc ks (l0 :: l1 :: l2 :: l3 :: some (.int x) :: l) (.int x :: st) h := rfl
theorem s_M_circleOfThree_21 {x : Int32} : wps rm K Q c_M_circleOfThree_21 kc ks loc (.int x :: st) h = ((0 ≤ x → K 198 kc ks loc st h) ∧ (¬ 0 ≤ x → wps rm K Q c_M_circleOfThree_24 kc ks loc (st) h)) := rfl
theorem s_M_circleOfThree_24 {x : Int32} {l0 l1 l2 l3 l4 : Option Value} {l : eg_Lo} : wps rm K Q c_M_circleOfThree_24 kc ks (l0 :: l1 :: l2 :: l3 :: l4 :: some (.int x) :: l) (st) h = wps rm K Q c_M_circleOfThree_26 kc ks (l0 :: l1 :: l2 :: l3 :: l4 :: some (.int x) :: l) (.int x :: st) h := rfl
theorem s_M_circleOfThree_26  : wps rm K Q c_M_circleOfThree_26 kc ks loc (st) h = wps rm K Q c_M_circleOfThree_27 kc ks loc (.int (1) :: st) h := rfl
theorem s_M_circleOfThree_27 {x y : Int32} : wps rm K Q c_M_circleOfThree_27 kc ks loc (.int y :: .int x :: st) h = wps rm K Q c_M_circleOfThree_28 kc ks loc (.int (x + y) :: st) h := rfl
theorem s_M_circleOfThree_28 {x : Int32} : wps rm K Q c_M_circleOfThree_28 kc ks loc (.int x :: st) h = K 30 kc ks (eg_set1 loc 6 (.int x)) (st) h := rfl
theorem s_M_circleOfThree_30 {x : Int32} {l0 l1 l2 l3 l4 l5 : Option Value} {l : eg_Lo} : wps rm K Q c_M_circleOfThree_30 kc ks (l0 :: l1 :: l2 :: l3 :: l4 :: l5 :: some (.int x) :: l) (st) h = wps rm K Q c_M_circleOfThree_32 kc ks (l0 :: l1 :: l2 :: l3 :: l4 :: l5 :: some (.int x) :: l) (.int x :: st) h := rfl
theorem s_M_circleOfThree_32 {x : Int32} {l0 l1 l2 : Option Value} {l : eg_Lo} : wps rm K Q c_M_circleOfThree_32 kc ks (l0 :: l1 :: l2 :: some (.int x) :: l) (st) h = wps rm K Q c_M_circleOfThree_33 kc ks (l0 :: l1 :: l2 :: some (.int x) :: l) (.int x :: st) h := rfl
theorem s_M_circleOfThree_33 {x y : Int32} : wps rm K Q c_M_circleOfThree_33 kc ks loc (.int y :: .int x :: st) h = ((y ≤ x → K 192 kc ks loc st h) ∧ (¬ y ≤ x → wps rm K Q c_M_circleOfThree_36 kc ks loc (st) h)) := rfl
theorem s_M_circleOfThree_36 {x : Int32} {l0 l1 l2 l3 : Option Value} {l : eg_Lo} : wps rm K Q c_M_circleOfThree_36 kc ks (l0 :: l1 :: l2 :: l3 :: some (.int x) :: l) (st) h = wps rm K Q c_M_circleOfThree_38 kc ks (l0 :: l1 :: l2 :: l3 :: some (.int x) :: l) (.int x :: st) h := rfl
theorem s_M_circleOfThree_38 {x : Int32} : wps rm K Q c_M_circleOfThree_38 kc ks loc (.int x :: st) h = ((0 ≤ x → K 192 kc ks loc st h) ∧ (¬ 0 ≤ x → wps rm K Q c_M_circleOfThree_41 kc ks loc (st) h)) := rfl
theorem s_M_circleOfThree_41 {x : Int32} {l0 l1 l2 l3 l4 l5 : Option Value} {l : eg_Lo} : wps rm K Q c_M_circleOfThree_41 kc ks (l0 :: l1 :: l2 :: l3 :: l4 :: l5 :: some (.int x) :: l) (st) h = wps rm K Q c_M_circleOfThree_43 kc ks (l0 :: l1 :: l2 :: l3 :: l4 :: l5 :: some (.int x) :: l) (.int x :: st) h := rfl
theorem s_M_circleOfThree_43  : wps rm K Q c_M_circleOfThree_43 kc ks loc (st) h = wps rm K Q c_M_circleOfThree_44 kc ks loc (.int (1) :: st) h := rfl
theorem s_M_circleOfThree_44 {x y : Int32} : wps rm K Q c_M_circleOfThree_44 kc ks loc (.int y :: .int x :: st) h = wps rm K Q c_M_circleOfThree_45 kc ks loc (.int (x + y) :: st) h := rfl
theorem s_M_circleOfThree_45 {x : Int32} : wps rm K Q c_M_circleOfThree_45 kc ks loc (.int x :: st) h = K 47 kc ks (eg_set1 loc 7 (.int x)) (st) h := rfl
theorem s_M_circleOfThree_47 {x : Int32} {l0 l1 l2 l3 l4 l5 l6 : Option Value} {l : eg_Lo} : wps rm K Q c_M_circleOfThree_47 kc ks (l0 :: l1 :: l2 :: l3 :: l4 :: l5 :: l6 :: some (.int x) :: l) (st) h = wps rm K Q c_M_circleOfThree_49 kc ks (l0 :: l1 :: l2 :: l3 :: l4 :: l5 :: l6 :: some (.int x) :: l) (.int x :: st) h := rfl
theorem s_M_circleOfThree_49 {x : Int32} {l0 l1 l2 : Option Value} {l : eg_Lo} : wps rm K Q c_M_circleOfThree_49 kc ks (l0 :: l1 :: l2 :: some (.int x) :: l) (st) h = wps rm K Q c_M_circleOfThree_50 kc ks (l0 :: l1 :: l2 :: some (.int x) :: l) (.int x :: st) h := rfl
theorem s_M_circleOfThree_50 {x y : Int32} : wps rm K Q c_M_circleOfThree_50 kc ks loc (.int y :: .int x :: st) h = ((y ≤ x → K 186 kc ks loc st h) ∧ (¬ y ≤ x → wps rm K Q c_M_circleOfThree_53 kc ks loc (st) h)) := rfl
theorem s_M_circleOfThree_53 {x : Int32} {l0 l1 l2 l3 : Option Value} {l : eg_Lo} : wps rm K Q c_M_circleOfThree_53 kc ks (l0 :: l1 :: l2 :: l3 :: some (.int x) :: l) (st) h = wps rm K Q c_M_circleOfThree_55 kc ks (l0 :: l1 :: l2 :: l3 :: some (.int x) :: l) (.int x :: st) h := rfl
theorem s_M_circleOfThree_55 {x : Int32} : wps rm K Q c_M_circleOfThree_55 kc ks loc (.int x :: st) h = ((0 ≤ x → K 186 kc ks loc st h) ∧ (¬ 0 ≤ x → wps rm K Q c_M_circleOfThree_58 kc ks loc (st) h)) := rfl
theorem s_M_circleOfThree_58 {x : Nat} {l : eg_Lo} : wps rm K Q c_M_circleOfThree_58 kc ks (some (.ref x) :: l) (st) h = wps rm K Q c_M_circleOfThree_59 kc ks (some (.ref x) :: l) (.ref x :: st) h := rfl
theorem s_M_circleOfThree_59 {x : Int32} {l0 l1 : Option Value} {l : eg_Lo} : wps rm K Q c_M_circleOfThree_59 kc ks (l0 :: l1 :: some (.int x) :: l) (st) h = wps rm K Q c_M_circleOfThree_60 kc ks (l0 :: l1 :: some (.int x) :: l) (.int x :: st) h := rfl
theorem s_M_circleOfThree_60 {x : Int32} {l0 l1 l2 l3 l4 : Option Value} {l : eg_Lo} : wps rm K Q c_M_circleOfThree_60 kc ks (l0 :: l1 :: l2 :: l3 :: l4 :: some (.int x) :: l) (st) h = wps rm K Q c_M_circleOfThree_62 kc ks (l0 :: l1 :: l2 :: l3 :: l4 :: some (.int x) :: l) (.int x :: st) h := rfl
theorem s_M_circleOfThree_62  {a1 : Value} {a2 : Value} {x : Nat} : wps rm K Q c_M_circleOfThree_62 kc ks loc (a2 :: a1 :: .ref (x + 1) :: st) h = (eg_cls h x 12 ∧ st.length ≤ 4 ∧ eg_Cs n_M_isHere (.ref (x + 1) :: [a1, a2]) h (fun v h9 => wps rm K Q c_M_circleOfThree_65 kc ks loc (v.toList ++ st) h9)) := eg_c1_2
theorem s_M_circleOfThree_65 {x : Int32} : wps rm K Q c_M_circleOfThree_65 kc ks loc (.int x :: st) h = ((x = 0 → K 180 kc ks loc st h) ∧ (¬ x = 0 → wps rm K Q c_M_circleOfThree_68 kc ks loc (st) h)) := rfl
theorem s_M_circleOfThree_68 {x : Nat} {l : eg_Lo} : wps rm K Q c_M_circleOfThree_68 kc ks (some (.ref x) :: l) (st) h = wps rm K Q c_M_circleOfThree_69 kc ks (some (.ref x) :: l) (.ref x :: st) h := rfl
theorem s_M_circleOfThree_69 {x : Int32} {l0 l1 : Option Value} {l : eg_Lo} : wps rm K Q c_M_circleOfThree_69 kc ks (l0 :: l1 :: some (.int x) :: l) (st) h = wps rm K Q c_M_circleOfThree_70 kc ks (l0 :: l1 :: some (.int x) :: l) (.int x :: st) h := rfl
theorem s_M_circleOfThree_70 {x : Int32} {l0 l1 l2 l3 l4 l5 : Option Value} {l : eg_Lo} : wps rm K Q c_M_circleOfThree_70 kc ks (l0 :: l1 :: l2 :: l3 :: l4 :: l5 :: some (.int x) :: l) (st) h = wps rm K Q c_M_circleOfThree_72 kc ks (l0 :: l1 :: l2 :: l3 :: l4 :: l5 :: some (.int x) :: l) (.int x :: st) h := rfl
theorem s_M_circleOfThree_72  {a1 : Value} {a2 : Value} {x : Nat} : wps rm K Q c_M_circleOfThree_72 kc ks loc (a2 :: a1 :: .ref (x + 1) :: st) h = (eg_cls h x 12 ∧ st.length ≤ 4 ∧ eg_Cs n_M_isHere (.ref (x + 1) :: [a1, a2]) h (fun v h9 => wps rm K Q c_M_circleOfThree_75 kc ks loc (v.toList ++ st) h9)) := eg_c1_2
theorem s_M_circleOfThree_75 {x : Int32} : wps rm K Q c_M_circleOfThree_75 kc ks loc (.int x :: st) h = ((x = 0 → K 180 kc ks loc st h) ∧ (¬ x = 0 → wps rm K Q c_M_circleOfThree_78 kc ks loc (st) h)) := rfl
theorem s_M_circleOfThree_78 {x : Nat} {l : eg_Lo} : wps rm K Q c_M_circleOfThree_78 kc ks (some (.ref x) :: l) (st) h = wps rm K Q c_M_circleOfThree_79 kc ks (some (.ref x) :: l) (.ref x :: st) h := rfl
theorem s_M_circleOfThree_79 {x : Int32} {l0 l1 : Option Value} {l : eg_Lo} : wps rm K Q c_M_circleOfThree_79 kc ks (l0 :: l1 :: some (.int x) :: l) (st) h = wps rm K Q c_M_circleOfThree_80 kc ks (l0 :: l1 :: some (.int x) :: l) (.int x :: st) h := rfl
theorem s_M_circleOfThree_80 {x : Int32} {l0 l1 l2 l3 l4 l5 l6 : Option Value} {l : eg_Lo} : wps rm K Q c_M_circleOfThree_80 kc ks (l0 :: l1 :: l2 :: l3 :: l4 :: l5 :: l6 :: some (.int x) :: l) (st) h = wps rm K Q c_M_circleOfThree_82 kc ks (l0 :: l1 :: l2 :: l3 :: l4 :: l5 :: l6 :: some (.int x) :: l) (.int x :: st) h := rfl
theorem s_M_circleOfThree_82  {a1 : Value} {a2 : Value} {x : Nat} : wps rm K Q c_M_circleOfThree_82 kc ks loc (a2 :: a1 :: .ref (x + 1) :: st) h = (eg_cls h x 12 ∧ st.length ≤ 4 ∧ eg_Cs n_M_isHere (.ref (x + 1) :: [a1, a2]) h (fun v h9 => wps rm K Q c_M_circleOfThree_85 kc ks loc (v.toList ++ st) h9)) := eg_c1_2
theorem s_M_circleOfThree_85 {x : Int32} : wps rm K Q c_M_circleOfThree_85 kc ks loc (.int x :: st) h = ((x = 0 → K 180 kc ks loc st h) ∧ (¬ x = 0 → wps rm K Q c_M_circleOfThree_88 kc ks loc (st) h)) := rfl
theorem s_M_circleOfThree_88 {x : Nat} {l : eg_Lo} : wps rm K Q c_M_circleOfThree_88 kc ks (some (.ref x) :: l) (st) h = wps rm K Q c_M_circleOfThree_89 kc ks (some (.ref x) :: l) (.ref x :: st) h := rfl
theorem s_M_circleOfThree_89 {x : Int32} {l0 l1 : Option Value} {l : eg_Lo} : wps rm K Q c_M_circleOfThree_89 kc ks (l0 :: l1 :: some (.int x) :: l) (st) h = wps rm K Q c_M_circleOfThree_90 kc ks (l0 :: l1 :: some (.int x) :: l) (.int x :: st) h := rfl
theorem s_M_circleOfThree_90 {x : Int32} {l0 l1 l2 l3 l4 : Option Value} {l : eg_Lo} : wps rm K Q c_M_circleOfThree_90 kc ks (l0 :: l1 :: l2 :: l3 :: l4 :: some (.int x) :: l) (st) h = wps rm K Q c_M_circleOfThree_92 kc ks (l0 :: l1 :: l2 :: l3 :: l4 :: some (.int x) :: l) (.int x :: st) h := rfl
theorem s_M_circleOfThree_92 {x : Int32} {l0 l1 l2 l3 l4 l5 : Option Value} {l : eg_Lo} : wps rm K Q c_M_circleOfThree_92 kc ks (l0 :: l1 :: l2 :: l3 :: l4 :: l5 :: some (.int x) :: l) (st) h = wps rm K Q c_M_circleOfThree_94 kc ks (l0 :: l1 :: l2 :: l3 :: l4 :: l5 :: some (.int x) :: l) (.int x :: st) h := rfl
theorem s_M_circleOfThree_94 {x : Int32} {l0 l1 l2 l3 l4 l5 l6 : Option Value} {l : eg_Lo} : wps rm K Q c_M_circleOfThree_94 kc ks (l0 :: l1 :: l2 :: l3 :: l4 :: l5 :: l6 :: some (.int x) :: l) (st) h = wps rm K Q c_M_circleOfThree_96 kc ks (l0 :: l1 :: l2 :: l3 :: l4 :: l5 :: l6 :: some (.int x) :: l) (.int x :: st) h := rfl
theorem s_M_circleOfThree_96  {a1 : Value} {a2 : Value} {a3 : Value} {a4 : Value} {x : Nat} : wps rm K Q c_M_circleOfThree_96 kc ks loc (a4 :: a3 :: a2 :: a1 :: .ref (x + 1) :: st) h = (eg_cls h x 12 ∧ st.length ≤ 4 ∧ eg_Cs n_M_tellMiddle (.ref (x + 1) :: [a1, a2, a3, a4]) h (fun v h9 => wps rm K Q c_M_circleOfThree_99 kc ks loc (v.toList ++ st) h9)) := eg_c1_4
theorem s_M_circleOfThree_99 {x : Nat} {l : eg_Lo} : wps rm K Q c_M_circleOfThree_99 kc ks (some (.ref x) :: l) (st) h = wps rm K Q c_M_circleOfThree_100 kc ks (some (.ref x) :: l) (.ref x :: st) h := rfl
theorem s_M_circleOfThree_100 {x : Int32} {l0 l1 : Option Value} {l : eg_Lo} : wps rm K Q c_M_circleOfThree_100 kc ks (l0 :: l1 :: some (.int x) :: l) (st) h = wps rm K Q c_M_circleOfThree_101 kc ks (l0 :: l1 :: some (.int x) :: l) (.int x :: st) h := rfl
theorem s_M_circleOfThree_101 {x : Int32} {l0 l1 l2 l3 l4 : Option Value} {l : eg_Lo} : wps rm K Q c_M_circleOfThree_101 kc ks (l0 :: l1 :: l2 :: l3 :: l4 :: some (.int x) :: l) (st) h = wps rm K Q c_M_circleOfThree_103 kc ks (l0 :: l1 :: l2 :: l3 :: l4 :: some (.int x) :: l) (.int x :: st) h := rfl
theorem s_M_circleOfThree_103 {x : Int32} {l0 l1 l2 l3 l4 l5 : Option Value} {l : eg_Lo} : wps rm K Q c_M_circleOfThree_103 kc ks (l0 :: l1 :: l2 :: l3 :: l4 :: l5 :: some (.int x) :: l) (st) h = wps rm K Q c_M_circleOfThree_105 kc ks (l0 :: l1 :: l2 :: l3 :: l4 :: l5 :: some (.int x) :: l) (.int x :: st) h := rfl
theorem s_M_circleOfThree_105 {x : Int32} {l0 l1 l2 l3 l4 l5 l6 : Option Value} {l : eg_Lo} : wps rm K Q c_M_circleOfThree_105 kc ks (l0 :: l1 :: l2 :: l3 :: l4 :: l5 :: l6 :: some (.int x) :: l) (st) h = wps rm K Q c_M_circleOfThree_107 kc ks (l0 :: l1 :: l2 :: l3 :: l4 :: l5 :: l6 :: some (.int x) :: l) (.int x :: st) h := rfl
theorem s_M_circleOfThree_107  {a1 : Value} {a2 : Value} {a3 : Value} {a4 : Value} {x : Nat} : wps rm K Q c_M_circleOfThree_107 kc ks loc (a4 :: a3 :: a2 :: a1 :: .ref (x + 1) :: st) h = (eg_cls h x 12 ∧ st.length ≤ 4 ∧ eg_Cs n_M_isSharp (.ref (x + 1) :: [a1, a2, a3, a4]) h (fun v h9 => wps rm K Q c_M_circleOfThree_110 kc ks loc (v.toList ++ st) h9)) := eg_c1_4
theorem s_M_circleOfThree_110 {x : Int32} : wps rm K Q c_M_circleOfThree_110 kc ks loc (.int x :: st) h = ((x = 0 → K 145 kc ks loc st h) ∧ (¬ x = 0 → wps rm K Q c_M_circleOfThree_113 kc ks loc (st) h)) := rfl
theorem s_M_circleOfThree_113 {x : Nat} {l : eg_Lo} : wps rm K Q c_M_circleOfThree_113 kc ks (some (.ref x) :: l) (st) h = wps rm K Q c_M_circleOfThree_114 kc ks (some (.ref x) :: l) (.ref x :: st) h := rfl
theorem s_M_circleOfThree_114 {x : Int32} {l0 l1 : Option Value} {l : eg_Lo} : wps rm K Q c_M_circleOfThree_114 kc ks (l0 :: l1 :: some (.int x) :: l) (st) h = wps rm K Q c_M_circleOfThree_115 kc ks (l0 :: l1 :: some (.int x) :: l) (.int x :: st) h := rfl
theorem s_M_circleOfThree_115 {x : Int32} {l0 l1 l2 l3 l4 l5 : Option Value} {l : eg_Lo} : wps rm K Q c_M_circleOfThree_115 kc ks (l0 :: l1 :: l2 :: l3 :: l4 :: l5 :: some (.int x) :: l) (st) h = wps rm K Q c_M_circleOfThree_117 kc ks (l0 :: l1 :: l2 :: l3 :: l4 :: l5 :: some (.int x) :: l) (.int x :: st) h := rfl
theorem s_M_circleOfThree_117 {x : Int32} {l0 l1 l2 l3 l4 : Option Value} {l : eg_Lo} : wps rm K Q c_M_circleOfThree_117 kc ks (l0 :: l1 :: l2 :: l3 :: l4 :: some (.int x) :: l) (st) h = wps rm K Q c_M_circleOfThree_119 kc ks (l0 :: l1 :: l2 :: l3 :: l4 :: some (.int x) :: l) (.int x :: st) h := rfl
theorem s_M_circleOfThree_119 {x : Int32} {l0 l1 l2 l3 l4 l5 l6 : Option Value} {l : eg_Lo} : wps rm K Q c_M_circleOfThree_119 kc ks (l0 :: l1 :: l2 :: l3 :: l4 :: l5 :: l6 :: some (.int x) :: l) (st) h = wps rm K Q c_M_circleOfThree_121 kc ks (l0 :: l1 :: l2 :: l3 :: l4 :: l5 :: l6 :: some (.int x) :: l) (.int x :: st) h := rfl
theorem s_M_circleOfThree_121  {a1 : Value} {a2 : Value} {a3 : Value} {a4 : Value} {x : Nat} : wps rm K Q c_M_circleOfThree_121 kc ks loc (a4 :: a3 :: a2 :: a1 :: .ref (x + 1) :: st) h = (eg_cls h x 12 ∧ st.length ≤ 4 ∧ eg_Cs n_M_isSharp (.ref (x + 1) :: [a1, a2, a3, a4]) h (fun v h9 => wps rm K Q c_M_circleOfThree_124 kc ks loc (v.toList ++ st) h9)) := eg_c1_4
theorem s_M_circleOfThree_124 {x : Int32} : wps rm K Q c_M_circleOfThree_124 kc ks loc (.int x :: st) h = ((x = 0 → K 145 kc ks loc st h) ∧ (¬ x = 0 → wps rm K Q c_M_circleOfThree_127 kc ks loc (st) h)) := rfl
theorem s_M_circleOfThree_127 {x : Nat} {l : eg_Lo} : wps rm K Q c_M_circleOfThree_127 kc ks (some (.ref x) :: l) (st) h = wps rm K Q c_M_circleOfThree_128 kc ks (some (.ref x) :: l) (.ref x :: st) h := rfl
theorem s_M_circleOfThree_128 {x : Int32} {l0 l1 : Option Value} {l : eg_Lo} : wps rm K Q c_M_circleOfThree_128 kc ks (l0 :: l1 :: some (.int x) :: l) (st) h = wps rm K Q c_M_circleOfThree_129 kc ks (l0 :: l1 :: some (.int x) :: l) (.int x :: st) h := rfl
theorem s_M_circleOfThree_129 {x : Int32} {l0 l1 l2 l3 l4 l5 l6 : Option Value} {l : eg_Lo} : wps rm K Q c_M_circleOfThree_129 kc ks (l0 :: l1 :: l2 :: l3 :: l4 :: l5 :: l6 :: some (.int x) :: l) (st) h = wps rm K Q c_M_circleOfThree_131 kc ks (l0 :: l1 :: l2 :: l3 :: l4 :: l5 :: l6 :: some (.int x) :: l) (.int x :: st) h := rfl
theorem s_M_circleOfThree_131 {x : Int32} {l0 l1 l2 l3 l4 : Option Value} {l : eg_Lo} : wps rm K Q c_M_circleOfThree_131 kc ks (l0 :: l1 :: l2 :: l3 :: l4 :: some (.int x) :: l) (st) h = wps rm K Q c_M_circleOfThree_133 kc ks (l0 :: l1 :: l2 :: l3 :: l4 :: some (.int x) :: l) (.int x :: st) h := rfl
theorem s_M_circleOfThree_133 {x : Int32} {l0 l1 l2 l3 l4 l5 : Option Value} {l : eg_Lo} : wps rm K Q c_M_circleOfThree_133 kc ks (l0 :: l1 :: l2 :: l3 :: l4 :: l5 :: some (.int x) :: l) (st) h = wps rm K Q c_M_circleOfThree_135 kc ks (l0 :: l1 :: l2 :: l3 :: l4 :: l5 :: some (.int x) :: l) (.int x :: st) h := rfl
theorem s_M_circleOfThree_135  {a1 : Value} {a2 : Value} {a3 : Value} {a4 : Value} {x : Nat} : wps rm K Q c_M_circleOfThree_135 kc ks loc (a4 :: a3 :: a2 :: a1 :: .ref (x + 1) :: st) h = (eg_cls h x 12 ∧ st.length ≤ 4 ∧ eg_Cs n_M_isSharp (.ref (x + 1) :: [a1, a2, a3, a4]) h (fun v h9 => wps rm K Q c_M_circleOfThree_138 kc ks loc (v.toList ++ st) h9)) := eg_c1_4
theorem s_M_circleOfThree_138 {x : Int32} : wps rm K Q c_M_circleOfThree_138 kc ks loc (.int x :: st) h = ((x = 0 → K 145 kc ks loc st h) ∧ (¬ x = 0 → wps rm K Q c_M_circleOfThree_141 kc ks loc (st) h)) := rfl
theorem s_M_circleOfThree_141  : wps rm K Q c_M_circleOfThree_141 kc ks loc (st) h = wps rm K Q c_M_circleOfThree_142 kc ks loc (.int (1) :: st) h := rfl
theorem s_M_circleOfThree_142  : wps rm K Q c_M_circleOfThree_142 kc ks loc (st) h = K 146 kc ks loc st h := rfl
theorem s_M_circleOfThree_145  : wps rm K Q c_M_circleOfThree_145 kc ks loc (st) h = wps rm K Q c_M_circleOfThree_146 kc ks loc (.int (0) :: st) h := rfl
theorem s_M_circleOfThree_146 {x : Int32} : wps rm K Q c_M_circleOfThree_146 kc ks loc (.int x :: st) h = wps rm K Q c_M_circleOfThree_148 kc ks (eg_set1 loc 8 (.int x)) (st) h := rfl
theorem s_M_circleOfThree_148 {x : Nat} {l : eg_Lo} : wps rm K Q c_M_circleOfThree_148 kc ks (some (.ref x) :: l) (st) h = wps rm K Q c_M_circleOfThree_149 kc ks (some (.ref x) :: l) (.ref x :: st) h := rfl
theorem s_M_circleOfThree_149 {x : Nat} : wps rm K Q c_M_circleOfThree_149 kc ks loc (.ref (x + 1) :: st) h = eg_gf h x 12 36 (fun v => wps rm K Q c_M_circleOfThree_152 kc ks loc (v :: st) h) := rfl
theorem s_M_circleOfThree_152  : wps rm K Q c_M_circleOfThree_152 kc ks loc (st) h = wps rm K Q c_M_circleOfThree_153 kc ks loc (.long (0) :: st) h := rfl
theorem s_M_circleOfThree_153 {x y : Int64} : wps rm K Q c_M_circleOfThree_153 kc ks loc (.long y :: .long x :: st) h = wps rm K Q c_M_circleOfThree_154 kc ks loc (.int (lg_cmp x y) :: st) h := rfl
theorem s_M_circleOfThree_154 {x : Int32} : wps rm K Q c_M_circleOfThree_154 kc ks loc (.int x :: st) h = ((x ≤ 0 → K 177 kc ks loc st h) ∧ (¬ x ≤ 0 → wps rm K Q c_M_circleOfThree_157 kc ks loc (st) h)) := rfl
theorem s_M_circleOfThree_157 {x : Int32} {l0 l1 l2 l3 l4 l5 l6 l7 : Option Value} {l : eg_Lo} : wps rm K Q c_M_circleOfThree_157 kc ks (l0 :: l1 :: l2 :: l3 :: l4 :: l5 :: l6 :: l7 :: some (.int x) :: l) (st) h = wps rm K Q c_M_circleOfThree_159 kc ks (l0 :: l1 :: l2 :: l3 :: l4 :: l5 :: l6 :: l7 :: some (.int x) :: l) (.int x :: st) h := rfl
theorem s_M_circleOfThree_159 {x : Int32} : wps rm K Q c_M_circleOfThree_159 kc ks loc (.int x :: st) h = ((x = 0 → K 177 kc ks loc st h) ∧ (¬ x = 0 → wps rm K Q c_M_circleOfThree_162 kc ks loc (st) h)) := rfl
theorem s_M_circleOfThree_162 {x : Nat} {l : eg_Lo} : wps rm K Q c_M_circleOfThree_162 kc ks (some (.ref x) :: l) (st) h = wps rm K Q c_M_circleOfThree_163 kc ks (some (.ref x) :: l) (.ref x :: st) h := rfl
theorem s_M_circleOfThree_163 {x : Int32} {l0 l1 : Option Value} {l : eg_Lo} : wps rm K Q c_M_circleOfThree_163 kc ks (l0 :: l1 :: some (.int x) :: l) (st) h = wps rm K Q c_M_circleOfThree_164 kc ks (l0 :: l1 :: some (.int x) :: l) (.int x :: st) h := rfl
theorem s_M_circleOfThree_164 {x : Int32} {l0 l1 l2 l3 l4 : Option Value} {l : eg_Lo} : wps rm K Q c_M_circleOfThree_164 kc ks (l0 :: l1 :: l2 :: l3 :: l4 :: some (.int x) :: l) (st) h = wps rm K Q c_M_circleOfThree_166 kc ks (l0 :: l1 :: l2 :: l3 :: l4 :: some (.int x) :: l) (.int x :: st) h := rfl
theorem s_M_circleOfThree_166  {a1 : Value} {a2 : Value} {x : Nat} : wps rm K Q c_M_circleOfThree_166 kc ks loc (a2 :: a1 :: .ref (x + 1) :: st) h = (eg_cls h x 12 ∧ st.length ≤ 4 ∧ eg_Cs n_M_hasAll (.ref (x + 1) :: [a1, a2]) h (fun v h9 => wps rm K Q c_M_circleOfThree_169 kc ks loc (v.toList ++ st) h9)) := eg_c1_2
theorem s_M_circleOfThree_169 {x : Int32} : wps rm K Q c_M_circleOfThree_169 kc ks loc (.int x :: st) h = ((x = 0 → K 177 kc ks loc st h) ∧ (¬ x = 0 → wps rm K Q c_M_circleOfThree_172 kc ks loc (st) h)) := rfl
theorem s_M_circleOfThree_172 {x : Int32} {l0 l1 l2 l3 l4 : Option Value} {l : eg_Lo} : wps rm K Q c_M_circleOfThree_172 kc ks (l0 :: l1 :: l2 :: l3 :: l4 :: some (.int x) :: l) (st) h = wps rm K Q c_M_circleOfThree_174 kc ks (l0 :: l1 :: l2 :: l3 :: l4 :: some (.int x) :: l) (.int x :: st) h := rfl
theorem s_M_circleOfThree_174  : wps rm K Q c_M_circleOfThree_174 kc ks loc (st) h = K 178 kc ks loc st h := rfl
theorem s_M_circleOfThree_177  : wps rm K Q c_M_circleOfThree_177 kc ks loc (st) h = wps rm K Q c_M_circleOfThree_178 kc ks loc (.int (-1) :: st) h := rfl
theorem s_M_circleOfThree_178 {x : Int32} : wps rm K Q c_M_circleOfThree_178 kc ks loc (.int x :: st) h = wps rm K Q c_M_circleOfThree_180 kc ks (eg_set1 loc 4 (.int x)) (st) h := rfl
theorem s_M_circleOfThree_180 {x : Int32} {l0 l1 l2 l3 l4 l5 l6 : Option Value} {l9 : eg_Lo} : wps rm K Q c_M_circleOfThree_180 kc ks (l0 :: l1 :: l2 :: l3 :: l4 :: l5 :: l6 :: some (.int x) :: l9) (st) h = wps rm K Q c_M_circleOfThree_183 kc ks (eg_set1 (l0 :: l1 :: l2 :: l3 :: l4 :: l5 :: l6 :: some (.int x) :: l9) 7 (.int (x + (1)))) (st) h := rfl
theorem s_M_circleOfThree_183  : wps rm K Q c_M_circleOfThree_183 kc ks loc (st) h = K 47 kc ks loc st h := rfl
theorem s_M_circleOfThree_186 {x : Int32} {l0 l1 l2 l3 l4 l5 : Option Value} {l9 : eg_Lo} : wps rm K Q c_M_circleOfThree_186 kc ks (l0 :: l1 :: l2 :: l3 :: l4 :: l5 :: some (.int x) :: l9) (st) h = wps rm K Q c_M_circleOfThree_189 kc ks (eg_set1 (l0 :: l1 :: l2 :: l3 :: l4 :: l5 :: some (.int x) :: l9) 6 (.int (x + (1)))) (st) h := rfl
theorem s_M_circleOfThree_189  : wps rm K Q c_M_circleOfThree_189 kc ks loc (st) h = K 30 kc ks loc st h := rfl
theorem s_M_circleOfThree_192 {x : Int32} {l0 l1 l2 l3 l4 : Option Value} {l9 : eg_Lo} : wps rm K Q c_M_circleOfThree_192 kc ks (l0 :: l1 :: l2 :: l3 :: l4 :: some (.int x) :: l9) (st) h = wps rm K Q c_M_circleOfThree_195 kc ks (eg_set1 (l0 :: l1 :: l2 :: l3 :: l4 :: some (.int x) :: l9) 5 (.int (x + (1)))) (st) h := rfl
theorem s_M_circleOfThree_195  : wps rm K Q c_M_circleOfThree_195 kc ks loc (st) h = K 13 kc ks loc st h := rfl
theorem s_M_circleOfThree_198 {x : Nat} {l : eg_Lo} : wps rm K Q c_M_circleOfThree_198 kc ks (some (.ref x) :: l) (st) h = wps rm K Q c_M_circleOfThree_199 kc ks (some (.ref x) :: l) (.ref x :: st) h := rfl
theorem s_M_circleOfThree_199 {x : Nat} : wps rm K Q c_M_circleOfThree_199 kc ks loc (.ref (x + 1) :: st) h = eg_gf h x 12 7 (fun v => wps rm K Q c_M_circleOfThree_202 kc ks loc (v :: st) h) := rfl
theorem s_M_circleOfThree_202 {x : Int32} {l0 : Option Value} {l : eg_Lo} : wps rm K Q c_M_circleOfThree_202 kc ks (l0 :: some (.int x) :: l) (st) h = wps rm K Q c_M_circleOfThree_203 kc ks (l0 :: some (.int x) :: l) (.int x :: st) h := rfl
theorem s_M_circleOfThree_203  : wps rm K Q c_M_circleOfThree_203 kc ks loc (st) h = wps rm K Q c_M_circleOfThree_204 kc ks loc (.int (5) :: st) h := rfl
theorem s_M_circleOfThree_204 {x : Nat} {i : Int32} {v : Int32} : wps rm K Q c_M_circleOfThree_204 kc ks loc (.int v :: .int i :: .ref (x + 1) :: st) h = eg_is h x i v (fun h9 => wps rm K Q c_M_circleOfThree_205 kc ks loc (st) h9) := rfl
theorem s_M_circleOfThree_205 {x : Nat} {l : eg_Lo} : wps rm K Q c_M_circleOfThree_205 kc ks (some (.ref x) :: l) (st) h = wps rm K Q c_M_circleOfThree_206 kc ks (some (.ref x) :: l) (.ref x :: st) h := rfl
theorem s_M_circleOfThree_206 {x : Nat} : wps rm K Q c_M_circleOfThree_206 kc ks loc (.ref (x + 1) :: st) h = eg_gf h x 12 8 (fun v => wps rm K Q c_M_circleOfThree_209 kc ks loc (v :: st) h) := rfl
theorem s_M_circleOfThree_209 {x : Int32} {l0 : Option Value} {l : eg_Lo} : wps rm K Q c_M_circleOfThree_209 kc ks (l0 :: some (.int x) :: l) (st) h = wps rm K Q c_M_circleOfThree_210 kc ks (l0 :: some (.int x) :: l) (.int x :: st) h := rfl
theorem s_M_circleOfThree_210  : wps rm K Q c_M_circleOfThree_210 kc ks loc (st) h = wps rm K Q c_M_circleOfThree_211 kc ks loc (.int (3) :: st) h := rfl
theorem s_M_circleOfThree_211 {x : Nat} {i : Int32} {v : Int32} : wps rm K Q c_M_circleOfThree_211 kc ks loc (.int v :: .int i :: .ref (x + 1) :: st) h = eg_is h x i v (fun h9 => wps rm K Q c_M_circleOfThree_212 kc ks loc (st) h9) := rfl
theorem s_M_circleOfThree_212  : wps rm K Q c_M_circleOfThree_212 kc ks loc (st) h = wps rm K Q c_M_circleOfThree_213 kc ks loc (.int (0) :: st) h := rfl
theorem s_M_circleOfThree_213 {x : Int32} : wps rm K Q c_M_circleOfThree_213 kc ks loc (.int x :: st) h = wps rm K Q c_M_circleOfThree_215 kc ks (eg_set1 loc 5 (.int x)) (st) h := rfl
theorem s_M_circleOfThree_215  : wps rm K Q c_M_circleOfThree_215 kc ks loc (st) h = wps rm K Q c_M_circleOfThree_216 kc ks loc (.int (0) :: st) h := rfl
theorem s_M_circleOfThree_216 {x : Int32} : wps rm K Q c_M_circleOfThree_216 kc ks loc (.int x :: st) h = K 218 kc ks (eg_set1 loc 6 (.int x)) (st) h := rfl
theorem s_M_circleOfThree_218 {x : Int32} {l0 l1 l2 l3 l4 l5 : Option Value} {l : eg_Lo} : wps rm K Q c_M_circleOfThree_218 kc ks (l0 :: l1 :: l2 :: l3 :: l4 :: l5 :: some (.int x) :: l) (st) h = wps rm K Q c_M_circleOfThree_220 kc ks (l0 :: l1 :: l2 :: l3 :: l4 :: l5 :: some (.int x) :: l) (.int x :: st) h := rfl
theorem s_M_circleOfThree_220 {x : Int32} {l0 l1 l2 : Option Value} {l : eg_Lo} : wps rm K Q c_M_circleOfThree_220 kc ks (l0 :: l1 :: l2 :: some (.int x) :: l) (st) h = wps rm K Q c_M_circleOfThree_221 kc ks (l0 :: l1 :: l2 :: some (.int x) :: l) (.int x :: st) h := rfl
theorem s_M_circleOfThree_221 {x y : Int32} : wps rm K Q c_M_circleOfThree_221 kc ks loc (.int y :: .int x :: st) h = ((y ≤ x → K 375 kc ks loc st h) ∧ (¬ y ≤ x → wps rm K Q c_M_circleOfThree_224 kc ks loc (st) h)) := rfl
theorem s_M_circleOfThree_224 {x : Nat} {l : eg_Lo} : wps rm K Q c_M_circleOfThree_224 kc ks (some (.ref x) :: l) (st) h = wps rm K Q c_M_circleOfThree_225 kc ks (some (.ref x) :: l) (.ref x :: st) h := rfl
theorem s_M_circleOfThree_225 {x : Int32} {l0 l1 : Option Value} {l : eg_Lo} : wps rm K Q c_M_circleOfThree_225 kc ks (l0 :: l1 :: some (.int x) :: l) (st) h = wps rm K Q c_M_circleOfThree_226 kc ks (l0 :: l1 :: some (.int x) :: l) (.int x :: st) h := rfl
theorem s_M_circleOfThree_226 {x : Int32} {l0 l1 l2 l3 l4 l5 : Option Value} {l : eg_Lo} : wps rm K Q c_M_circleOfThree_226 kc ks (l0 :: l1 :: l2 :: l3 :: l4 :: l5 :: some (.int x) :: l) (st) h = wps rm K Q c_M_circleOfThree_228 kc ks (l0 :: l1 :: l2 :: l3 :: l4 :: l5 :: some (.int x) :: l) (.int x :: st) h := rfl
theorem s_M_circleOfThree_228  {a1 : Value} {a2 : Value} {x : Nat} : wps rm K Q c_M_circleOfThree_228 kc ks loc (a2 :: a1 :: .ref (x + 1) :: st) h = (eg_cls h x 12 ∧ st.length ≤ 4 ∧ eg_Cs n_M_isHere (.ref (x + 1) :: [a1, a2]) h (fun v h9 => wps rm K Q c_M_circleOfThree_231 kc ks loc (v.toList ++ st) h9)) := eg_c1_2
theorem s_M_circleOfThree_231 {x : Int32} : wps rm K Q c_M_circleOfThree_231 kc ks loc (.int x :: st) h = ((x = 0 → K 252 kc ks loc st h) ∧ (¬ x = 0 → wps rm K Q c_M_circleOfThree_234 kc ks loc (st) h)) := rfl
theorem s_M_circleOfThree_234 {x : Nat} {l : eg_Lo} : wps rm K Q c_M_circleOfThree_234 kc ks (some (.ref x) :: l) (st) h = wps rm K Q c_M_circleOfThree_235 kc ks (some (.ref x) :: l) (.ref x :: st) h := rfl
theorem s_M_circleOfThree_235 {x : Int32} {l0 l1 : Option Value} {l : eg_Lo} : wps rm K Q c_M_circleOfThree_235 kc ks (l0 :: l1 :: some (.int x) :: l) (st) h = wps rm K Q c_M_circleOfThree_236 kc ks (l0 :: l1 :: some (.int x) :: l) (.int x :: st) h := rfl
theorem s_M_circleOfThree_236 {x : Int32} {l0 l1 l2 l3 : Option Value} {l : eg_Lo} : wps rm K Q c_M_circleOfThree_236 kc ks (l0 :: l1 :: l2 :: l3 :: some (.int x) :: l) (st) h = wps rm K Q c_M_circleOfThree_238 kc ks (l0 :: l1 :: l2 :: l3 :: some (.int x) :: l) (.int x :: st) h := rfl
theorem s_M_circleOfThree_238 {x : Int32} {l0 l1 l2 l3 l4 l5 : Option Value} {l : eg_Lo} : wps rm K Q c_M_circleOfThree_238 kc ks (l0 :: l1 :: l2 :: l3 :: l4 :: l5 :: some (.int x) :: l) (st) h = wps rm K Q c_M_circleOfThree_240 kc ks (l0 :: l1 :: l2 :: l3 :: l4 :: l5 :: some (.int x) :: l) (.int x :: st) h := rfl
theorem s_M_circleOfThree_240  {a1 : Value} {a2 : Value} {a3 : Value} {x : Nat} : wps rm K Q c_M_circleOfThree_240 kc ks loc (a3 :: a2 :: a1 :: .ref (x + 1) :: st) h = (eg_cls h x 12 ∧ st.length ≤ 4 ∧ eg_Cs n_M_outside (.ref (x + 1) :: [a1, a2, a3]) h (fun v h9 => wps rm K Q c_M_circleOfThree_243 kc ks loc (v.toList ++ st) h9)) := eg_c1_3
theorem s_M_circleOfThree_243  : wps rm K Q c_M_circleOfThree_243 kc ks loc (st) h = wps rm K Q c_M_circleOfThree_244 kc ks loc (.long (0) :: st) h := rfl
theorem s_M_circleOfThree_244 {x y : Int64} : wps rm K Q c_M_circleOfThree_244 kc ks loc (.long y :: .long x :: st) h = wps rm K Q c_M_circleOfThree_245 kc ks loc (.int (lg_cmp x y) :: st) h := rfl
theorem s_M_circleOfThree_245 {x : Int32} : wps rm K Q c_M_circleOfThree_245 kc ks loc (.int x :: st) h = ((¬ x = 0 → K 252 kc ks loc st h) ∧ (x = 0 → wps rm K Q c_M_circleOfThree_248 kc ks loc (st) h)) := rfl
theorem s_M_circleOfThree_248  : wps rm K Q c_M_circleOfThree_248 kc ks loc (st) h = wps rm K Q c_M_circleOfThree_249 kc ks loc (.int (1) :: st) h := rfl
theorem s_M_circleOfThree_249  : wps rm K Q c_M_circleOfThree_249 kc ks loc (st) h = K 253 kc ks loc st h := rfl
theorem s_M_circleOfThree_252  : wps rm K Q c_M_circleOfThree_252 kc ks loc (st) h = wps rm K Q c_M_circleOfThree_253 kc ks loc (.int (0) :: st) h := rfl
theorem s_M_circleOfThree_253 {x : Int32} : wps rm K Q c_M_circleOfThree_253 kc ks loc (.int x :: st) h = wps rm K Q c_M_circleOfThree_255 kc ks (eg_set1 loc 7 (.int x)) (st) h := rfl
theorem s_M_circleOfThree_255  : wps rm K Q c_M_circleOfThree_255 kc ks loc (st) h = wps rm K Q c_M_circleOfThree_256 kc ks loc (.int (0) :: st) h := rfl
theorem s_M_circleOfThree_256 {x : Int32} : wps rm K Q c_M_circleOfThree_256 kc ks loc (.int x :: st) h = K 258 kc ks (eg_set1 loc 8 (.int x)) (st) h := rfl
theorem s_M_circleOfThree_258 {x : Int32} {l0 l1 l2 l3 l4 l5 l6 l7 : Option Value} {l : eg_Lo} : wps rm K Q c_M_circleOfThree_258 kc ks (l0 :: l1 :: l2 :: l3 :: l4 :: l5 :: l6 :: l7 :: some (.int x) :: l) (st) h = wps rm K Q c_M_circleOfThree_260 kc ks (l0 :: l1 :: l2 :: l3 :: l4 :: l5 :: l6 :: l7 :: some (.int x) :: l) (.int x :: st) h := rfl
theorem s_M_circleOfThree_260 {x : Int32} {l0 l1 l2 l3 l4 : Option Value} {l : eg_Lo} : wps rm K Q c_M_circleOfThree_260 kc ks (l0 :: l1 :: l2 :: l3 :: l4 :: some (.int x) :: l) (st) h = wps rm K Q c_M_circleOfThree_262 kc ks (l0 :: l1 :: l2 :: l3 :: l4 :: some (.int x) :: l) (.int x :: st) h := rfl
theorem s_M_circleOfThree_262 {x y : Int32} : wps rm K Q c_M_circleOfThree_262 kc ks loc (.int y :: .int x :: st) h = ((y ≤ x → K 341 kc ks loc st h) ∧ (¬ y ≤ x → wps rm K Q c_M_circleOfThree_265 kc ks loc (st) h)) := rfl
theorem s_M_circleOfThree_265 {x : Int32} {l0 l1 : Option Value} {l : eg_Lo} : wps rm K Q c_M_circleOfThree_265 kc ks (l0 :: l1 :: some (.int x) :: l) (st) h = wps rm K Q c_M_circleOfThree_266 kc ks (l0 :: l1 :: some (.int x) :: l) (.int x :: st) h := rfl
theorem s_M_circleOfThree_266 {x : Nat} {l : eg_Lo} : wps rm K Q c_M_circleOfThree_266 kc ks (some (.ref x) :: l) (st) h = wps rm K Q c_M_circleOfThree_267 kc ks (some (.ref x) :: l) (.ref x :: st) h := rfl
theorem s_M_circleOfThree_267 {x : Nat} : wps rm K Q c_M_circleOfThree_267 kc ks loc (.ref (x + 1) :: st) h = eg_gf h x 12 9 (fun v => wps rm K Q c_M_circleOfThree_270 kc ks loc (v :: st) h) := rfl
theorem s_M_circleOfThree_270  : wps rm K Q c_M_circleOfThree_270 kc ks loc (st) h = wps rm K Q c_M_circleOfThree_272 kc ks loc (.int (6) :: st) h := rfl
theorem s_M_circleOfThree_272 {x : Int32} {l0 : Option Value} {l : eg_Lo} : wps rm K Q c_M_circleOfThree_272 kc ks (l0 :: some (.int x) :: l) (st) h = wps rm K Q c_M_circleOfThree_273 kc ks (l0 :: some (.int x) :: l) (.int x :: st) h := rfl
theorem s_M_circleOfThree_273 {x y : Int32} : wps rm K Q c_M_circleOfThree_273 kc ks loc (.int y :: .int x :: st) h = wps rm K Q c_M_circleOfThree_274 kc ks loc (.int (x * y) :: st) h := rfl
theorem s_M_circleOfThree_274 {x : Int32} {l0 l1 l2 l3 l4 l5 l6 l7 : Option Value} {l : eg_Lo} : wps rm K Q c_M_circleOfThree_274 kc ks (l0 :: l1 :: l2 :: l3 :: l4 :: l5 :: l6 :: l7 :: some (.int x) :: l) (st) h = wps rm K Q c_M_circleOfThree_276 kc ks (l0 :: l1 :: l2 :: l3 :: l4 :: l5 :: l6 :: l7 :: some (.int x) :: l) (.int x :: st) h := rfl
theorem s_M_circleOfThree_276 {x y : Int32} : wps rm K Q c_M_circleOfThree_276 kc ks loc (.int y :: .int x :: st) h = wps rm K Q c_M_circleOfThree_277 kc ks loc (.int (x + y) :: st) h := rfl
theorem s_M_circleOfThree_277 {x : Nat} {i : Int32} : wps rm K Q c_M_circleOfThree_277 kc ks loc (.int i :: .ref (x + 1) :: st) h = eg_ia h x i (fun v => wps rm K Q c_M_circleOfThree_278 kc ks loc (.int v :: st) h) := rfl
theorem s_M_circleOfThree_278  {a1 : Value} {a2 : Value} : wps rm K Q c_M_circleOfThree_278 kc ks loc (a2 :: a1 :: st) h = (st.length ≤ 4 ∧ eg_Cs n_M_at_II [a1, a2] h (fun v h9 => wps rm K Q c_M_circleOfThree_281 kc ks loc (v.toList ++ st) h9)) := eg_c0_2
theorem s_M_circleOfThree_281 {x : Int32} : wps rm K Q c_M_circleOfThree_281 kc ks loc (.int x :: st) h = wps rm K Q c_M_circleOfThree_283 kc ks (eg_set1 loc 9 (.int x)) (st) h := rfl
theorem s_M_circleOfThree_283 {x : Int32} {l0 l1 l2 l3 l4 l5 l6 : Option Value} {l : eg_Lo} : wps rm K Q c_M_circleOfThree_283 kc ks (l0 :: l1 :: l2 :: l3 :: l4 :: l5 :: l6 :: some (.int x) :: l) (st) h = wps rm K Q c_M_circleOfThree_285 kc ks (l0 :: l1 :: l2 :: l3 :: l4 :: l5 :: l6 :: some (.int x) :: l) (.int x :: st) h := rfl
theorem s_M_circleOfThree_285 {x : Nat} {l : eg_Lo} : wps rm K Q c_M_circleOfThree_285 kc ks (some (.ref x) :: l) (st) h = wps rm K Q c_M_circleOfThree_286 kc ks (some (.ref x) :: l) (.ref x :: st) h := rfl
theorem s_M_circleOfThree_286 {x : Nat} : wps rm K Q c_M_circleOfThree_286 kc ks loc (.ref (x + 1) :: st) h = eg_gf h x 12 1 (fun v => wps rm K Q c_M_circleOfThree_289 kc ks loc (v :: st) h) := rfl
theorem s_M_circleOfThree_289 {x : Int32} {l0 l1 l2 l3 l4 l5 l6 l7 l8 : Option Value} {l : eg_Lo} : wps rm K Q c_M_circleOfThree_289 kc ks (l0 :: l1 :: l2 :: l3 :: l4 :: l5 :: l6 :: l7 :: l8 :: some (.int x) :: l) (st) h = wps rm K Q c_M_circleOfThree_291 kc ks (l0 :: l1 :: l2 :: l3 :: l4 :: l5 :: l6 :: l7 :: l8 :: some (.int x) :: l) (.int x :: st) h := rfl
theorem s_M_circleOfThree_291 {x : Nat} {i : Int32} : wps rm K Q c_M_circleOfThree_291 kc ks loc (.int i :: .ref (x + 1) :: st) h = eg_ia h x i (fun v => wps rm K Q c_M_circleOfThree_292 kc ks loc (.int v :: st) h) := rfl
theorem s_M_circleOfThree_292 {x : Nat} {l : eg_Lo} : wps rm K Q c_M_circleOfThree_292 kc ks (some (.ref x) :: l) (st) h = wps rm K Q c_M_circleOfThree_293 kc ks (some (.ref x) :: l) (.ref x :: st) h := rfl
theorem s_M_circleOfThree_293 {x : Nat} : wps rm K Q c_M_circleOfThree_293 kc ks loc (.ref (x + 1) :: st) h = eg_gf h x 12 1 (fun v => wps rm K Q c_M_circleOfThree_296 kc ks loc (v :: st) h) := rfl
theorem s_M_circleOfThree_296 {x : Int32} {l0 l1 : Option Value} {l : eg_Lo} : wps rm K Q c_M_circleOfThree_296 kc ks (l0 :: l1 :: some (.int x) :: l) (st) h = wps rm K Q c_M_circleOfThree_297 kc ks (l0 :: l1 :: some (.int x) :: l) (.int x :: st) h := rfl
theorem s_M_circleOfThree_297 {x : Int32} {l0 l1 l2 l3 l4 l5 : Option Value} {l : eg_Lo} : wps rm K Q c_M_circleOfThree_297 kc ks (l0 :: l1 :: l2 :: l3 :: l4 :: l5 :: some (.int x) :: l) (st) h = wps rm K Q c_M_circleOfThree_299 kc ks (l0 :: l1 :: l2 :: l3 :: l4 :: l5 :: some (.int x) :: l) (.int x :: st) h := rfl
theorem s_M_circleOfThree_299  {a1 : Value} {a2 : Value} : wps rm K Q c_M_circleOfThree_299 kc ks loc (a2 :: a1 :: st) h = (st.length ≤ 4 ∧ eg_Cs n_M_at_II [a1, a2] h (fun v h9 => wps rm K Q c_M_circleOfThree_302 kc ks loc (v.toList ++ st) h9)) := eg_c0_2
theorem s_M_circleOfThree_302 {x : Nat} {i : Int32} : wps rm K Q c_M_circleOfThree_302 kc ks loc (.int i :: .ref (x + 1) :: st) h = eg_ia h x i (fun v => wps rm K Q c_M_circleOfThree_303 kc ks loc (.int v :: st) h) := rfl
theorem s_M_circleOfThree_303 {x y : Int32} : wps rm K Q c_M_circleOfThree_303 kc ks loc (.int y :: .int x :: st) h = ((¬ x = y → K 327 kc ks loc st h) ∧ (x = y → wps rm K Q c_M_circleOfThree_306 kc ks loc (st) h)) := rfl
theorem s_M_circleOfThree_306 {x : Nat} {l : eg_Lo} : wps rm K Q c_M_circleOfThree_306 kc ks (some (.ref x) :: l) (st) h = wps rm K Q c_M_circleOfThree_307 kc ks (some (.ref x) :: l) (.ref x :: st) h := rfl
theorem s_M_circleOfThree_307 {x : Nat} : wps rm K Q c_M_circleOfThree_307 kc ks loc (.ref (x + 1) :: st) h = eg_gf h x 12 2 (fun v => wps rm K Q c_M_circleOfThree_310 kc ks loc (v :: st) h) := rfl
theorem s_M_circleOfThree_310 {x : Int32} {l0 l1 l2 l3 l4 l5 l6 l7 l8 : Option Value} {l : eg_Lo} : wps rm K Q c_M_circleOfThree_310 kc ks (l0 :: l1 :: l2 :: l3 :: l4 :: l5 :: l6 :: l7 :: l8 :: some (.int x) :: l) (st) h = wps rm K Q c_M_circleOfThree_312 kc ks (l0 :: l1 :: l2 :: l3 :: l4 :: l5 :: l6 :: l7 :: l8 :: some (.int x) :: l) (.int x :: st) h := rfl
theorem s_M_circleOfThree_312 {x : Nat} {i : Int32} : wps rm K Q c_M_circleOfThree_312 kc ks loc (.int i :: .ref (x + 1) :: st) h = eg_ia h x i (fun v => wps rm K Q c_M_circleOfThree_313 kc ks loc (.int v :: st) h) := rfl
theorem s_M_circleOfThree_313 {x : Nat} {l : eg_Lo} : wps rm K Q c_M_circleOfThree_313 kc ks (some (.ref x) :: l) (st) h = wps rm K Q c_M_circleOfThree_314 kc ks (some (.ref x) :: l) (.ref x :: st) h := rfl
theorem s_M_circleOfThree_314 {x : Nat} : wps rm K Q c_M_circleOfThree_314 kc ks loc (.ref (x + 1) :: st) h = eg_gf h x 12 2 (fun v => wps rm K Q c_M_circleOfThree_317 kc ks loc (v :: st) h) := rfl
theorem s_M_circleOfThree_317 {x : Int32} {l0 l1 : Option Value} {l : eg_Lo} : wps rm K Q c_M_circleOfThree_317 kc ks (l0 :: l1 :: some (.int x) :: l) (st) h = wps rm K Q c_M_circleOfThree_318 kc ks (l0 :: l1 :: some (.int x) :: l) (.int x :: st) h := rfl
theorem s_M_circleOfThree_318 {x : Int32} {l0 l1 l2 l3 l4 l5 : Option Value} {l : eg_Lo} : wps rm K Q c_M_circleOfThree_318 kc ks (l0 :: l1 :: l2 :: l3 :: l4 :: l5 :: some (.int x) :: l) (st) h = wps rm K Q c_M_circleOfThree_320 kc ks (l0 :: l1 :: l2 :: l3 :: l4 :: l5 :: some (.int x) :: l) (.int x :: st) h := rfl
theorem s_M_circleOfThree_320  {a1 : Value} {a2 : Value} : wps rm K Q c_M_circleOfThree_320 kc ks loc (a2 :: a1 :: st) h = (st.length ≤ 4 ∧ eg_Cs n_M_at_II [a1, a2] h (fun v h9 => wps rm K Q c_M_circleOfThree_323 kc ks loc (v.toList ++ st) h9)) := eg_c0_2
theorem s_M_circleOfThree_323 {x : Nat} {i : Int32} : wps rm K Q c_M_circleOfThree_323 kc ks loc (.int i :: .ref (x + 1) :: st) h = eg_ia h x i (fun v => wps rm K Q c_M_circleOfThree_324 kc ks loc (.int v :: st) h) := rfl
theorem s_M_circleOfThree_324 {x y : Int32} : wps rm K Q c_M_circleOfThree_324 kc ks loc (.int y :: .int x :: st) h = ((x = y → K 331 kc ks loc st h) ∧ (¬ x = y → wps rm K Q c_M_circleOfThree_327 kc ks loc (st) h)) := rfl
theorem s_M_circleOfThree_327  : wps rm K Q c_M_circleOfThree_327 kc ks loc (st) h = wps rm K Q c_M_circleOfThree_328 kc ks loc (.int (1) :: st) h := rfl
theorem s_M_circleOfThree_328  : wps rm K Q c_M_circleOfThree_328 kc ks loc (st) h = K 332 kc ks loc st h := rfl
theorem s_M_circleOfThree_331  : wps rm K Q c_M_circleOfThree_331 kc ks loc (st) h = wps rm K Q c_M_circleOfThree_332 kc ks loc (.int (0) :: st) h := rfl
theorem s_M_circleOfThree_332 {x y : Int32} : wps rm K Q c_M_circleOfThree_332 kc ks loc (.int y :: .int x :: st) h = wps rm K Q c_M_circleOfThree_333 kc ks loc (.int (x &&& y) :: st) h := rfl
theorem s_M_circleOfThree_333 {x : Int32} : wps rm K Q c_M_circleOfThree_333 kc ks loc (.int x :: st) h = wps rm K Q c_M_circleOfThree_335 kc ks (eg_set1 loc 7 (.int x)) (st) h := rfl
theorem s_M_circleOfThree_335 {x : Int32} {l0 l1 l2 l3 l4 l5 l6 l7 : Option Value} {l9 : eg_Lo} : wps rm K Q c_M_circleOfThree_335 kc ks (l0 :: l1 :: l2 :: l3 :: l4 :: l5 :: l6 :: l7 :: some (.int x) :: l9) (st) h = wps rm K Q c_M_circleOfThree_338 kc ks (eg_set1 (l0 :: l1 :: l2 :: l3 :: l4 :: l5 :: l6 :: l7 :: some (.int x) :: l9) 8 (.int (x + (1)))) (st) h := rfl
theorem s_M_circleOfThree_338  : wps rm K Q c_M_circleOfThree_338 kc ks loc (st) h = K 258 kc ks loc st h := rfl
theorem s_M_circleOfThree_341 {x : Int32} {l0 l1 l2 l3 l4 l5 l6 : Option Value} {l : eg_Lo} : wps rm K Q c_M_circleOfThree_341 kc ks (l0 :: l1 :: l2 :: l3 :: l4 :: l5 :: l6 :: some (.int x) :: l) (st) h = wps rm K Q c_M_circleOfThree_343 kc ks (l0 :: l1 :: l2 :: l3 :: l4 :: l5 :: l6 :: some (.int x) :: l) (.int x :: st) h := rfl
theorem s_M_circleOfThree_343 {x : Int32} : wps rm K Q c_M_circleOfThree_343 kc ks loc (.int x :: st) h = ((x = 0 → K 369 kc ks loc st h) ∧ (¬ x = 0 → wps rm K Q c_M_circleOfThree_346 kc ks loc (st) h)) := rfl
theorem s_M_circleOfThree_346 {x : Int32} {l0 l1 l2 l3 l4 : Option Value} {l : eg_Lo} : wps rm K Q c_M_circleOfThree_346 kc ks (l0 :: l1 :: l2 :: l3 :: l4 :: some (.int x) :: l) (st) h = wps rm K Q c_M_circleOfThree_348 kc ks (l0 :: l1 :: l2 :: l3 :: l4 :: some (.int x) :: l) (.int x :: st) h := rfl
theorem s_M_circleOfThree_348  : wps rm K Q c_M_circleOfThree_348 kc ks loc (st) h = wps rm K Q c_M_circleOfThree_349 kc ks loc (.int (3) :: st) h := rfl
theorem s_M_circleOfThree_349 {x y : Int32} : wps rm K Q c_M_circleOfThree_349 kc ks loc (.int y :: .int x :: st) h = ((y ≤ x → K 369 kc ks loc st h) ∧ (¬ y ≤ x → wps rm K Q c_M_circleOfThree_352 kc ks loc (st) h)) := rfl
theorem s_M_circleOfThree_352 {x : Nat} {l : eg_Lo} : wps rm K Q c_M_circleOfThree_352 kc ks (some (.ref x) :: l) (st) h = wps rm K Q c_M_circleOfThree_353 kc ks (some (.ref x) :: l) (.ref x :: st) h := rfl
theorem s_M_circleOfThree_353 {x : Nat} : wps rm K Q c_M_circleOfThree_353 kc ks loc (.ref (x + 1) :: st) h = eg_gf h x 12 9 (fun v => wps rm K Q c_M_circleOfThree_356 kc ks loc (v :: st) h) := rfl
theorem s_M_circleOfThree_356  : wps rm K Q c_M_circleOfThree_356 kc ks loc (st) h = wps rm K Q c_M_circleOfThree_358 kc ks loc (.int (6) :: st) h := rfl
theorem s_M_circleOfThree_358 {x : Int32} {l0 : Option Value} {l : eg_Lo} : wps rm K Q c_M_circleOfThree_358 kc ks (l0 :: some (.int x) :: l) (st) h = wps rm K Q c_M_circleOfThree_359 kc ks (l0 :: some (.int x) :: l) (.int x :: st) h := rfl
theorem s_M_circleOfThree_359 {x y : Int32} : wps rm K Q c_M_circleOfThree_359 kc ks loc (.int y :: .int x :: st) h = wps rm K Q c_M_circleOfThree_360 kc ks loc (.int (x * y) :: st) h := rfl
theorem s_M_circleOfThree_360 {x : Int32} {l0 l1 l2 l3 l4 : Option Value} {l : eg_Lo} : wps rm K Q c_M_circleOfThree_360 kc ks (l0 :: l1 :: l2 :: l3 :: l4 :: some (.int x) :: l) (st) h = wps rm K Q c_M_circleOfThree_362 kc ks (l0 :: l1 :: l2 :: l3 :: l4 :: some (.int x) :: l) (.int x :: st) h := rfl
theorem s_M_circleOfThree_362 {x y : Int32} : wps rm K Q c_M_circleOfThree_362 kc ks loc (.int y :: .int x :: st) h = wps rm K Q c_M_circleOfThree_363 kc ks loc (.int (x + y) :: st) h := rfl
theorem s_M_circleOfThree_363 {x : Int32} {l0 l1 l2 l3 l4 l5 : Option Value} {l : eg_Lo} : wps rm K Q c_M_circleOfThree_363 kc ks (l0 :: l1 :: l2 :: l3 :: l4 :: l5 :: some (.int x) :: l) (st) h = wps rm K Q c_M_circleOfThree_365 kc ks (l0 :: l1 :: l2 :: l3 :: l4 :: l5 :: some (.int x) :: l) (.int x :: st) h := rfl
theorem s_M_circleOfThree_365 {x : Nat} {i : Int32} {v : Int32} : wps rm K Q c_M_circleOfThree_365 kc ks loc (.int v :: .int i :: .ref (x + 1) :: st) h = eg_is h x i v (fun h9 => wps rm K Q c_M_circleOfThree_366 kc ks loc (st) h9) := rfl
theorem s_M_circleOfThree_366 {x : Int32} {l0 l1 l2 l3 l4 : Option Value} {l9 : eg_Lo} : wps rm K Q c_M_circleOfThree_366 kc ks (l0 :: l1 :: l2 :: l3 :: l4 :: some (.int x) :: l9) (st) h = wps rm K Q c_M_circleOfThree_369 kc ks (eg_set1 (l0 :: l1 :: l2 :: l3 :: l4 :: some (.int x) :: l9) 5 (.int (x + (1)))) (st) h := rfl
theorem s_M_circleOfThree_369 {x : Int32} {l0 l1 l2 l3 l4 l5 : Option Value} {l9 : eg_Lo} : wps rm K Q c_M_circleOfThree_369 kc ks (l0 :: l1 :: l2 :: l3 :: l4 :: l5 :: some (.int x) :: l9) (st) h = wps rm K Q c_M_circleOfThree_372 kc ks (eg_set1 (l0 :: l1 :: l2 :: l3 :: l4 :: l5 :: some (.int x) :: l9) 6 (.int (x + (1)))) (st) h := rfl
theorem s_M_circleOfThree_372  : wps rm K Q c_M_circleOfThree_372 kc ks loc (st) h = K 218 kc ks loc st h := rfl
theorem s_M_circleOfThree_375 {x : Nat} {l : eg_Lo} : wps rm K Q c_M_circleOfThree_375 kc ks (some (.ref x) :: l) (st) h = wps rm K Q c_M_circleOfThree_376 kc ks (some (.ref x) :: l) (.ref x :: st) h := rfl
theorem s_M_circleOfThree_376 {x : Int32} {l0 : Option Value} {l : eg_Lo} : wps rm K Q c_M_circleOfThree_376 kc ks (l0 :: some (.int x) :: l) (st) h = wps rm K Q c_M_circleOfThree_377 kc ks (l0 :: some (.int x) :: l) (.int x :: st) h := rfl
theorem s_M_circleOfThree_377 {x : Nat} {l : eg_Lo} : wps rm K Q c_M_circleOfThree_377 kc ks (some (.ref x) :: l) (st) h = wps rm K Q c_M_circleOfThree_378 kc ks (some (.ref x) :: l) (.ref x :: st) h := rfl
theorem s_M_circleOfThree_378 {x : Nat} : wps rm K Q c_M_circleOfThree_378 kc ks loc (.ref (x + 1) :: st) h = eg_gf h x 12 34 (fun v => wps rm K Q c_M_circleOfThree_381 kc ks loc (v :: st) h) := rfl
theorem s_M_circleOfThree_381 {x : Nat} {l : eg_Lo} : wps rm K Q c_M_circleOfThree_381 kc ks (some (.ref x) :: l) (st) h = wps rm K Q c_M_circleOfThree_382 kc ks (some (.ref x) :: l) (.ref x :: st) h := rfl
theorem s_M_circleOfThree_382 {x : Nat} : wps rm K Q c_M_circleOfThree_382 kc ks loc (.ref (x + 1) :: st) h = eg_gf h x 12 34 (fun v => wps rm K Q c_M_circleOfThree_385 kc ks loc (v :: st) h) := rfl
theorem s_M_circleOfThree_385 {x y : Int64} : wps rm K Q c_M_circleOfThree_385 kc ks loc (.long y :: .long x :: st) h = wps rm K Q c_M_circleOfThree_386 kc ks loc (.long (x * y) :: st) h := rfl
theorem s_M_circleOfThree_386 {x : Nat} {l : eg_Lo} : wps rm K Q c_M_circleOfThree_386 kc ks (some (.ref x) :: l) (st) h = wps rm K Q c_M_circleOfThree_387 kc ks (some (.ref x) :: l) (.ref x :: st) h := rfl
theorem s_M_circleOfThree_387 {x : Nat} : wps rm K Q c_M_circleOfThree_387 kc ks loc (.ref (x + 1) :: st) h = eg_gf h x 12 35 (fun v => wps rm K Q c_M_circleOfThree_390 kc ks loc (v :: st) h) := rfl
theorem s_M_circleOfThree_390 {x : Nat} {l : eg_Lo} : wps rm K Q c_M_circleOfThree_390 kc ks (some (.ref x) :: l) (st) h = wps rm K Q c_M_circleOfThree_391 kc ks (some (.ref x) :: l) (.ref x :: st) h := rfl
theorem s_M_circleOfThree_391 {x : Nat} : wps rm K Q c_M_circleOfThree_391 kc ks loc (.ref (x + 1) :: st) h = eg_gf h x 12 35 (fun v => wps rm K Q c_M_circleOfThree_394 kc ks loc (v :: st) h) := rfl
theorem s_M_circleOfThree_394 {x y : Int64} : wps rm K Q c_M_circleOfThree_394 kc ks loc (.long y :: .long x :: st) h = wps rm K Q c_M_circleOfThree_395 kc ks loc (.long (x * y) :: st) h := rfl
theorem s_M_circleOfThree_395 {x y : Int64} : wps rm K Q c_M_circleOfThree_395 kc ks loc (.long y :: .long x :: st) h = wps rm K Q c_M_circleOfThree_396 kc ks loc (.long (x + y) :: st) h := rfl
theorem s_M_circleOfThree_396 {x : Nat} {l : eg_Lo} : wps rm K Q c_M_circleOfThree_396 kc ks (some (.ref x) :: l) (st) h = wps rm K Q c_M_circleOfThree_397 kc ks (some (.ref x) :: l) (.ref x :: st) h := rfl
theorem s_M_circleOfThree_397 {x : Nat} : wps rm K Q c_M_circleOfThree_397 kc ks loc (.ref (x + 1) :: st) h = eg_gf h x 12 36 (fun v => wps rm K Q c_M_circleOfThree_400 kc ks loc (v :: st) h) := rfl
theorem s_M_circleOfThree_400 {x : Nat} {l : eg_Lo} : wps rm K Q c_M_circleOfThree_400 kc ks (some (.ref x) :: l) (st) h = wps rm K Q c_M_circleOfThree_401 kc ks (some (.ref x) :: l) (.ref x :: st) h := rfl
theorem s_M_circleOfThree_401 {x : Nat} : wps rm K Q c_M_circleOfThree_401 kc ks loc (.ref (x + 1) :: st) h = eg_gf h x 12 36 (fun v => wps rm K Q c_M_circleOfThree_404 kc ks loc (v :: st) h) := rfl
theorem s_M_circleOfThree_404 {x y : Int64} : wps rm K Q c_M_circleOfThree_404 kc ks loc (.long y :: .long x :: st) h = wps rm K Q c_M_circleOfThree_405 kc ks loc (.long (x * y) :: st) h := rfl
theorem s_M_circleOfThree_405  {a1 : Value} {a2 : Value} {a3 : Value} {x : Nat} : wps rm K Q c_M_circleOfThree_405 kc ks loc (a3 :: a2 :: a1 :: .ref (x + 1) :: st) h = (eg_cls h x 12 ∧ st.length ≤ 4 ∧ eg_Cs n_M_keepMiss (.ref (x + 1) :: [a1, a2, a3]) h (fun v h9 => wps rm K Q c_M_circleOfThree_408 kc ks loc (v.toList ++ st) h9)) := eg_c1_3
theorem s_M_circleOfThree_408 {x : Nat} {l : eg_Lo} : wps rm K Q c_M_circleOfThree_408 kc ks (some (.ref x) :: l) (st) h = wps rm K Q c_M_circleOfThree_409 kc ks (some (.ref x) :: l) (.ref x :: st) h := rfl
theorem s_M_circleOfThree_409 {x : Int32} {l0 : Option Value} {l : eg_Lo} : wps rm K Q c_M_circleOfThree_409 kc ks (l0 :: some (.int x) :: l) (st) h = wps rm K Q c_M_circleOfThree_410 kc ks (l0 :: some (.int x) :: l) (.int x :: st) h := rfl
theorem s_M_circleOfThree_410 {x : Nat} {l : eg_Lo} : wps rm K Q c_M_circleOfThree_410 kc ks (some (.ref x) :: l) (st) h = wps rm K Q c_M_circleOfThree_411 kc ks (some (.ref x) :: l) (.ref x :: st) h := rfl
theorem s_M_circleOfThree_411 {x : Nat} : wps rm K Q c_M_circleOfThree_411 kc ks loc (.ref (x + 1) :: st) h = eg_gf h x 12 1 (fun v => wps rm K Q c_M_circleOfThree_414 kc ks loc (v :: st) h) := rfl
theorem s_M_circleOfThree_414 {x : Int32} {l0 l1 : Option Value} {l : eg_Lo} : wps rm K Q c_M_circleOfThree_414 kc ks (l0 :: l1 :: some (.int x) :: l) (st) h = wps rm K Q c_M_circleOfThree_415 kc ks (l0 :: l1 :: some (.int x) :: l) (.int x :: st) h := rfl
theorem s_M_circleOfThree_415 {x : Int32} {l0 l1 l2 l3 : Option Value} {l : eg_Lo} : wps rm K Q c_M_circleOfThree_415 kc ks (l0 :: l1 :: l2 :: l3 :: some (.int x) :: l) (st) h = wps rm K Q c_M_circleOfThree_417 kc ks (l0 :: l1 :: l2 :: l3 :: some (.int x) :: l) (.int x :: st) h := rfl
theorem s_M_circleOfThree_417  {a1 : Value} {a2 : Value} : wps rm K Q c_M_circleOfThree_417 kc ks loc (a2 :: a1 :: st) h = (st.length ≤ 4 ∧ eg_Cs n_M_at_II [a1, a2] h (fun v h9 => wps rm K Q c_M_circleOfThree_420 kc ks loc (v.toList ++ st) h9)) := eg_c0_2
theorem s_M_circleOfThree_420 {x : Nat} {i : Int32} : wps rm K Q c_M_circleOfThree_420 kc ks loc (.int i :: .ref (x + 1) :: st) h = eg_ia h x i (fun v => wps rm K Q c_M_circleOfThree_421 kc ks loc (.int v :: st) h) := rfl
theorem s_M_circleOfThree_421 {x : Int32} : wps rm K Q c_M_circleOfThree_421 kc ks loc (.int x :: st) h = wps rm K Q c_M_circleOfThree_422 kc ks loc (.long (x.toInt64) :: st) h := rfl
theorem s_M_circleOfThree_422 {x : Nat} {l : eg_Lo} : wps rm K Q c_M_circleOfThree_422 kc ks (some (.ref x) :: l) (st) h = wps rm K Q c_M_circleOfThree_423 kc ks (some (.ref x) :: l) (.ref x :: st) h := rfl
theorem s_M_circleOfThree_423 {x : Nat} : wps rm K Q c_M_circleOfThree_423 kc ks loc (.ref (x + 1) :: st) h = eg_gf h x 12 36 (fun v => wps rm K Q c_M_circleOfThree_426 kc ks loc (v :: st) h) := rfl
theorem s_M_circleOfThree_426 {x y : Int64} : wps rm K Q c_M_circleOfThree_426 kc ks loc (.long y :: .long x :: st) h = wps rm K Q c_M_circleOfThree_427 kc ks loc (.long (x * y) :: st) h := rfl
theorem s_M_circleOfThree_427 {x : Nat} {l : eg_Lo} : wps rm K Q c_M_circleOfThree_427 kc ks (some (.ref x) :: l) (st) h = wps rm K Q c_M_circleOfThree_428 kc ks (some (.ref x) :: l) (.ref x :: st) h := rfl
theorem s_M_circleOfThree_428 {x : Nat} : wps rm K Q c_M_circleOfThree_428 kc ks loc (.ref (x + 1) :: st) h = eg_gf h x 12 34 (fun v => wps rm K Q c_M_circleOfThree_431 kc ks loc (v :: st) h) := rfl
theorem s_M_circleOfThree_431 {x y : Int64} : wps rm K Q c_M_circleOfThree_431 kc ks loc (.long y :: .long x :: st) h = wps rm K Q c_M_circleOfThree_432 kc ks loc (.long (x + y) :: st) h := rfl
theorem s_M_circleOfThree_432 {x : Nat} {l : eg_Lo} : wps rm K Q c_M_circleOfThree_432 kc ks (some (.ref x) :: l) (st) h = wps rm K Q c_M_circleOfThree_433 kc ks (some (.ref x) :: l) (.ref x :: st) h := rfl
theorem s_M_circleOfThree_433 {x : Nat} : wps rm K Q c_M_circleOfThree_433 kc ks loc (.ref (x + 1) :: st) h = eg_gf h x 12 2 (fun v => wps rm K Q c_M_circleOfThree_436 kc ks loc (v :: st) h) := rfl
theorem s_M_circleOfThree_436 {x : Int32} {l0 l1 : Option Value} {l : eg_Lo} : wps rm K Q c_M_circleOfThree_436 kc ks (l0 :: l1 :: some (.int x) :: l) (st) h = wps rm K Q c_M_circleOfThree_437 kc ks (l0 :: l1 :: some (.int x) :: l) (.int x :: st) h := rfl
theorem s_M_circleOfThree_437 {x : Int32} {l0 l1 l2 l3 : Option Value} {l : eg_Lo} : wps rm K Q c_M_circleOfThree_437 kc ks (l0 :: l1 :: l2 :: l3 :: some (.int x) :: l) (st) h = wps rm K Q c_M_circleOfThree_439 kc ks (l0 :: l1 :: l2 :: l3 :: some (.int x) :: l) (.int x :: st) h := rfl
theorem s_M_circleOfThree_439  {a1 : Value} {a2 : Value} : wps rm K Q c_M_circleOfThree_439 kc ks loc (a2 :: a1 :: st) h = (st.length ≤ 4 ∧ eg_Cs n_M_at_II [a1, a2] h (fun v h9 => wps rm K Q c_M_circleOfThree_442 kc ks loc (v.toList ++ st) h9)) := eg_c0_2
theorem s_M_circleOfThree_442 {x : Nat} {i : Int32} : wps rm K Q c_M_circleOfThree_442 kc ks loc (.int i :: .ref (x + 1) :: st) h = eg_ia h x i (fun v => wps rm K Q c_M_circleOfThree_443 kc ks loc (.int v :: st) h) := rfl
theorem s_M_circleOfThree_443 {x : Int32} : wps rm K Q c_M_circleOfThree_443 kc ks loc (.int x :: st) h = wps rm K Q c_M_circleOfThree_444 kc ks loc (.long (x.toInt64) :: st) h := rfl
theorem s_M_circleOfThree_444 {x : Nat} {l : eg_Lo} : wps rm K Q c_M_circleOfThree_444 kc ks (some (.ref x) :: l) (st) h = wps rm K Q c_M_circleOfThree_445 kc ks (some (.ref x) :: l) (.ref x :: st) h := rfl
theorem s_M_circleOfThree_445 {x : Nat} : wps rm K Q c_M_circleOfThree_445 kc ks loc (.ref (x + 1) :: st) h = eg_gf h x 12 36 (fun v => wps rm K Q c_M_circleOfThree_448 kc ks loc (v :: st) h) := rfl
theorem s_M_circleOfThree_448 {x y : Int64} : wps rm K Q c_M_circleOfThree_448 kc ks loc (.long y :: .long x :: st) h = wps rm K Q c_M_circleOfThree_449 kc ks loc (.long (x * y) :: st) h := rfl
theorem s_M_circleOfThree_449 {x : Nat} {l : eg_Lo} : wps rm K Q c_M_circleOfThree_449 kc ks (some (.ref x) :: l) (st) h = wps rm K Q c_M_circleOfThree_450 kc ks (some (.ref x) :: l) (.ref x :: st) h := rfl
theorem s_M_circleOfThree_450 {x : Nat} : wps rm K Q c_M_circleOfThree_450 kc ks loc (.ref (x + 1) :: st) h = eg_gf h x 12 35 (fun v => wps rm K Q c_M_circleOfThree_453 kc ks loc (v :: st) h) := rfl
theorem s_M_circleOfThree_453 {x y : Int64} : wps rm K Q c_M_circleOfThree_453 kc ks loc (.long y :: .long x :: st) h = wps rm K Q c_M_circleOfThree_454 kc ks loc (.long (x + y) :: st) h := rfl
theorem s_M_circleOfThree_454 {x : Nat} {l : eg_Lo} : wps rm K Q c_M_circleOfThree_454 kc ks (some (.ref x) :: l) (st) h = wps rm K Q c_M_circleOfThree_455 kc ks (some (.ref x) :: l) (.ref x :: st) h := rfl
theorem s_M_circleOfThree_455 {x : Nat} : wps rm K Q c_M_circleOfThree_455 kc ks loc (.ref (x + 1) :: st) h = eg_gf h x 12 36 (fun v => wps rm K Q c_M_circleOfThree_458 kc ks loc (v :: st) h) := rfl
theorem s_M_circleOfThree_458  {a1 : Value} {a2 : Value} {a3 : Value} {a4 : Value} {x : Nat} : wps rm K Q c_M_circleOfThree_458 kc ks loc (a4 :: a3 :: a2 :: a1 :: .ref (x + 1) :: st) h = (eg_cls h x 12 ∧ st.length ≤ 4 ∧ eg_Cs n_M_keepMiddle (.ref (x + 1) :: [a1, a2, a3, a4]) h (fun v h9 => wps rm K Q c_M_circleOfThree_461 kc ks loc (v.toList ++ st) h9)) := eg_c1_4
theorem s_M_circleOfThree_461  : wps rm K Q c_M_circleOfThree_461 kc ks loc (st) h = wps rm K Q c_M_circleOfThree_464 kc ks loc (.long (3) :: st) h := rfl
theorem s_M_circleOfThree_464 {x : Int64} : wps rm K Q c_M_circleOfThree_464 kc ks loc ([.long x]) h = (kc = rm.cells ∧ Q (some (.long x)) h) := rfl
def T_M_circleOfThree : List (Nat × List eg_I) := [(145, c_M_circleOfThree_145), (146, c_M_circleOfThree_146), (177, c_M_circleOfThree_177), (178, c_M_circleOfThree_178), (180, c_M_circleOfThree_180), (186, c_M_circleOfThree_186), (192, c_M_circleOfThree_192), (198, c_M_circleOfThree_198), (252, c_M_circleOfThree_252), (253, c_M_circleOfThree_253), (327, c_M_circleOfThree_327), (331, c_M_circleOfThree_331), (332, c_M_circleOfThree_332), (341, c_M_circleOfThree_341), (369, c_M_circleOfThree_369), (375, c_M_circleOfThree_375)]
theorem j_M_circleOfThree_145 {R : Nat → Nat → Nat → eg_Lo → List Value → List eg_E → Prop} {f pc0 : Nat} : eg_run rm R Q T_M_circleOfThree (f + 1) 145 kc ks loc st h = wps rm (eg_run rm R Q T_M_circleOfThree f) Q c_M_circleOfThree_145 kc ks loc st h := rfl
theorem j_M_circleOfThree_146 {R : Nat → Nat → Nat → eg_Lo → List Value → List eg_E → Prop} {f pc0 : Nat} : eg_run rm R Q T_M_circleOfThree (f + 1) 146 kc ks loc st h = wps rm (eg_run rm R Q T_M_circleOfThree f) Q c_M_circleOfThree_146 kc ks loc st h := rfl
theorem j_M_circleOfThree_177 {R : Nat → Nat → Nat → eg_Lo → List Value → List eg_E → Prop} {f pc0 : Nat} : eg_run rm R Q T_M_circleOfThree (f + 1) 177 kc ks loc st h = wps rm (eg_run rm R Q T_M_circleOfThree f) Q c_M_circleOfThree_177 kc ks loc st h := rfl
theorem j_M_circleOfThree_178 {R : Nat → Nat → Nat → eg_Lo → List Value → List eg_E → Prop} {f pc0 : Nat} : eg_run rm R Q T_M_circleOfThree (f + 1) 178 kc ks loc st h = wps rm (eg_run rm R Q T_M_circleOfThree f) Q c_M_circleOfThree_178 kc ks loc st h := rfl
theorem j_M_circleOfThree_180 {R : Nat → Nat → Nat → eg_Lo → List Value → List eg_E → Prop} {f pc0 : Nat} : eg_run rm R Q T_M_circleOfThree (f + 1) 180 kc ks loc st h = wps rm (eg_run rm R Q T_M_circleOfThree f) Q c_M_circleOfThree_180 kc ks loc st h := rfl
theorem j_M_circleOfThree_186 {R : Nat → Nat → Nat → eg_Lo → List Value → List eg_E → Prop} {f pc0 : Nat} : eg_run rm R Q T_M_circleOfThree (f + 1) 186 kc ks loc st h = wps rm (eg_run rm R Q T_M_circleOfThree f) Q c_M_circleOfThree_186 kc ks loc st h := rfl
theorem j_M_circleOfThree_192 {R : Nat → Nat → Nat → eg_Lo → List Value → List eg_E → Prop} {f pc0 : Nat} : eg_run rm R Q T_M_circleOfThree (f + 1) 192 kc ks loc st h = wps rm (eg_run rm R Q T_M_circleOfThree f) Q c_M_circleOfThree_192 kc ks loc st h := rfl
theorem j_M_circleOfThree_198 {R : Nat → Nat → Nat → eg_Lo → List Value → List eg_E → Prop} {f pc0 : Nat} : eg_run rm R Q T_M_circleOfThree (f + 1) 198 kc ks loc st h = wps rm (eg_run rm R Q T_M_circleOfThree f) Q c_M_circleOfThree_198 kc ks loc st h := rfl
theorem j_M_circleOfThree_252 {R : Nat → Nat → Nat → eg_Lo → List Value → List eg_E → Prop} {f pc0 : Nat} : eg_run rm R Q T_M_circleOfThree (f + 1) 252 kc ks loc st h = wps rm (eg_run rm R Q T_M_circleOfThree f) Q c_M_circleOfThree_252 kc ks loc st h := rfl
theorem j_M_circleOfThree_253 {R : Nat → Nat → Nat → eg_Lo → List Value → List eg_E → Prop} {f pc0 : Nat} : eg_run rm R Q T_M_circleOfThree (f + 1) 253 kc ks loc st h = wps rm (eg_run rm R Q T_M_circleOfThree f) Q c_M_circleOfThree_253 kc ks loc st h := rfl
theorem j_M_circleOfThree_327 {R : Nat → Nat → Nat → eg_Lo → List Value → List eg_E → Prop} {f pc0 : Nat} : eg_run rm R Q T_M_circleOfThree (f + 1) 327 kc ks loc st h = wps rm (eg_run rm R Q T_M_circleOfThree f) Q c_M_circleOfThree_327 kc ks loc st h := rfl
theorem j_M_circleOfThree_331 {R : Nat → Nat → Nat → eg_Lo → List Value → List eg_E → Prop} {f pc0 : Nat} : eg_run rm R Q T_M_circleOfThree (f + 1) 331 kc ks loc st h = wps rm (eg_run rm R Q T_M_circleOfThree f) Q c_M_circleOfThree_331 kc ks loc st h := rfl
theorem j_M_circleOfThree_332 {R : Nat → Nat → Nat → eg_Lo → List Value → List eg_E → Prop} {f pc0 : Nat} : eg_run rm R Q T_M_circleOfThree (f + 1) 332 kc ks loc st h = wps rm (eg_run rm R Q T_M_circleOfThree f) Q c_M_circleOfThree_332 kc ks loc st h := rfl
theorem j_M_circleOfThree_341 {R : Nat → Nat → Nat → eg_Lo → List Value → List eg_E → Prop} {f pc0 : Nat} : eg_run rm R Q T_M_circleOfThree (f + 1) 341 kc ks loc st h = wps rm (eg_run rm R Q T_M_circleOfThree f) Q c_M_circleOfThree_341 kc ks loc st h := rfl
theorem j_M_circleOfThree_369 {R : Nat → Nat → Nat → eg_Lo → List Value → List eg_E → Prop} {f pc0 : Nat} : eg_run rm R Q T_M_circleOfThree (f + 1) 369 kc ks loc st h = wps rm (eg_run rm R Q T_M_circleOfThree f) Q c_M_circleOfThree_369 kc ks loc st h := rfl
theorem j_M_circleOfThree_375 {R : Nat → Nat → Nat → eg_Lo → List Value → List eg_E → Prop} {f pc0 : Nat} : eg_run rm R Q T_M_circleOfThree (f + 1) 375 kc ks loc st h = wps rm (eg_run rm R Q T_M_circleOfThree f) Q c_M_circleOfThree_375 kc ks loc st h := rfl
theorem j_M_circleOfThree_13 {R : Nat → Nat → Nat → eg_Lo → List Value → List eg_E → Prop} {f pc0 : Nat} : eg_run rm R Q T_M_circleOfThree (f + 1) 13 kc ks loc st h = R 13 kc ks loc st h := rfl
theorem j_M_circleOfThree_30 {R : Nat → Nat → Nat → eg_Lo → List Value → List eg_E → Prop} {f pc0 : Nat} : eg_run rm R Q T_M_circleOfThree (f + 1) 30 kc ks loc st h = R 30 kc ks loc st h := rfl
theorem j_M_circleOfThree_47 {R : Nat → Nat → Nat → eg_Lo → List Value → List eg_E → Prop} {f pc0 : Nat} : eg_run rm R Q T_M_circleOfThree (f + 1) 47 kc ks loc st h = R 47 kc ks loc st h := rfl
theorem j_M_circleOfThree_218 {R : Nat → Nat → Nat → eg_Lo → List Value → List eg_E → Prop} {f pc0 : Nat} : eg_run rm R Q T_M_circleOfThree (f + 1) 218 kc ks loc st h = R 218 kc ks loc st h := rfl
theorem j_M_circleOfThree_258 {R : Nat → Nat → Nat → eg_Lo → List Value → List eg_E → Prop} {f pc0 : Nat} : eg_run rm R Q T_M_circleOfThree (f + 1) 258 kc ks loc st h = R 258 kc ks loc st h := rfl
end
theorem q_M_circleOfThree : (T_M_circleOfThree.all fun q => eg_seq m_M_circleOfThree q.1 q.2) = true := by decide +kernel
theorem b_M_circleOfThree {as : List Value} {h : List eg_E} {Q : Option Value → List eg_E → Prop} (hf : (eg_fl as).length ≤ 10) (hw : wps (eg_rm m_M_circleOfThree) (eg_run (eg_rm m_M_circleOfThree) (eg_R m_M_circleOfThree Q (h.length + 0)) Q T_M_circleOfThree 18) Q c_M_circleOfThree_0 0 0 (eg_entry 10 as) [] h) : eg_Runs n_M_circleOfThree as h Q := eg_begin (d := m_M_circleOfThree) rfl (by decide) (by decide +kernel) q_M_circleOfThree hf hw
theorem p_M_circleOfThree_13 {Q : Option Value → List eg_E → Prop} {n0 kc ks : Nat} {loc : eg_Lo} {st : List Value} {h : List eg_E} (hw : wps (eg_rm m_M_circleOfThree) (eg_run (eg_rm m_M_circleOfThree) (eg_R m_M_circleOfThree Q n0) Q T_M_circleOfThree 18) Q c_M_circleOfThree_13 kc ks loc st h) : eg_R m_M_circleOfThree Q n0 13 kc ks loc st h := eg_go (by decide +kernel) q_M_circleOfThree hw
theorem p_M_circleOfThree_30 {Q : Option Value → List eg_E → Prop} {n0 kc ks : Nat} {loc : eg_Lo} {st : List Value} {h : List eg_E} (hw : wps (eg_rm m_M_circleOfThree) (eg_run (eg_rm m_M_circleOfThree) (eg_R m_M_circleOfThree Q n0) Q T_M_circleOfThree 18) Q c_M_circleOfThree_30 kc ks loc st h) : eg_R m_M_circleOfThree Q n0 30 kc ks loc st h := eg_go (by decide +kernel) q_M_circleOfThree hw
theorem p_M_circleOfThree_47 {Q : Option Value → List eg_E → Prop} {n0 kc ks : Nat} {loc : eg_Lo} {st : List Value} {h : List eg_E} (hw : wps (eg_rm m_M_circleOfThree) (eg_run (eg_rm m_M_circleOfThree) (eg_R m_M_circleOfThree Q n0) Q T_M_circleOfThree 18) Q c_M_circleOfThree_47 kc ks loc st h) : eg_R m_M_circleOfThree Q n0 47 kc ks loc st h := eg_go (by decide +kernel) q_M_circleOfThree hw
theorem p_M_circleOfThree_218 {Q : Option Value → List eg_E → Prop} {n0 kc ks : Nat} {loc : eg_Lo} {st : List Value} {h : List eg_E} (hw : wps (eg_rm m_M_circleOfThree) (eg_run (eg_rm m_M_circleOfThree) (eg_R m_M_circleOfThree Q n0) Q T_M_circleOfThree 18) Q c_M_circleOfThree_218 kc ks loc st h) : eg_R m_M_circleOfThree Q n0 218 kc ks loc st h := eg_go (by decide +kernel) q_M_circleOfThree hw
theorem p_M_circleOfThree_258 {Q : Option Value → List eg_E → Prop} {n0 kc ks : Nat} {loc : eg_Lo} {st : List Value} {h : List eg_E} (hw : wps (eg_rm m_M_circleOfThree) (eg_run (eg_rm m_M_circleOfThree) (eg_R m_M_circleOfThree Q n0) Q T_M_circleOfThree 18) Q c_M_circleOfThree_258 kc ks loc st h) : eg_R m_M_circleOfThree Q n0 258 kc ks loc st h := eg_go (by decide +kernel) q_M_circleOfThree hw
/-! ===== M_fit ===== -/
def c_M_fit_71 : List eg_I := .inl (71, 1, .lreturn, 0, 0) :: []
def c_M_fit_68 : List eg_I := .inr (68, 1, 264, n_M_fitCircle, 2, 12, 0, 0) :: c_M_fit_71
def c_M_fit_67 : List eg_I := .inl (67, 1, .iload 3, 0, 0) :: c_M_fit_68
def c_M_fit_66 : List eg_I := .inl (66, 1, .iload 1, 0, 0) :: c_M_fit_67
def c_M_fit_65 : List eg_I := .inl (65, 1, .aload 0, 0, 0) :: c_M_fit_66
def c_M_fit_62 : List eg_I := .inl (62, 3, .goto (9), 71, 0) :: []
def c_M_fit_59 : List eg_I := .inr (59, 1, 261, n_M_fitPlane, 2, 12, 0, 0) :: c_M_fit_62
def c_M_fit_58 : List eg_I := .inl (58, 1, .iload 3, 0, 0) :: c_M_fit_59
def c_M_fit_57 : List eg_I := .inl (57, 1, .iload 1, 0, 0) :: c_M_fit_58
def c_M_fit_56 : List eg_I := .inl (56, 1, .aload 0, 0, 0) :: c_M_fit_57
def c_M_fit_53 : List eg_I := .inl (53, 3, .if_icmp .ne (12), 65, 0) :: c_M_fit_56
def c_M_fit_52 : List eg_I := .inl (52, 1, .iconst (3), 0, 0) :: c_M_fit_53
def c_M_fit_51 : List eg_I := .inl (51, 1, .iload 2, 0, 0) :: c_M_fit_52
def c_M_fit_48 : List eg_I := .inl (48, 3, .goto (23), 71, 0) :: []
def c_M_fit_45 : List eg_I := .inr (45, 1, 258, n_M_fitLine, 2, 12, 0, 0) :: c_M_fit_48
def c_M_fit_44 : List eg_I := .inl (44, 1, .iload 3, 0, 0) :: c_M_fit_45
def c_M_fit_43 : List eg_I := .inl (43, 1, .iload 1, 0, 0) :: c_M_fit_44
def c_M_fit_42 : List eg_I := .inl (42, 1, .aload 0, 0, 0) :: c_M_fit_43
def c_M_fit_39 : List eg_I := .inl (39, 3, .if_icmp .ne (12), 51, 0) :: c_M_fit_42
def c_M_fit_38 : List eg_I := .inl (38, 1, .iconst (2), 0, 0) :: c_M_fit_39
def c_M_fit_37 : List eg_I := .inl (37, 1, .iload 2, 0, 0) :: c_M_fit_38
def c_M_fit_36 : List eg_I := .inl (36, 1, .lreturn, 0, 0) :: []
def c_M_fit_33 : List eg_I := .inr (33, 1, 112, n_M_finding, 1, 12, 0, 0) :: c_M_fit_36
def c_M_fit_30 : List eg_I := .inl (30, 3, .sipush (-1000000000000000001), 110, 0) :: c_M_fit_33
def c_M_fit_29 : List eg_I := .inl (29, 1, .aload 0, 0, 0) :: c_M_fit_30
def c_M_fit_26 : List eg_I := .inl (26, 3, .if_icmp .eq (11), 37, 0) :: c_M_fit_29
def c_M_fit_25 : List eg_I := .inl (25, 1, .iconst (5), 0, 0) :: c_M_fit_26
def c_M_fit_24 : List eg_I := .inl (24, 1, .iload 2, 0, 0) :: c_M_fit_25
def c_M_fit_21 : List eg_I := .inl (21, 3, .if_icmp .eq (16), 37, 0) :: c_M_fit_24
def c_M_fit_20 : List eg_I := .inl (20, 1, .iconst (3), 0, 0) :: c_M_fit_21
def c_M_fit_19 : List eg_I := .inl (19, 1, .iload 2, 0, 0) :: c_M_fit_20
def c_M_fit_16 : List eg_I := .inl (16, 3, .if_icmp .eq (21), 37, 0) :: c_M_fit_19
def c_M_fit_15 : List eg_I := .inl (15, 1, .iconst (2), 0, 0) :: c_M_fit_16
def c_M_fit_14 : List eg_I := .inl (14, 1, .iload 2, 0, 0) :: c_M_fit_15
def c_M_fit_11 : List eg_I := .inl (11, 3, .ifCond .eq (18), 29, 0) :: c_M_fit_14
def c_M_fit_8 : List eg_I := .inr (8, 0, 99, n_M_isPart, 1, 12, 0, 0) :: c_M_fit_11
def c_M_fit_7 : List eg_I := .inl (7, 1, .iload 3, 0, 0) :: c_M_fit_8
def c_M_fit_4 : List eg_I := .inl (4, 3, .ifCond .eq (25), 29, 0) :: c_M_fit_7
def c_M_fit_1 : List eg_I := .inr (1, 0, 255, n_M_isFigure, 1, 12, 0, 0) :: c_M_fit_4
def c_M_fit_0 : List eg_I := .inl (0, 1, .iload 1, 0, 0) :: c_M_fit_1
section
variable {rm : Room} {K : Nat → Nat → Nat → eg_Lo → List Value → List eg_E → Prop} {Q : Option Value → List eg_E → Prop} {kc ks : Nat} {loc : eg_Lo} {st : List Value} {h : List eg_E}
theorem s_M_fit_0 {x : Int32} {l0 : Option Value} {l : eg_Lo} : wps rm K Q c_M_fit_0 kc ks (l0 :: some (.int x) :: l) (st) h = wps rm K Q c_M_fit_1 kc ks (l0 :: some (.int x) :: l) (.int x :: st) h := rfl
theorem s_M_fit_1  {a1 : Value} : wps rm K Q c_M_fit_1 kc ks loc (a1 :: st) h = (st.length ≤ 4 ∧ eg_Cs n_M_isFigure [a1] h (fun v h9 => wps rm K Q c_M_fit_4 kc ks loc (v.toList ++ st) h9)) := eg_c0_1
theorem s_M_fit_4 {x : Int32} : wps rm K Q c_M_fit_4 kc ks loc (.int x :: st) h = ((x = 0 → K 29 kc ks loc st h) ∧ (¬ x = 0 → wps rm K Q c_M_fit_7 kc ks loc (st) h)) := rfl
theorem s_M_fit_7 {x : Int32} {l0 l1 l2 : Option Value} {l : eg_Lo} : wps rm K Q c_M_fit_7 kc ks (l0 :: l1 :: l2 :: some (.int x) :: l) (st) h = wps rm K Q c_M_fit_8 kc ks (l0 :: l1 :: l2 :: some (.int x) :: l) (.int x :: st) h := rfl
theorem s_M_fit_8  {a1 : Value} : wps rm K Q c_M_fit_8 kc ks loc (a1 :: st) h = (st.length ≤ 4 ∧ eg_Cs n_M_isPart [a1] h (fun v h9 => wps rm K Q c_M_fit_11 kc ks loc (v.toList ++ st) h9)) := eg_c0_1
theorem s_M_fit_11 {x : Int32} : wps rm K Q c_M_fit_11 kc ks loc (.int x :: st) h = ((x = 0 → K 29 kc ks loc st h) ∧ (¬ x = 0 → wps rm K Q c_M_fit_14 kc ks loc (st) h)) := rfl
theorem s_M_fit_14 {x : Int32} {l0 l1 : Option Value} {l : eg_Lo} : wps rm K Q c_M_fit_14 kc ks (l0 :: l1 :: some (.int x) :: l) (st) h = wps rm K Q c_M_fit_15 kc ks (l0 :: l1 :: some (.int x) :: l) (.int x :: st) h := rfl
theorem s_M_fit_15  : wps rm K Q c_M_fit_15 kc ks loc (st) h = wps rm K Q c_M_fit_16 kc ks loc (.int (2) :: st) h := rfl
theorem s_M_fit_16 {x y : Int32} : wps rm K Q c_M_fit_16 kc ks loc (.int y :: .int x :: st) h = ((x = y → K 37 kc ks loc st h) ∧ (¬ x = y → wps rm K Q c_M_fit_19 kc ks loc (st) h)) := rfl
theorem s_M_fit_19 {x : Int32} {l0 l1 : Option Value} {l : eg_Lo} : wps rm K Q c_M_fit_19 kc ks (l0 :: l1 :: some (.int x) :: l) (st) h = wps rm K Q c_M_fit_20 kc ks (l0 :: l1 :: some (.int x) :: l) (.int x :: st) h := rfl
theorem s_M_fit_20  : wps rm K Q c_M_fit_20 kc ks loc (st) h = wps rm K Q c_M_fit_21 kc ks loc (.int (3) :: st) h := rfl
theorem s_M_fit_21 {x y : Int32} : wps rm K Q c_M_fit_21 kc ks loc (.int y :: .int x :: st) h = ((x = y → K 37 kc ks loc st h) ∧ (¬ x = y → wps rm K Q c_M_fit_24 kc ks loc (st) h)) := rfl
theorem s_M_fit_24 {x : Int32} {l0 l1 : Option Value} {l : eg_Lo} : wps rm K Q c_M_fit_24 kc ks (l0 :: l1 :: some (.int x) :: l) (st) h = wps rm K Q c_M_fit_25 kc ks (l0 :: l1 :: some (.int x) :: l) (.int x :: st) h := rfl
theorem s_M_fit_25  : wps rm K Q c_M_fit_25 kc ks loc (st) h = wps rm K Q c_M_fit_26 kc ks loc (.int (5) :: st) h := rfl
theorem s_M_fit_26 {x y : Int32} : wps rm K Q c_M_fit_26 kc ks loc (.int y :: .int x :: st) h = ((x = y → K 37 kc ks loc st h) ∧ (¬ x = y → wps rm K Q c_M_fit_29 kc ks loc (st) h)) := rfl
theorem s_M_fit_29 {x : Nat} {l : eg_Lo} : wps rm K Q c_M_fit_29 kc ks (some (.ref x) :: l) (st) h = wps rm K Q c_M_fit_30 kc ks (some (.ref x) :: l) (.ref x :: st) h := rfl
theorem s_M_fit_30  : wps rm K Q c_M_fit_30 kc ks loc (st) h = wps rm K Q c_M_fit_33 kc ks loc (.long (-1000000000000000001) :: st) h := rfl
theorem s_M_fit_33  {a1 : Value} {x : Nat} : wps rm K Q c_M_fit_33 kc ks loc (a1 :: .ref (x + 1) :: st) h = (eg_cls h x 12 ∧ st.length ≤ 4 ∧ eg_Cs n_M_finding (.ref (x + 1) :: [a1]) h (fun v h9 => wps rm K Q c_M_fit_36 kc ks loc (v.toList ++ st) h9)) := eg_c1_1
theorem s_M_fit_36 {x : Int64} : wps rm K Q c_M_fit_36 kc ks loc ([.long x]) h = (kc = rm.cells ∧ Q (some (.long x)) h) := rfl
theorem s_M_fit_37 {x : Int32} {l0 l1 : Option Value} {l : eg_Lo} : wps rm K Q c_M_fit_37 kc ks (l0 :: l1 :: some (.int x) :: l) (st) h = wps rm K Q c_M_fit_38 kc ks (l0 :: l1 :: some (.int x) :: l) (.int x :: st) h := rfl
theorem s_M_fit_38  : wps rm K Q c_M_fit_38 kc ks loc (st) h = wps rm K Q c_M_fit_39 kc ks loc (.int (2) :: st) h := rfl
theorem s_M_fit_39 {x y : Int32} : wps rm K Q c_M_fit_39 kc ks loc (.int y :: .int x :: st) h = ((¬ x = y → K 51 kc ks loc st h) ∧ (x = y → wps rm K Q c_M_fit_42 kc ks loc (st) h)) := rfl
theorem s_M_fit_42 {x : Nat} {l : eg_Lo} : wps rm K Q c_M_fit_42 kc ks (some (.ref x) :: l) (st) h = wps rm K Q c_M_fit_43 kc ks (some (.ref x) :: l) (.ref x :: st) h := rfl
theorem s_M_fit_43 {x : Int32} {l0 : Option Value} {l : eg_Lo} : wps rm K Q c_M_fit_43 kc ks (l0 :: some (.int x) :: l) (st) h = wps rm K Q c_M_fit_44 kc ks (l0 :: some (.int x) :: l) (.int x :: st) h := rfl
theorem s_M_fit_44 {x : Int32} {l0 l1 l2 : Option Value} {l : eg_Lo} : wps rm K Q c_M_fit_44 kc ks (l0 :: l1 :: l2 :: some (.int x) :: l) (st) h = wps rm K Q c_M_fit_45 kc ks (l0 :: l1 :: l2 :: some (.int x) :: l) (.int x :: st) h := rfl
theorem s_M_fit_45  {a1 : Value} {a2 : Value} {x : Nat} : wps rm K Q c_M_fit_45 kc ks loc (a2 :: a1 :: .ref (x + 1) :: st) h = (eg_cls h x 12 ∧ st.length ≤ 4 ∧ eg_Cs n_M_fitLine (.ref (x + 1) :: [a1, a2]) h (fun v h9 => wps rm K Q c_M_fit_48 kc ks loc (v.toList ++ st) h9)) := eg_c1_2
theorem s_M_fit_48  : wps rm K Q c_M_fit_48 kc ks loc (st) h = K 71 kc ks loc st h := rfl
theorem s_M_fit_51 {x : Int32} {l0 l1 : Option Value} {l : eg_Lo} : wps rm K Q c_M_fit_51 kc ks (l0 :: l1 :: some (.int x) :: l) (st) h = wps rm K Q c_M_fit_52 kc ks (l0 :: l1 :: some (.int x) :: l) (.int x :: st) h := rfl
theorem s_M_fit_52  : wps rm K Q c_M_fit_52 kc ks loc (st) h = wps rm K Q c_M_fit_53 kc ks loc (.int (3) :: st) h := rfl
theorem s_M_fit_53 {x y : Int32} : wps rm K Q c_M_fit_53 kc ks loc (.int y :: .int x :: st) h = ((¬ x = y → K 65 kc ks loc st h) ∧ (x = y → wps rm K Q c_M_fit_56 kc ks loc (st) h)) := rfl
theorem s_M_fit_56 {x : Nat} {l : eg_Lo} : wps rm K Q c_M_fit_56 kc ks (some (.ref x) :: l) (st) h = wps rm K Q c_M_fit_57 kc ks (some (.ref x) :: l) (.ref x :: st) h := rfl
theorem s_M_fit_57 {x : Int32} {l0 : Option Value} {l : eg_Lo} : wps rm K Q c_M_fit_57 kc ks (l0 :: some (.int x) :: l) (st) h = wps rm K Q c_M_fit_58 kc ks (l0 :: some (.int x) :: l) (.int x :: st) h := rfl
theorem s_M_fit_58 {x : Int32} {l0 l1 l2 : Option Value} {l : eg_Lo} : wps rm K Q c_M_fit_58 kc ks (l0 :: l1 :: l2 :: some (.int x) :: l) (st) h = wps rm K Q c_M_fit_59 kc ks (l0 :: l1 :: l2 :: some (.int x) :: l) (.int x :: st) h := rfl
theorem s_M_fit_59  {a1 : Value} {a2 : Value} {x : Nat} : wps rm K Q c_M_fit_59 kc ks loc (a2 :: a1 :: .ref (x + 1) :: st) h = (eg_cls h x 12 ∧ st.length ≤ 4 ∧ eg_Cs n_M_fitPlane (.ref (x + 1) :: [a1, a2]) h (fun v h9 => wps rm K Q c_M_fit_62 kc ks loc (v.toList ++ st) h9)) := eg_c1_2
theorem s_M_fit_62  : wps rm K Q c_M_fit_62 kc ks loc (st) h = K 71 kc ks loc st h := rfl
theorem s_M_fit_65 {x : Nat} {l : eg_Lo} : wps rm K Q c_M_fit_65 kc ks (some (.ref x) :: l) (st) h = wps rm K Q c_M_fit_66 kc ks (some (.ref x) :: l) (.ref x :: st) h := rfl
theorem s_M_fit_66 {x : Int32} {l0 : Option Value} {l : eg_Lo} : wps rm K Q c_M_fit_66 kc ks (l0 :: some (.int x) :: l) (st) h = wps rm K Q c_M_fit_67 kc ks (l0 :: some (.int x) :: l) (.int x :: st) h := rfl
theorem s_M_fit_67 {x : Int32} {l0 l1 l2 : Option Value} {l : eg_Lo} : wps rm K Q c_M_fit_67 kc ks (l0 :: l1 :: l2 :: some (.int x) :: l) (st) h = wps rm K Q c_M_fit_68 kc ks (l0 :: l1 :: l2 :: some (.int x) :: l) (.int x :: st) h := rfl
theorem s_M_fit_68  {a1 : Value} {a2 : Value} {x : Nat} : wps rm K Q c_M_fit_68 kc ks loc (a2 :: a1 :: .ref (x + 1) :: st) h = (eg_cls h x 12 ∧ st.length ≤ 4 ∧ eg_Cs n_M_fitCircle (.ref (x + 1) :: [a1, a2]) h (fun v h9 => wps rm K Q c_M_fit_71 kc ks loc (v.toList ++ st) h9)) := eg_c1_2
theorem s_M_fit_71 {x : Int64} : wps rm K Q c_M_fit_71 kc ks loc ([.long x]) h = (kc = rm.cells ∧ Q (some (.long x)) h) := rfl
def T_M_fit : List (Nat × List eg_I) := [(29, c_M_fit_29), (37, c_M_fit_37), (51, c_M_fit_51), (65, c_M_fit_65), (71, c_M_fit_71)]
theorem j_M_fit_29 {R : Nat → Nat → Nat → eg_Lo → List Value → List eg_E → Prop} {f pc0 : Nat} : eg_run rm R Q T_M_fit (f + 1) 29 kc ks loc st h = wps rm (eg_run rm R Q T_M_fit f) Q c_M_fit_29 kc ks loc st h := rfl
theorem j_M_fit_37 {R : Nat → Nat → Nat → eg_Lo → List Value → List eg_E → Prop} {f pc0 : Nat} : eg_run rm R Q T_M_fit (f + 1) 37 kc ks loc st h = wps rm (eg_run rm R Q T_M_fit f) Q c_M_fit_37 kc ks loc st h := rfl
theorem j_M_fit_51 {R : Nat → Nat → Nat → eg_Lo → List Value → List eg_E → Prop} {f pc0 : Nat} : eg_run rm R Q T_M_fit (f + 1) 51 kc ks loc st h = wps rm (eg_run rm R Q T_M_fit f) Q c_M_fit_51 kc ks loc st h := rfl
theorem j_M_fit_65 {R : Nat → Nat → Nat → eg_Lo → List Value → List eg_E → Prop} {f pc0 : Nat} : eg_run rm R Q T_M_fit (f + 1) 65 kc ks loc st h = wps rm (eg_run rm R Q T_M_fit f) Q c_M_fit_65 kc ks loc st h := rfl
theorem j_M_fit_71 {R : Nat → Nat → Nat → eg_Lo → List Value → List eg_E → Prop} {f pc0 : Nat} : eg_run rm R Q T_M_fit (f + 1) 71 kc ks loc st h = wps rm (eg_run rm R Q T_M_fit f) Q c_M_fit_71 kc ks loc st h := rfl
end
theorem q_M_fit : (T_M_fit.all fun q => eg_seq m_M_fit q.1 q.2) = true := by decide +kernel
theorem b_M_fit {as : List Value} {h : List eg_E} {Q : Option Value → List eg_E → Prop} (hf : (eg_fl as).length ≤ 4) (hw : wps (eg_rm m_M_fit) (eg_run (eg_rm m_M_fit) (eg_R m_M_fit Q (h.length + 0)) Q T_M_fit 7) Q c_M_fit_0 0 0 (eg_entry 4 as) [] h) : eg_Runs n_M_fit as h Q := eg_begin (d := m_M_fit) rfl (by decide) (by decide +kernel) q_M_fit hf hw
/-! ===== M_drop ===== -/
def c_M_drop_39 : List eg_I := .inl (39, 1, .lreturn, 0, 0) :: []
def c_M_drop_38 : List eg_I := .inl (38, 1, .i2l, 0, 0) :: c_M_drop_39
def c_M_drop_37 : List eg_I := .inl (37, 1, .iload 2, 0, 0) :: c_M_drop_38
def c_M_drop_36 : List eg_I := .inl (36, 1, .iastore, 0, 0) :: c_M_drop_37
def c_M_drop_35 : List eg_I := .inl (35, 1, .iconst (0), 0, 0) :: c_M_drop_36
def c_M_drop_34 : List eg_I := .inl (34, 1, .iload 1, 0, 0) :: c_M_drop_35
def c_M_drop_31 : List eg_I := .inl (31, 3, .getfield 32, 12, 7) :: c_M_drop_34
def c_M_drop_30 : List eg_I := .inl (30, 1, .aload 0, 0, 0) :: c_M_drop_31
def c_M_drop_29 : List eg_I := .inl (29, 1, .istore 2, 0, 0) :: c_M_drop_30
def c_M_drop_28 : List eg_I := .inl (28, 1, .iconst (0), 0, 0) :: c_M_drop_29
def c_M_drop_25 : List eg_I := .inl (25, 3, .goto (4), 29, 0) :: []
def c_M_drop_24 : List eg_I := .inl (24, 1, .iconst (1), 0, 0) :: c_M_drop_25
def c_M_drop_21 : List eg_I := .inl (21, 3, .ifCond .le (7), 28, 0) :: c_M_drop_24
def c_M_drop_20 : List eg_I := .inl (20, 1, .iaload, 0, 0) :: c_M_drop_21
def c_M_drop_19 : List eg_I := .inl (19, 1, .iload 1, 0, 0) :: c_M_drop_20
def c_M_drop_16 : List eg_I := .inl (16, 3, .getfield 32, 12, 7) :: c_M_drop_19
def c_M_drop_15 : List eg_I := .inl (15, 1, .aload 0, 0, 0) :: c_M_drop_16
def c_M_drop_14 : List eg_I := .inl (14, 1, .lreturn, 0, 0) :: []
def c_M_drop_11 : List eg_I := .inr (11, 1, 112, n_M_finding, 1, 12, 0, 0) :: c_M_drop_14
def c_M_drop_8 : List eg_I := .inl (8, 3, .sipush (-1000000000000000001), 110, 0) :: c_M_drop_11
def c_M_drop_7 : List eg_I := .inl (7, 1, .aload 0, 0, 0) :: c_M_drop_8
def c_M_drop_4 : List eg_I := .inl (4, 3, .ifCond .ne (11), 15, 0) :: c_M_drop_7
def c_M_drop_1 : List eg_I := .inr (1, 0, 255, n_M_isFigure, 1, 12, 0, 0) :: c_M_drop_4
def c_M_drop_0 : List eg_I := .inl (0, 1, .iload 1, 0, 0) :: c_M_drop_1
section
variable {rm : Room} {K : Nat → Nat → Nat → eg_Lo → List Value → List eg_E → Prop} {Q : Option Value → List eg_E → Prop} {kc ks : Nat} {loc : eg_Lo} {st : List Value} {h : List eg_E}
theorem s_M_drop_0 {x : Int32} {l0 : Option Value} {l : eg_Lo} : wps rm K Q c_M_drop_0 kc ks (l0 :: some (.int x) :: l) (st) h = wps rm K Q c_M_drop_1 kc ks (l0 :: some (.int x) :: l) (.int x :: st) h := rfl
theorem s_M_drop_1  {a1 : Value} : wps rm K Q c_M_drop_1 kc ks loc (a1 :: st) h = (st.length ≤ 4 ∧ eg_Cs n_M_isFigure [a1] h (fun v h9 => wps rm K Q c_M_drop_4 kc ks loc (v.toList ++ st) h9)) := eg_c0_1
theorem s_M_drop_4 {x : Int32} : wps rm K Q c_M_drop_4 kc ks loc (.int x :: st) h = ((¬ x = 0 → K 15 kc ks loc st h) ∧ (x = 0 → wps rm K Q c_M_drop_7 kc ks loc (st) h)) := rfl
theorem s_M_drop_7 {x : Nat} {l : eg_Lo} : wps rm K Q c_M_drop_7 kc ks (some (.ref x) :: l) (st) h = wps rm K Q c_M_drop_8 kc ks (some (.ref x) :: l) (.ref x :: st) h := rfl
theorem s_M_drop_8  : wps rm K Q c_M_drop_8 kc ks loc (st) h = wps rm K Q c_M_drop_11 kc ks loc (.long (-1000000000000000001) :: st) h := rfl
theorem s_M_drop_11  {a1 : Value} {x : Nat} : wps rm K Q c_M_drop_11 kc ks loc (a1 :: .ref (x + 1) :: st) h = (eg_cls h x 12 ∧ st.length ≤ 4 ∧ eg_Cs n_M_finding (.ref (x + 1) :: [a1]) h (fun v h9 => wps rm K Q c_M_drop_14 kc ks loc (v.toList ++ st) h9)) := eg_c1_1
theorem s_M_drop_14 {x : Int64} : wps rm K Q c_M_drop_14 kc ks loc ([.long x]) h = (kc = rm.cells ∧ Q (some (.long x)) h) := rfl
theorem s_M_drop_15 {x : Nat} {l : eg_Lo} : wps rm K Q c_M_drop_15 kc ks (some (.ref x) :: l) (st) h = wps rm K Q c_M_drop_16 kc ks (some (.ref x) :: l) (.ref x :: st) h := rfl
theorem s_M_drop_16 {x : Nat} : wps rm K Q c_M_drop_16 kc ks loc (.ref (x + 1) :: st) h = eg_gf h x 12 7 (fun v => wps rm K Q c_M_drop_19 kc ks loc (v :: st) h) := rfl
theorem s_M_drop_19 {x : Int32} {l0 : Option Value} {l : eg_Lo} : wps rm K Q c_M_drop_19 kc ks (l0 :: some (.int x) :: l) (st) h = wps rm K Q c_M_drop_20 kc ks (l0 :: some (.int x) :: l) (.int x :: st) h := rfl
theorem s_M_drop_20 {x : Nat} {i : Int32} : wps rm K Q c_M_drop_20 kc ks loc (.int i :: .ref (x + 1) :: st) h = eg_ia h x i (fun v => wps rm K Q c_M_drop_21 kc ks loc (.int v :: st) h) := rfl
theorem s_M_drop_21 {x : Int32} : wps rm K Q c_M_drop_21 kc ks loc (.int x :: st) h = ((x ≤ 0 → K 28 kc ks loc st h) ∧ (¬ x ≤ 0 → wps rm K Q c_M_drop_24 kc ks loc (st) h)) := rfl
theorem s_M_drop_24  : wps rm K Q c_M_drop_24 kc ks loc (st) h = wps rm K Q c_M_drop_25 kc ks loc (.int (1) :: st) h := rfl
theorem s_M_drop_25  : wps rm K Q c_M_drop_25 kc ks loc (st) h = K 29 kc ks loc st h := rfl
theorem s_M_drop_28  : wps rm K Q c_M_drop_28 kc ks loc (st) h = wps rm K Q c_M_drop_29 kc ks loc (.int (0) :: st) h := rfl
theorem s_M_drop_29 {x : Int32} : wps rm K Q c_M_drop_29 kc ks loc (.int x :: st) h = wps rm K Q c_M_drop_30 kc ks (eg_set1 loc 2 (.int x)) (st) h := rfl
theorem s_M_drop_30 {x : Nat} {l : eg_Lo} : wps rm K Q c_M_drop_30 kc ks (some (.ref x) :: l) (st) h = wps rm K Q c_M_drop_31 kc ks (some (.ref x) :: l) (.ref x :: st) h := rfl
theorem s_M_drop_31 {x : Nat} : wps rm K Q c_M_drop_31 kc ks loc (.ref (x + 1) :: st) h = eg_gf h x 12 7 (fun v => wps rm K Q c_M_drop_34 kc ks loc (v :: st) h) := rfl
theorem s_M_drop_34 {x : Int32} {l0 : Option Value} {l : eg_Lo} : wps rm K Q c_M_drop_34 kc ks (l0 :: some (.int x) :: l) (st) h = wps rm K Q c_M_drop_35 kc ks (l0 :: some (.int x) :: l) (.int x :: st) h := rfl
theorem s_M_drop_35  : wps rm K Q c_M_drop_35 kc ks loc (st) h = wps rm K Q c_M_drop_36 kc ks loc (.int (0) :: st) h := rfl
theorem s_M_drop_36 {x : Nat} {i : Int32} {v : Int32} : wps rm K Q c_M_drop_36 kc ks loc (.int v :: .int i :: .ref (x + 1) :: st) h = eg_is h x i v (fun h9 => wps rm K Q c_M_drop_37 kc ks loc (st) h9) := rfl
theorem s_M_drop_37 {x : Int32} {l0 l1 : Option Value} {l : eg_Lo} : wps rm K Q c_M_drop_37 kc ks (l0 :: l1 :: some (.int x) :: l) (st) h = wps rm K Q c_M_drop_38 kc ks (l0 :: l1 :: some (.int x) :: l) (.int x :: st) h := rfl
theorem s_M_drop_38 {x : Int32} : wps rm K Q c_M_drop_38 kc ks loc (.int x :: st) h = wps rm K Q c_M_drop_39 kc ks loc (.long (x.toInt64) :: st) h := rfl
theorem s_M_drop_39 {x : Int64} : wps rm K Q c_M_drop_39 kc ks loc ([.long x]) h = (kc = rm.cells ∧ Q (some (.long x)) h) := rfl
def T_M_drop : List (Nat × List eg_I) := [(15, c_M_drop_15), (28, c_M_drop_28), (29, c_M_drop_29)]
theorem j_M_drop_15 {R : Nat → Nat → Nat → eg_Lo → List Value → List eg_E → Prop} {f pc0 : Nat} : eg_run rm R Q T_M_drop (f + 1) 15 kc ks loc st h = wps rm (eg_run rm R Q T_M_drop f) Q c_M_drop_15 kc ks loc st h := rfl
theorem j_M_drop_28 {R : Nat → Nat → Nat → eg_Lo → List Value → List eg_E → Prop} {f pc0 : Nat} : eg_run rm R Q T_M_drop (f + 1) 28 kc ks loc st h = wps rm (eg_run rm R Q T_M_drop f) Q c_M_drop_28 kc ks loc st h := rfl
theorem j_M_drop_29 {R : Nat → Nat → Nat → eg_Lo → List Value → List eg_E → Prop} {f pc0 : Nat} : eg_run rm R Q T_M_drop (f + 1) 29 kc ks loc st h = wps rm (eg_run rm R Q T_M_drop f) Q c_M_drop_29 kc ks loc st h := rfl
end
theorem q_M_drop : (T_M_drop.all fun q => eg_seq m_M_drop q.1 q.2) = true := by decide +kernel
theorem b_M_drop {as : List Value} {h : List eg_E} {Q : Option Value → List eg_E → Prop} (hf : (eg_fl as).length ≤ 3) (hw : wps (eg_rm m_M_drop) (eg_run (eg_rm m_M_drop) (eg_R m_M_drop Q (h.length + 0)) Q T_M_drop 5) Q c_M_drop_0 0 0 (eg_entry 3 as) [] h) : eg_Runs n_M_drop as h Q := eg_begin (d := m_M_drop) rfl (by decide) (by decide +kernel) q_M_drop hf hw
/-! ===== M_isFlat ===== -/
def c_M_isFlat_25 : List eg_I := .inl (25, 1, .ireturn, 0, 1) :: []
def c_M_isFlat_24 : List eg_I := .inl (24, 1, .iconst (0), 0, 0) :: c_M_isFlat_25
def c_M_isFlat_21 : List eg_I := .inl (21, 3, .goto (4), 25, 0) :: []
def c_M_isFlat_20 : List eg_I := .inl (20, 1, .iconst (1), 0, 0) :: c_M_isFlat_21
def c_M_isFlat_17 : List eg_I := .inl (17, 3, .if_icmp .ne (7), 24, 0) :: c_M_isFlat_20
def c_M_isFlat_16 : List eg_I := .inl (16, 1, .iconst (3), 0, 0) :: c_M_isFlat_17
def c_M_isFlat_15 : List eg_I := .inl (15, 1, .iaload, 0, 0) :: c_M_isFlat_16
def c_M_isFlat_14 : List eg_I := .inl (14, 1, .iload 1, 0, 0) :: c_M_isFlat_15
def c_M_isFlat_11 : List eg_I := .inl (11, 3, .getfield 32, 12, 7) :: c_M_isFlat_14
def c_M_isFlat_10 : List eg_I := .inl (10, 1, .aload 0, 0, 0) :: c_M_isFlat_11
def c_M_isFlat_7 : List eg_I := .inl (7, 3, .if_icmp .eq (13), 20, 0) :: c_M_isFlat_10
def c_M_isFlat_6 : List eg_I := .inl (6, 1, .iconst (2), 0, 0) :: c_M_isFlat_7
def c_M_isFlat_5 : List eg_I := .inl (5, 1, .iaload, 0, 0) :: c_M_isFlat_6
def c_M_isFlat_4 : List eg_I := .inl (4, 1, .iload 1, 0, 0) :: c_M_isFlat_5
def c_M_isFlat_1 : List eg_I := .inl (1, 3, .getfield 32, 12, 7) :: c_M_isFlat_4
def c_M_isFlat_0 : List eg_I := .inl (0, 1, .aload 0, 0, 0) :: c_M_isFlat_1
section
variable {rm : Room} {K : Nat → Nat → Nat → eg_Lo → List Value → List eg_E → Prop} {Q : Option Value → List eg_E → Prop} {kc ks : Nat} {loc : eg_Lo} {st : List Value} {h : List eg_E}
theorem s_M_isFlat_0 {x : Nat} {l : eg_Lo} : wps rm K Q c_M_isFlat_0 kc ks (some (.ref x) :: l) (st) h = wps rm K Q c_M_isFlat_1 kc ks (some (.ref x) :: l) (.ref x :: st) h := rfl
theorem s_M_isFlat_1 {x : Nat} : wps rm K Q c_M_isFlat_1 kc ks loc (.ref (x + 1) :: st) h = eg_gf h x 12 7 (fun v => wps rm K Q c_M_isFlat_4 kc ks loc (v :: st) h) := rfl
theorem s_M_isFlat_4 {x : Int32} {l0 : Option Value} {l : eg_Lo} : wps rm K Q c_M_isFlat_4 kc ks (l0 :: some (.int x) :: l) (st) h = wps rm K Q c_M_isFlat_5 kc ks (l0 :: some (.int x) :: l) (.int x :: st) h := rfl
theorem s_M_isFlat_5 {x : Nat} {i : Int32} : wps rm K Q c_M_isFlat_5 kc ks loc (.int i :: .ref (x + 1) :: st) h = eg_ia h x i (fun v => wps rm K Q c_M_isFlat_6 kc ks loc (.int v :: st) h) := rfl
theorem s_M_isFlat_6  : wps rm K Q c_M_isFlat_6 kc ks loc (st) h = wps rm K Q c_M_isFlat_7 kc ks loc (.int (2) :: st) h := rfl
theorem s_M_isFlat_7 {x y : Int32} : wps rm K Q c_M_isFlat_7 kc ks loc (.int y :: .int x :: st) h = ((x = y → K 20 kc ks loc st h) ∧ (¬ x = y → wps rm K Q c_M_isFlat_10 kc ks loc (st) h)) := rfl
theorem s_M_isFlat_10 {x : Nat} {l : eg_Lo} : wps rm K Q c_M_isFlat_10 kc ks (some (.ref x) :: l) (st) h = wps rm K Q c_M_isFlat_11 kc ks (some (.ref x) :: l) (.ref x :: st) h := rfl
theorem s_M_isFlat_11 {x : Nat} : wps rm K Q c_M_isFlat_11 kc ks loc (.ref (x + 1) :: st) h = eg_gf h x 12 7 (fun v => wps rm K Q c_M_isFlat_14 kc ks loc (v :: st) h) := rfl
theorem s_M_isFlat_14 {x : Int32} {l0 : Option Value} {l : eg_Lo} : wps rm K Q c_M_isFlat_14 kc ks (l0 :: some (.int x) :: l) (st) h = wps rm K Q c_M_isFlat_15 kc ks (l0 :: some (.int x) :: l) (.int x :: st) h := rfl
theorem s_M_isFlat_15 {x : Nat} {i : Int32} : wps rm K Q c_M_isFlat_15 kc ks loc (.int i :: .ref (x + 1) :: st) h = eg_ia h x i (fun v => wps rm K Q c_M_isFlat_16 kc ks loc (.int v :: st) h) := rfl
theorem s_M_isFlat_16  : wps rm K Q c_M_isFlat_16 kc ks loc (st) h = wps rm K Q c_M_isFlat_17 kc ks loc (.int (3) :: st) h := rfl
theorem s_M_isFlat_17 {x y : Int32} : wps rm K Q c_M_isFlat_17 kc ks loc (.int y :: .int x :: st) h = ((¬ x = y → K 24 kc ks loc st h) ∧ (x = y → wps rm K Q c_M_isFlat_20 kc ks loc (st) h)) := rfl
theorem s_M_isFlat_20  : wps rm K Q c_M_isFlat_20 kc ks loc (st) h = wps rm K Q c_M_isFlat_21 kc ks loc (.int (1) :: st) h := rfl
theorem s_M_isFlat_21  : wps rm K Q c_M_isFlat_21 kc ks loc (st) h = K 25 kc ks loc st h := rfl
theorem s_M_isFlat_24  : wps rm K Q c_M_isFlat_24 kc ks loc (st) h = wps rm K Q c_M_isFlat_25 kc ks loc (.int (0) :: st) h := rfl
theorem s_M_isFlat_25 {x : Int32} : wps rm K Q c_M_isFlat_25 kc ks loc ([.int x]) h = (kc = rm.cells ∧ ((1 : Nat) = 1 → x = 0 ∨ x = 1) ∧ Q (some (.int x)) h) := rfl
def T_M_isFlat : List (Nat × List eg_I) := [(20, c_M_isFlat_20), (24, c_M_isFlat_24), (25, c_M_isFlat_25)]
theorem j_M_isFlat_20 {R : Nat → Nat → Nat → eg_Lo → List Value → List eg_E → Prop} {f pc0 : Nat} : eg_run rm R Q T_M_isFlat (f + 1) 20 kc ks loc st h = wps rm (eg_run rm R Q T_M_isFlat f) Q c_M_isFlat_20 kc ks loc st h := rfl
theorem j_M_isFlat_24 {R : Nat → Nat → Nat → eg_Lo → List Value → List eg_E → Prop} {f pc0 : Nat} : eg_run rm R Q T_M_isFlat (f + 1) 24 kc ks loc st h = wps rm (eg_run rm R Q T_M_isFlat f) Q c_M_isFlat_24 kc ks loc st h := rfl
theorem j_M_isFlat_25 {R : Nat → Nat → Nat → eg_Lo → List Value → List eg_E → Prop} {f pc0 : Nat} : eg_run rm R Q T_M_isFlat (f + 1) 25 kc ks loc st h = wps rm (eg_run rm R Q T_M_isFlat f) Q c_M_isFlat_25 kc ks loc st h := rfl
end
theorem q_M_isFlat : (T_M_isFlat.all fun q => eg_seq m_M_isFlat q.1 q.2) = true := by decide +kernel
theorem b_M_isFlat {as : List Value} {h : List eg_E} {Q : Option Value → List eg_E → Prop} (hf : (eg_fl as).length ≤ 2) (hw : wps (eg_rm m_M_isFlat) (eg_run (eg_rm m_M_isFlat) (eg_R m_M_isFlat Q (h.length + 0)) Q T_M_isFlat 5) Q c_M_isFlat_0 0 0 (eg_entry 2 as) [] h) : eg_Runs n_M_isFlat as h Q := eg_begin (d := m_M_isFlat) rfl (by decide) (by decide +kernel) q_M_isFlat hf hw
/-! ===== M_as ===== -/
def c_M_as_110 : List eg_I := .inl (110, 1, .lreturn, 0, 0) :: []
def c_M_as_107 : List eg_I := .inr (107, 1, 112, n_M_finding, 1, 12, 0, 0) :: c_M_as_110
def c_M_as_104 : List eg_I := .inl (104, 3, .sipush (-1000000000000000004), 147, 0) :: c_M_as_107
def c_M_as_103 : List eg_I := .inl (103, 1, .aload 0, 0, 0) :: c_M_as_104
def c_M_as_100 : List eg_I := .inl (100, 3, .goto (10), 110, 0) :: []
def c_M_as_99 : List eg_I := .inl (99, 1, .i2l, 0, 0) :: c_M_as_100
def c_M_as_98 : List eg_I := .inl (98, 1, .iaload, 0, 0) :: c_M_as_99
def c_M_as_97 : List eg_I := .inl (97, 1, .iload 1, 0, 0) :: c_M_as_98
def c_M_as_94 : List eg_I := .inl (94, 3, .getfield 32, 12, 7) :: c_M_as_97
def c_M_as_93 : List eg_I := .inl (93, 1, .aload 0, 0, 0) :: c_M_as_94
def c_M_as_90 : List eg_I := .inl (90, 3, .ifCond .eq (13), 103, 0) :: c_M_as_93
def c_M_as_89 : List eg_I := .inl (89, 1, .iload 3, 0, 0) :: c_M_as_90
def c_M_as_88 : List eg_I := .inl (88, 1, .istore 3, 0, 0) :: c_M_as_89
def c_M_as_87 : List eg_I := .inl (87, 1, .iconst (0), 0, 0) :: c_M_as_88
def c_M_as_84 : List eg_I := .inl (84, 3, .goto (4), 88, 0) :: []
def c_M_as_83 : List eg_I := .inl (83, 1, .iconst (1), 0, 0) :: c_M_as_84
def c_M_as_80 : List eg_I := .inl (80, 3, .if_icmp .ne (7), 87, 0) :: c_M_as_83
def c_M_as_79 : List eg_I := .inl (79, 1, .iconst (5), 0, 0) :: c_M_as_80
def c_M_as_78 : List eg_I := .inl (78, 1, .iaload, 0, 0) :: c_M_as_79
def c_M_as_77 : List eg_I := .inl (77, 1, .iload 1, 0, 0) :: c_M_as_78
def c_M_as_74 : List eg_I := .inl (74, 3, .getfield 32, 12, 7) :: c_M_as_77
def c_M_as_73 : List eg_I := .inl (73, 1, .aload 0, 0, 0) :: c_M_as_74
def c_M_as_70 : List eg_I := .inl (70, 3, .if_icmp .ne (17), 87, 0) :: c_M_as_73
def c_M_as_69 : List eg_I := .inl (69, 1, .iconst (4), 0, 0) :: c_M_as_70
def c_M_as_68 : List eg_I := .inl (68, 1, .iload 2, 0, 0) :: c_M_as_69
def c_M_as_65 : List eg_I := .inl (65, 3, .ifCond .ne (18), 83, 0) :: c_M_as_68
def c_M_as_62 : List eg_I := .inr (62, 1, 267, n_M_isFlat, 1, 12, 0, 0) :: c_M_as_65
def c_M_as_61 : List eg_I := .inl (61, 1, .iload 1, 0, 0) :: c_M_as_62
def c_M_as_60 : List eg_I := .inl (60, 1, .aload 0, 0, 0) :: c_M_as_61
def c_M_as_57 : List eg_I := .inl (57, 3, .if_icmp .ne (11), 68, 0) :: c_M_as_60
def c_M_as_56 : List eg_I := .inl (56, 1, .iconst (1), 0, 0) :: c_M_as_57
def c_M_as_55 : List eg_I := .inl (55, 1, .iload 2, 0, 0) :: c_M_as_56
def c_M_as_52 : List eg_I := .inl (52, 3, .if_icmp .eq (31), 83, 0) :: c_M_as_55
def c_M_as_51 : List eg_I := .inl (51, 1, .iaload, 0, 0) :: c_M_as_52
def c_M_as_50 : List eg_I := .inl (50, 1, .iload 1, 0, 0) :: c_M_as_51
def c_M_as_47 : List eg_I := .inl (47, 3, .getfield 32, 12, 7) :: c_M_as_50
def c_M_as_46 : List eg_I := .inl (46, 1, .aload 0, 0, 0) :: c_M_as_47
def c_M_as_45 : List eg_I := .inl (45, 1, .iload 2, 0, 0) :: c_M_as_46
def c_M_as_42 : List eg_I := .inl (42, 3, .ifCond .eq (41), 83, 0) :: c_M_as_45
def c_M_as_41 : List eg_I := .inl (41, 1, .iload 2, 0, 0) :: c_M_as_42
def c_M_as_40 : List eg_I := .inl (40, 1, .lreturn, 0, 0) :: []
def c_M_as_37 : List eg_I := .inr (37, 1, 112, n_M_finding, 1, 12, 0, 0) :: c_M_as_40
def c_M_as_34 : List eg_I := .inl (34, 3, .sipush (-1000000000000000006), 138, 0) :: c_M_as_37
def c_M_as_33 : List eg_I := .inl (33, 1, .aload 0, 0, 0) :: c_M_as_34
def c_M_as_30 : List eg_I := .inl (30, 3, .ifCond .ne (11), 41, 0) :: c_M_as_33
def c_M_as_29 : List eg_I := .inl (29, 1, .iaload, 0, 0) :: c_M_as_30
def c_M_as_28 : List eg_I := .inl (28, 1, .iload 1, 0, 0) :: c_M_as_29
def c_M_as_25 : List eg_I := .inl (25, 3, .getfield 32, 12, 7) :: c_M_as_28
def c_M_as_24 : List eg_I := .inl (24, 1, .aload 0, 0, 0) :: c_M_as_25
def c_M_as_23 : List eg_I := .inl (23, 1, .lreturn, 0, 0) :: []
def c_M_as_20 : List eg_I := .inr (20, 1, 112, n_M_finding, 1, 12, 0, 0) :: c_M_as_23
def c_M_as_17 : List eg_I := .inl (17, 3, .sipush (-1000000000000000001), 110, 0) :: c_M_as_20
def c_M_as_16 : List eg_I := .inl (16, 1, .aload 0, 0, 0) :: c_M_as_17
def c_M_as_13 : List eg_I := .inl (13, 3, .ifCond .ne (11), 24, 0) :: c_M_as_16
def c_M_as_10 : List eg_I := .inr (10, 0, 95, n_M_isIn, 3, 12, 0, 0) :: c_M_as_13
def c_M_as_9 : List eg_I := .inl (9, 1, .iconst (5), 0, 0) :: c_M_as_10
def c_M_as_8 : List eg_I := .inl (8, 1, .iconst (0), 0, 0) :: c_M_as_9
def c_M_as_7 : List eg_I := .inl (7, 1, .iload 2, 0, 0) :: c_M_as_8
def c_M_as_4 : List eg_I := .inl (4, 3, .ifCond .eq (12), 16, 0) :: c_M_as_7
def c_M_as_1 : List eg_I := .inr (1, 0, 255, n_M_isFigure, 1, 12, 0, 0) :: c_M_as_4
def c_M_as_0 : List eg_I := .inl (0, 1, .iload 1, 0, 0) :: c_M_as_1
section
variable {rm : Room} {K : Nat → Nat → Nat → eg_Lo → List Value → List eg_E → Prop} {Q : Option Value → List eg_E → Prop} {kc ks : Nat} {loc : eg_Lo} {st : List Value} {h : List eg_E}
theorem s_M_as_0 {x : Int32} {l0 : Option Value} {l : eg_Lo} : wps rm K Q c_M_as_0 kc ks (l0 :: some (.int x) :: l) (st) h = wps rm K Q c_M_as_1 kc ks (l0 :: some (.int x) :: l) (.int x :: st) h := rfl
theorem s_M_as_1  {a1 : Value} : wps rm K Q c_M_as_1 kc ks loc (a1 :: st) h = (st.length ≤ 4 ∧ eg_Cs n_M_isFigure [a1] h (fun v h9 => wps rm K Q c_M_as_4 kc ks loc (v.toList ++ st) h9)) := eg_c0_1
theorem s_M_as_4 {x : Int32} : wps rm K Q c_M_as_4 kc ks loc (.int x :: st) h = ((x = 0 → K 16 kc ks loc st h) ∧ (¬ x = 0 → wps rm K Q c_M_as_7 kc ks loc (st) h)) := rfl
theorem s_M_as_7 {x : Int32} {l0 l1 : Option Value} {l : eg_Lo} : wps rm K Q c_M_as_7 kc ks (l0 :: l1 :: some (.int x) :: l) (st) h = wps rm K Q c_M_as_8 kc ks (l0 :: l1 :: some (.int x) :: l) (.int x :: st) h := rfl
theorem s_M_as_8  : wps rm K Q c_M_as_8 kc ks loc (st) h = wps rm K Q c_M_as_9 kc ks loc (.int (0) :: st) h := rfl
theorem s_M_as_9  : wps rm K Q c_M_as_9 kc ks loc (st) h = wps rm K Q c_M_as_10 kc ks loc (.int (5) :: st) h := rfl
theorem s_M_as_10  {a1 : Value} {a2 : Value} {a3 : Value} : wps rm K Q c_M_as_10 kc ks loc (a3 :: a2 :: a1 :: st) h = (st.length ≤ 4 ∧ eg_Cs n_M_isIn [a1, a2, a3] h (fun v h9 => wps rm K Q c_M_as_13 kc ks loc (v.toList ++ st) h9)) := eg_c0_3
theorem s_M_as_13 {x : Int32} : wps rm K Q c_M_as_13 kc ks loc (.int x :: st) h = ((¬ x = 0 → K 24 kc ks loc st h) ∧ (x = 0 → wps rm K Q c_M_as_16 kc ks loc (st) h)) := rfl
theorem s_M_as_16 {x : Nat} {l : eg_Lo} : wps rm K Q c_M_as_16 kc ks (some (.ref x) :: l) (st) h = wps rm K Q c_M_as_17 kc ks (some (.ref x) :: l) (.ref x :: st) h := rfl
theorem s_M_as_17  : wps rm K Q c_M_as_17 kc ks loc (st) h = wps rm K Q c_M_as_20 kc ks loc (.long (-1000000000000000001) :: st) h := rfl
theorem s_M_as_20  {a1 : Value} {x : Nat} : wps rm K Q c_M_as_20 kc ks loc (a1 :: .ref (x + 1) :: st) h = (eg_cls h x 12 ∧ st.length ≤ 4 ∧ eg_Cs n_M_finding (.ref (x + 1) :: [a1]) h (fun v h9 => wps rm K Q c_M_as_23 kc ks loc (v.toList ++ st) h9)) := eg_c1_1
theorem s_M_as_23 {x : Int64} : wps rm K Q c_M_as_23 kc ks loc ([.long x]) h = (kc = rm.cells ∧ Q (some (.long x)) h) := rfl
theorem s_M_as_24 {x : Nat} {l : eg_Lo} : wps rm K Q c_M_as_24 kc ks (some (.ref x) :: l) (st) h = wps rm K Q c_M_as_25 kc ks (some (.ref x) :: l) (.ref x :: st) h := rfl
theorem s_M_as_25 {x : Nat} : wps rm K Q c_M_as_25 kc ks loc (.ref (x + 1) :: st) h = eg_gf h x 12 7 (fun v => wps rm K Q c_M_as_28 kc ks loc (v :: st) h) := rfl
theorem s_M_as_28 {x : Int32} {l0 : Option Value} {l : eg_Lo} : wps rm K Q c_M_as_28 kc ks (l0 :: some (.int x) :: l) (st) h = wps rm K Q c_M_as_29 kc ks (l0 :: some (.int x) :: l) (.int x :: st) h := rfl
theorem s_M_as_29 {x : Nat} {i : Int32} : wps rm K Q c_M_as_29 kc ks loc (.int i :: .ref (x + 1) :: st) h = eg_ia h x i (fun v => wps rm K Q c_M_as_30 kc ks loc (.int v :: st) h) := rfl
theorem s_M_as_30 {x : Int32} : wps rm K Q c_M_as_30 kc ks loc (.int x :: st) h = ((¬ x = 0 → K 41 kc ks loc st h) ∧ (x = 0 → wps rm K Q c_M_as_33 kc ks loc (st) h)) := rfl
theorem s_M_as_33 {x : Nat} {l : eg_Lo} : wps rm K Q c_M_as_33 kc ks (some (.ref x) :: l) (st) h = wps rm K Q c_M_as_34 kc ks (some (.ref x) :: l) (.ref x :: st) h := rfl
theorem s_M_as_34  : wps rm K Q c_M_as_34 kc ks loc (st) h = wps rm K Q c_M_as_37 kc ks loc (.long (-1000000000000000006) :: st) h := rfl
theorem s_M_as_37  {a1 : Value} {x : Nat} : wps rm K Q c_M_as_37 kc ks loc (a1 :: .ref (x + 1) :: st) h = (eg_cls h x 12 ∧ st.length ≤ 4 ∧ eg_Cs n_M_finding (.ref (x + 1) :: [a1]) h (fun v h9 => wps rm K Q c_M_as_40 kc ks loc (v.toList ++ st) h9)) := eg_c1_1
theorem s_M_as_40 {x : Int64} : wps rm K Q c_M_as_40 kc ks loc ([.long x]) h = (kc = rm.cells ∧ Q (some (.long x)) h) := rfl
theorem s_M_as_41 {x : Int32} {l0 l1 : Option Value} {l : eg_Lo} : wps rm K Q c_M_as_41 kc ks (l0 :: l1 :: some (.int x) :: l) (st) h = wps rm K Q c_M_as_42 kc ks (l0 :: l1 :: some (.int x) :: l) (.int x :: st) h := rfl
theorem s_M_as_42 {x : Int32} : wps rm K Q c_M_as_42 kc ks loc (.int x :: st) h = ((x = 0 → K 83 kc ks loc st h) ∧ (¬ x = 0 → wps rm K Q c_M_as_45 kc ks loc (st) h)) := rfl
theorem s_M_as_45 {x : Int32} {l0 l1 : Option Value} {l : eg_Lo} : wps rm K Q c_M_as_45 kc ks (l0 :: l1 :: some (.int x) :: l) (st) h = wps rm K Q c_M_as_46 kc ks (l0 :: l1 :: some (.int x) :: l) (.int x :: st) h := rfl
theorem s_M_as_46 {x : Nat} {l : eg_Lo} : wps rm K Q c_M_as_46 kc ks (some (.ref x) :: l) (st) h = wps rm K Q c_M_as_47 kc ks (some (.ref x) :: l) (.ref x :: st) h := rfl
theorem s_M_as_47 {x : Nat} : wps rm K Q c_M_as_47 kc ks loc (.ref (x + 1) :: st) h = eg_gf h x 12 7 (fun v => wps rm K Q c_M_as_50 kc ks loc (v :: st) h) := rfl
theorem s_M_as_50 {x : Int32} {l0 : Option Value} {l : eg_Lo} : wps rm K Q c_M_as_50 kc ks (l0 :: some (.int x) :: l) (st) h = wps rm K Q c_M_as_51 kc ks (l0 :: some (.int x) :: l) (.int x :: st) h := rfl
theorem s_M_as_51 {x : Nat} {i : Int32} : wps rm K Q c_M_as_51 kc ks loc (.int i :: .ref (x + 1) :: st) h = eg_ia h x i (fun v => wps rm K Q c_M_as_52 kc ks loc (.int v :: st) h) := rfl
theorem s_M_as_52 {x y : Int32} : wps rm K Q c_M_as_52 kc ks loc (.int y :: .int x :: st) h = ((x = y → K 83 kc ks loc st h) ∧ (¬ x = y → wps rm K Q c_M_as_55 kc ks loc (st) h)) := rfl
theorem s_M_as_55 {x : Int32} {l0 l1 : Option Value} {l : eg_Lo} : wps rm K Q c_M_as_55 kc ks (l0 :: l1 :: some (.int x) :: l) (st) h = wps rm K Q c_M_as_56 kc ks (l0 :: l1 :: some (.int x) :: l) (.int x :: st) h := rfl
theorem s_M_as_56  : wps rm K Q c_M_as_56 kc ks loc (st) h = wps rm K Q c_M_as_57 kc ks loc (.int (1) :: st) h := rfl
theorem s_M_as_57 {x y : Int32} : wps rm K Q c_M_as_57 kc ks loc (.int y :: .int x :: st) h = ((¬ x = y → K 68 kc ks loc st h) ∧ (x = y → wps rm K Q c_M_as_60 kc ks loc (st) h)) := rfl
theorem s_M_as_60 {x : Nat} {l : eg_Lo} : wps rm K Q c_M_as_60 kc ks (some (.ref x) :: l) (st) h = wps rm K Q c_M_as_61 kc ks (some (.ref x) :: l) (.ref x :: st) h := rfl
theorem s_M_as_61 {x : Int32} {l0 : Option Value} {l : eg_Lo} : wps rm K Q c_M_as_61 kc ks (l0 :: some (.int x) :: l) (st) h = wps rm K Q c_M_as_62 kc ks (l0 :: some (.int x) :: l) (.int x :: st) h := rfl
theorem s_M_as_62  {a1 : Value} {x : Nat} : wps rm K Q c_M_as_62 kc ks loc (a1 :: .ref (x + 1) :: st) h = (eg_cls h x 12 ∧ st.length ≤ 4 ∧ eg_Cs n_M_isFlat (.ref (x + 1) :: [a1]) h (fun v h9 => wps rm K Q c_M_as_65 kc ks loc (v.toList ++ st) h9)) := eg_c1_1
theorem s_M_as_65 {x : Int32} : wps rm K Q c_M_as_65 kc ks loc (.int x :: st) h = ((¬ x = 0 → K 83 kc ks loc st h) ∧ (x = 0 → wps rm K Q c_M_as_68 kc ks loc (st) h)) := rfl
theorem s_M_as_68 {x : Int32} {l0 l1 : Option Value} {l : eg_Lo} : wps rm K Q c_M_as_68 kc ks (l0 :: l1 :: some (.int x) :: l) (st) h = wps rm K Q c_M_as_69 kc ks (l0 :: l1 :: some (.int x) :: l) (.int x :: st) h := rfl
theorem s_M_as_69  : wps rm K Q c_M_as_69 kc ks loc (st) h = wps rm K Q c_M_as_70 kc ks loc (.int (4) :: st) h := rfl
theorem s_M_as_70 {x y : Int32} : wps rm K Q c_M_as_70 kc ks loc (.int y :: .int x :: st) h = ((¬ x = y → K 87 kc ks loc st h) ∧ (x = y → wps rm K Q c_M_as_73 kc ks loc (st) h)) := rfl
theorem s_M_as_73 {x : Nat} {l : eg_Lo} : wps rm K Q c_M_as_73 kc ks (some (.ref x) :: l) (st) h = wps rm K Q c_M_as_74 kc ks (some (.ref x) :: l) (.ref x :: st) h := rfl
theorem s_M_as_74 {x : Nat} : wps rm K Q c_M_as_74 kc ks loc (.ref (x + 1) :: st) h = eg_gf h x 12 7 (fun v => wps rm K Q c_M_as_77 kc ks loc (v :: st) h) := rfl
theorem s_M_as_77 {x : Int32} {l0 : Option Value} {l : eg_Lo} : wps rm K Q c_M_as_77 kc ks (l0 :: some (.int x) :: l) (st) h = wps rm K Q c_M_as_78 kc ks (l0 :: some (.int x) :: l) (.int x :: st) h := rfl
theorem s_M_as_78 {x : Nat} {i : Int32} : wps rm K Q c_M_as_78 kc ks loc (.int i :: .ref (x + 1) :: st) h = eg_ia h x i (fun v => wps rm K Q c_M_as_79 kc ks loc (.int v :: st) h) := rfl
theorem s_M_as_79  : wps rm K Q c_M_as_79 kc ks loc (st) h = wps rm K Q c_M_as_80 kc ks loc (.int (5) :: st) h := rfl
theorem s_M_as_80 {x y : Int32} : wps rm K Q c_M_as_80 kc ks loc (.int y :: .int x :: st) h = ((¬ x = y → K 87 kc ks loc st h) ∧ (x = y → wps rm K Q c_M_as_83 kc ks loc (st) h)) := rfl
theorem s_M_as_83  : wps rm K Q c_M_as_83 kc ks loc (st) h = wps rm K Q c_M_as_84 kc ks loc (.int (1) :: st) h := rfl
theorem s_M_as_84  : wps rm K Q c_M_as_84 kc ks loc (st) h = K 88 kc ks loc st h := rfl
theorem s_M_as_87  : wps rm K Q c_M_as_87 kc ks loc (st) h = wps rm K Q c_M_as_88 kc ks loc (.int (0) :: st) h := rfl
theorem s_M_as_88 {x : Int32} : wps rm K Q c_M_as_88 kc ks loc (.int x :: st) h = wps rm K Q c_M_as_89 kc ks (eg_set1 loc 3 (.int x)) (st) h := rfl
theorem s_M_as_89 {x : Int32} {l0 l1 l2 : Option Value} {l : eg_Lo} : wps rm K Q c_M_as_89 kc ks (l0 :: l1 :: l2 :: some (.int x) :: l) (st) h = wps rm K Q c_M_as_90 kc ks (l0 :: l1 :: l2 :: some (.int x) :: l) (.int x :: st) h := rfl
theorem s_M_as_90 {x : Int32} : wps rm K Q c_M_as_90 kc ks loc (.int x :: st) h = ((x = 0 → K 103 kc ks loc st h) ∧ (¬ x = 0 → wps rm K Q c_M_as_93 kc ks loc (st) h)) := rfl
theorem s_M_as_93 {x : Nat} {l : eg_Lo} : wps rm K Q c_M_as_93 kc ks (some (.ref x) :: l) (st) h = wps rm K Q c_M_as_94 kc ks (some (.ref x) :: l) (.ref x :: st) h := rfl
theorem s_M_as_94 {x : Nat} : wps rm K Q c_M_as_94 kc ks loc (.ref (x + 1) :: st) h = eg_gf h x 12 7 (fun v => wps rm K Q c_M_as_97 kc ks loc (v :: st) h) := rfl
theorem s_M_as_97 {x : Int32} {l0 : Option Value} {l : eg_Lo} : wps rm K Q c_M_as_97 kc ks (l0 :: some (.int x) :: l) (st) h = wps rm K Q c_M_as_98 kc ks (l0 :: some (.int x) :: l) (.int x :: st) h := rfl
theorem s_M_as_98 {x : Nat} {i : Int32} : wps rm K Q c_M_as_98 kc ks loc (.int i :: .ref (x + 1) :: st) h = eg_ia h x i (fun v => wps rm K Q c_M_as_99 kc ks loc (.int v :: st) h) := rfl
theorem s_M_as_99 {x : Int32} : wps rm K Q c_M_as_99 kc ks loc (.int x :: st) h = wps rm K Q c_M_as_100 kc ks loc (.long (x.toInt64) :: st) h := rfl
theorem s_M_as_100  : wps rm K Q c_M_as_100 kc ks loc (st) h = K 110 kc ks loc st h := rfl
theorem s_M_as_103 {x : Nat} {l : eg_Lo} : wps rm K Q c_M_as_103 kc ks (some (.ref x) :: l) (st) h = wps rm K Q c_M_as_104 kc ks (some (.ref x) :: l) (.ref x :: st) h := rfl
theorem s_M_as_104  : wps rm K Q c_M_as_104 kc ks loc (st) h = wps rm K Q c_M_as_107 kc ks loc (.long (-1000000000000000004) :: st) h := rfl
theorem s_M_as_107  {a1 : Value} {x : Nat} : wps rm K Q c_M_as_107 kc ks loc (a1 :: .ref (x + 1) :: st) h = (eg_cls h x 12 ∧ st.length ≤ 4 ∧ eg_Cs n_M_finding (.ref (x + 1) :: [a1]) h (fun v h9 => wps rm K Q c_M_as_110 kc ks loc (v.toList ++ st) h9)) := eg_c1_1
theorem s_M_as_110 {x : Int64} : wps rm K Q c_M_as_110 kc ks loc ([.long x]) h = (kc = rm.cells ∧ Q (some (.long x)) h) := rfl
def T_M_as : List (Nat × List eg_I) := [(16, c_M_as_16), (24, c_M_as_24), (41, c_M_as_41), (68, c_M_as_68), (83, c_M_as_83), (87, c_M_as_87), (88, c_M_as_88), (103, c_M_as_103), (110, c_M_as_110)]
theorem j_M_as_16 {R : Nat → Nat → Nat → eg_Lo → List Value → List eg_E → Prop} {f pc0 : Nat} : eg_run rm R Q T_M_as (f + 1) 16 kc ks loc st h = wps rm (eg_run rm R Q T_M_as f) Q c_M_as_16 kc ks loc st h := rfl
theorem j_M_as_24 {R : Nat → Nat → Nat → eg_Lo → List Value → List eg_E → Prop} {f pc0 : Nat} : eg_run rm R Q T_M_as (f + 1) 24 kc ks loc st h = wps rm (eg_run rm R Q T_M_as f) Q c_M_as_24 kc ks loc st h := rfl
theorem j_M_as_41 {R : Nat → Nat → Nat → eg_Lo → List Value → List eg_E → Prop} {f pc0 : Nat} : eg_run rm R Q T_M_as (f + 1) 41 kc ks loc st h = wps rm (eg_run rm R Q T_M_as f) Q c_M_as_41 kc ks loc st h := rfl
theorem j_M_as_68 {R : Nat → Nat → Nat → eg_Lo → List Value → List eg_E → Prop} {f pc0 : Nat} : eg_run rm R Q T_M_as (f + 1) 68 kc ks loc st h = wps rm (eg_run rm R Q T_M_as f) Q c_M_as_68 kc ks loc st h := rfl
theorem j_M_as_83 {R : Nat → Nat → Nat → eg_Lo → List Value → List eg_E → Prop} {f pc0 : Nat} : eg_run rm R Q T_M_as (f + 1) 83 kc ks loc st h = wps rm (eg_run rm R Q T_M_as f) Q c_M_as_83 kc ks loc st h := rfl
theorem j_M_as_87 {R : Nat → Nat → Nat → eg_Lo → List Value → List eg_E → Prop} {f pc0 : Nat} : eg_run rm R Q T_M_as (f + 1) 87 kc ks loc st h = wps rm (eg_run rm R Q T_M_as f) Q c_M_as_87 kc ks loc st h := rfl
theorem j_M_as_88 {R : Nat → Nat → Nat → eg_Lo → List Value → List eg_E → Prop} {f pc0 : Nat} : eg_run rm R Q T_M_as (f + 1) 88 kc ks loc st h = wps rm (eg_run rm R Q T_M_as f) Q c_M_as_88 kc ks loc st h := rfl
theorem j_M_as_103 {R : Nat → Nat → Nat → eg_Lo → List Value → List eg_E → Prop} {f pc0 : Nat} : eg_run rm R Q T_M_as (f + 1) 103 kc ks loc st h = wps rm (eg_run rm R Q T_M_as f) Q c_M_as_103 kc ks loc st h := rfl
theorem j_M_as_110 {R : Nat → Nat → Nat → eg_Lo → List Value → List eg_E → Prop} {f pc0 : Nat} : eg_run rm R Q T_M_as (f + 1) 110 kc ks loc st h = wps rm (eg_run rm R Q T_M_as f) Q c_M_as_110 kc ks loc st h := rfl
end
theorem q_M_as : (T_M_as.all fun q => eg_seq m_M_as q.1 q.2) = true := by decide +kernel
theorem b_M_as {as : List Value} {h : List eg_E} {Q : Option Value → List eg_E → Prop} (hf : (eg_fl as).length ≤ 4) (hw : wps (eg_rm m_M_as) (eg_run (eg_rm m_M_as) (eg_R m_M_as Q (h.length + 0)) Q T_M_as 11) Q c_M_as_0 0 0 (eg_entry 4 as) [] h) : eg_Runs n_M_as as h Q := eg_begin (d := m_M_as) rfl (by decide) (by decide +kernel) q_M_as hf hw
/-! ===== M_held_II ===== -/
def c_M_held_II_60 : List eg_I := .inl (60, 1, .lreturn, 0, 0) :: []
def c_M_held_II_59 : List eg_I := .inl (59, 1, .i2l, 0, 0) :: c_M_held_II_60
def c_M_held_II_58 : List eg_I := .inl (58, 1, .iaload, 0, 0) :: c_M_held_II_59
def c_M_held_II_57 : List eg_I := .inl (57, 1, .iadd, 0, 0) :: c_M_held_II_58
def c_M_held_II_56 : List eg_I := .inl (56, 1, .iload 2, 0, 0) :: c_M_held_II_57
def c_M_held_II_55 : List eg_I := .inl (55, 1, .imul, 0, 0) :: c_M_held_II_56
def c_M_held_II_54 : List eg_I := .inl (54, 1, .iload 1, 0, 0) :: c_M_held_II_55
def c_M_held_II_52 : List eg_I := .inl (52, 2, .iconst (6), 0, 0) :: c_M_held_II_54
def c_M_held_II_49 : List eg_I := .inl (49, 3, .getfield 38, 12, 9) :: c_M_held_II_52
def c_M_held_II_48 : List eg_I := .inl (48, 1, .aload 0, 0, 0) :: c_M_held_II_49
def c_M_held_II_45 : List eg_I := .inl (45, 3, .goto (15), 60, 0) :: []
def c_M_held_II_42 : List eg_I := .inr (42, 1, 112, n_M_finding, 1, 12, 0, 0) :: c_M_held_II_45
def c_M_held_II_39 : List eg_I := .inl (39, 3, .sipush (-1000000000000000006), 138, 0) :: c_M_held_II_42
def c_M_held_II_38 : List eg_I := .inl (38, 1, .aload 0, 0, 0) :: c_M_held_II_39
def c_M_held_II_35 : List eg_I := .inl (35, 3, .if_icmp .lt (13), 48, 0) :: c_M_held_II_38
def c_M_held_II_34 : List eg_I := .inl (34, 1, .iaload, 0, 0) :: c_M_held_II_35
def c_M_held_II_33 : List eg_I := .inl (33, 1, .iload 1, 0, 0) :: c_M_held_II_34
def c_M_held_II_30 : List eg_I := .inl (30, 3, .getfield 35, 12, 8) :: c_M_held_II_33
def c_M_held_II_29 : List eg_I := .inl (29, 1, .aload 0, 0, 0) :: c_M_held_II_30
def c_M_held_II_28 : List eg_I := .inl (28, 1, .iload 2, 0, 0) :: c_M_held_II_29
def c_M_held_II_25 : List eg_I := .inl (25, 3, .ifCond .lt (13), 38, 0) :: c_M_held_II_28
def c_M_held_II_24 : List eg_I := .inl (24, 1, .iload 2, 0, 0) :: c_M_held_II_25
def c_M_held_II_21 : List eg_I := .inl (21, 3, .ifCond .eq (17), 38, 0) :: c_M_held_II_24
def c_M_held_II_20 : List eg_I := .inl (20, 1, .iaload, 0, 0) :: c_M_held_II_21
def c_M_held_II_19 : List eg_I := .inl (19, 1, .iload 1, 0, 0) :: c_M_held_II_20
def c_M_held_II_16 : List eg_I := .inl (16, 3, .getfield 32, 12, 7) :: c_M_held_II_19
def c_M_held_II_15 : List eg_I := .inl (15, 1, .aload 0, 0, 0) :: c_M_held_II_16
def c_M_held_II_14 : List eg_I := .inl (14, 1, .lreturn, 0, 0) :: []
def c_M_held_II_11 : List eg_I := .inr (11, 1, 112, n_M_finding, 1, 12, 0, 0) :: c_M_held_II_14
def c_M_held_II_8 : List eg_I := .inl (8, 3, .sipush (-1000000000000000001), 110, 0) :: c_M_held_II_11
def c_M_held_II_7 : List eg_I := .inl (7, 1, .aload 0, 0, 0) :: c_M_held_II_8
def c_M_held_II_4 : List eg_I := .inl (4, 3, .ifCond .ne (11), 15, 0) :: c_M_held_II_7
def c_M_held_II_1 : List eg_I := .inr (1, 0, 255, n_M_isFigure, 1, 12, 0, 0) :: c_M_held_II_4
def c_M_held_II_0 : List eg_I := .inl (0, 1, .iload 1, 0, 0) :: c_M_held_II_1
section
variable {rm : Room} {K : Nat → Nat → Nat → eg_Lo → List Value → List eg_E → Prop} {Q : Option Value → List eg_E → Prop} {kc ks : Nat} {loc : eg_Lo} {st : List Value} {h : List eg_E}
theorem s_M_held_II_0 {x : Int32} {l0 : Option Value} {l : eg_Lo} : wps rm K Q c_M_held_II_0 kc ks (l0 :: some (.int x) :: l) (st) h = wps rm K Q c_M_held_II_1 kc ks (l0 :: some (.int x) :: l) (.int x :: st) h := rfl
theorem s_M_held_II_1  {a1 : Value} : wps rm K Q c_M_held_II_1 kc ks loc (a1 :: st) h = (st.length ≤ 4 ∧ eg_Cs n_M_isFigure [a1] h (fun v h9 => wps rm K Q c_M_held_II_4 kc ks loc (v.toList ++ st) h9)) := eg_c0_1
theorem s_M_held_II_4 {x : Int32} : wps rm K Q c_M_held_II_4 kc ks loc (.int x :: st) h = ((¬ x = 0 → K 15 kc ks loc st h) ∧ (x = 0 → wps rm K Q c_M_held_II_7 kc ks loc (st) h)) := rfl
theorem s_M_held_II_7 {x : Nat} {l : eg_Lo} : wps rm K Q c_M_held_II_7 kc ks (some (.ref x) :: l) (st) h = wps rm K Q c_M_held_II_8 kc ks (some (.ref x) :: l) (.ref x :: st) h := rfl
theorem s_M_held_II_8  : wps rm K Q c_M_held_II_8 kc ks loc (st) h = wps rm K Q c_M_held_II_11 kc ks loc (.long (-1000000000000000001) :: st) h := rfl
theorem s_M_held_II_11  {a1 : Value} {x : Nat} : wps rm K Q c_M_held_II_11 kc ks loc (a1 :: .ref (x + 1) :: st) h = (eg_cls h x 12 ∧ st.length ≤ 4 ∧ eg_Cs n_M_finding (.ref (x + 1) :: [a1]) h (fun v h9 => wps rm K Q c_M_held_II_14 kc ks loc (v.toList ++ st) h9)) := eg_c1_1
theorem s_M_held_II_14 {x : Int64} : wps rm K Q c_M_held_II_14 kc ks loc ([.long x]) h = (kc = rm.cells ∧ Q (some (.long x)) h) := rfl
theorem s_M_held_II_15 {x : Nat} {l : eg_Lo} : wps rm K Q c_M_held_II_15 kc ks (some (.ref x) :: l) (st) h = wps rm K Q c_M_held_II_16 kc ks (some (.ref x) :: l) (.ref x :: st) h := rfl
theorem s_M_held_II_16 {x : Nat} : wps rm K Q c_M_held_II_16 kc ks loc (.ref (x + 1) :: st) h = eg_gf h x 12 7 (fun v => wps rm K Q c_M_held_II_19 kc ks loc (v :: st) h) := rfl
theorem s_M_held_II_19 {x : Int32} {l0 : Option Value} {l : eg_Lo} : wps rm K Q c_M_held_II_19 kc ks (l0 :: some (.int x) :: l) (st) h = wps rm K Q c_M_held_II_20 kc ks (l0 :: some (.int x) :: l) (.int x :: st) h := rfl
theorem s_M_held_II_20 {x : Nat} {i : Int32} : wps rm K Q c_M_held_II_20 kc ks loc (.int i :: .ref (x + 1) :: st) h = eg_ia h x i (fun v => wps rm K Q c_M_held_II_21 kc ks loc (.int v :: st) h) := rfl
theorem s_M_held_II_21 {x : Int32} : wps rm K Q c_M_held_II_21 kc ks loc (.int x :: st) h = ((x = 0 → K 38 kc ks loc st h) ∧ (¬ x = 0 → wps rm K Q c_M_held_II_24 kc ks loc (st) h)) := rfl
theorem s_M_held_II_24 {x : Int32} {l0 l1 : Option Value} {l : eg_Lo} : wps rm K Q c_M_held_II_24 kc ks (l0 :: l1 :: some (.int x) :: l) (st) h = wps rm K Q c_M_held_II_25 kc ks (l0 :: l1 :: some (.int x) :: l) (.int x :: st) h := rfl
theorem s_M_held_II_25 {x : Int32} : wps rm K Q c_M_held_II_25 kc ks loc (.int x :: st) h = ((x < 0 → K 38 kc ks loc st h) ∧ (¬ x < 0 → wps rm K Q c_M_held_II_28 kc ks loc (st) h)) := rfl
theorem s_M_held_II_28 {x : Int32} {l0 l1 : Option Value} {l : eg_Lo} : wps rm K Q c_M_held_II_28 kc ks (l0 :: l1 :: some (.int x) :: l) (st) h = wps rm K Q c_M_held_II_29 kc ks (l0 :: l1 :: some (.int x) :: l) (.int x :: st) h := rfl
theorem s_M_held_II_29 {x : Nat} {l : eg_Lo} : wps rm K Q c_M_held_II_29 kc ks (some (.ref x) :: l) (st) h = wps rm K Q c_M_held_II_30 kc ks (some (.ref x) :: l) (.ref x :: st) h := rfl
theorem s_M_held_II_30 {x : Nat} : wps rm K Q c_M_held_II_30 kc ks loc (.ref (x + 1) :: st) h = eg_gf h x 12 8 (fun v => wps rm K Q c_M_held_II_33 kc ks loc (v :: st) h) := rfl
theorem s_M_held_II_33 {x : Int32} {l0 : Option Value} {l : eg_Lo} : wps rm K Q c_M_held_II_33 kc ks (l0 :: some (.int x) :: l) (st) h = wps rm K Q c_M_held_II_34 kc ks (l0 :: some (.int x) :: l) (.int x :: st) h := rfl
theorem s_M_held_II_34 {x : Nat} {i : Int32} : wps rm K Q c_M_held_II_34 kc ks loc (.int i :: .ref (x + 1) :: st) h = eg_ia h x i (fun v => wps rm K Q c_M_held_II_35 kc ks loc (.int v :: st) h) := rfl
theorem s_M_held_II_35 {x y : Int32} : wps rm K Q c_M_held_II_35 kc ks loc (.int y :: .int x :: st) h = ((x < y → K 48 kc ks loc st h) ∧ (¬ x < y → wps rm K Q c_M_held_II_38 kc ks loc (st) h)) := rfl
theorem s_M_held_II_38 {x : Nat} {l : eg_Lo} : wps rm K Q c_M_held_II_38 kc ks (some (.ref x) :: l) (st) h = wps rm K Q c_M_held_II_39 kc ks (some (.ref x) :: l) (.ref x :: st) h := rfl
theorem s_M_held_II_39  : wps rm K Q c_M_held_II_39 kc ks loc (st) h = wps rm K Q c_M_held_II_42 kc ks loc (.long (-1000000000000000006) :: st) h := rfl
theorem s_M_held_II_42  {a1 : Value} {x : Nat} : wps rm K Q c_M_held_II_42 kc ks loc (a1 :: .ref (x + 1) :: st) h = (eg_cls h x 12 ∧ st.length ≤ 4 ∧ eg_Cs n_M_finding (.ref (x + 1) :: [a1]) h (fun v h9 => wps rm K Q c_M_held_II_45 kc ks loc (v.toList ++ st) h9)) := eg_c1_1
theorem s_M_held_II_45  : wps rm K Q c_M_held_II_45 kc ks loc (st) h = K 60 kc ks loc st h := rfl
theorem s_M_held_II_48 {x : Nat} {l : eg_Lo} : wps rm K Q c_M_held_II_48 kc ks (some (.ref x) :: l) (st) h = wps rm K Q c_M_held_II_49 kc ks (some (.ref x) :: l) (.ref x :: st) h := rfl
theorem s_M_held_II_49 {x : Nat} : wps rm K Q c_M_held_II_49 kc ks loc (.ref (x + 1) :: st) h = eg_gf h x 12 9 (fun v => wps rm K Q c_M_held_II_52 kc ks loc (v :: st) h) := rfl
theorem s_M_held_II_52  : wps rm K Q c_M_held_II_52 kc ks loc (st) h = wps rm K Q c_M_held_II_54 kc ks loc (.int (6) :: st) h := rfl
theorem s_M_held_II_54 {x : Int32} {l0 : Option Value} {l : eg_Lo} : wps rm K Q c_M_held_II_54 kc ks (l0 :: some (.int x) :: l) (st) h = wps rm K Q c_M_held_II_55 kc ks (l0 :: some (.int x) :: l) (.int x :: st) h := rfl
theorem s_M_held_II_55 {x y : Int32} : wps rm K Q c_M_held_II_55 kc ks loc (.int y :: .int x :: st) h = wps rm K Q c_M_held_II_56 kc ks loc (.int (x * y) :: st) h := rfl
theorem s_M_held_II_56 {x : Int32} {l0 l1 : Option Value} {l : eg_Lo} : wps rm K Q c_M_held_II_56 kc ks (l0 :: l1 :: some (.int x) :: l) (st) h = wps rm K Q c_M_held_II_57 kc ks (l0 :: l1 :: some (.int x) :: l) (.int x :: st) h := rfl
theorem s_M_held_II_57 {x y : Int32} : wps rm K Q c_M_held_II_57 kc ks loc (.int y :: .int x :: st) h = wps rm K Q c_M_held_II_58 kc ks loc (.int (x + y) :: st) h := rfl
theorem s_M_held_II_58 {x : Nat} {i : Int32} : wps rm K Q c_M_held_II_58 kc ks loc (.int i :: .ref (x + 1) :: st) h = eg_ia h x i (fun v => wps rm K Q c_M_held_II_59 kc ks loc (.int v :: st) h) := rfl
theorem s_M_held_II_59 {x : Int32} : wps rm K Q c_M_held_II_59 kc ks loc (.int x :: st) h = wps rm K Q c_M_held_II_60 kc ks loc (.long (x.toInt64) :: st) h := rfl
theorem s_M_held_II_60 {x : Int64} : wps rm K Q c_M_held_II_60 kc ks loc ([.long x]) h = (kc = rm.cells ∧ Q (some (.long x)) h) := rfl
def T_M_held_II : List (Nat × List eg_I) := [(15, c_M_held_II_15), (38, c_M_held_II_38), (48, c_M_held_II_48), (60, c_M_held_II_60)]
theorem j_M_held_II_15 {R : Nat → Nat → Nat → eg_Lo → List Value → List eg_E → Prop} {f pc0 : Nat} : eg_run rm R Q T_M_held_II (f + 1) 15 kc ks loc st h = wps rm (eg_run rm R Q T_M_held_II f) Q c_M_held_II_15 kc ks loc st h := rfl
theorem j_M_held_II_38 {R : Nat → Nat → Nat → eg_Lo → List Value → List eg_E → Prop} {f pc0 : Nat} : eg_run rm R Q T_M_held_II (f + 1) 38 kc ks loc st h = wps rm (eg_run rm R Q T_M_held_II f) Q c_M_held_II_38 kc ks loc st h := rfl
theorem j_M_held_II_48 {R : Nat → Nat → Nat → eg_Lo → List Value → List eg_E → Prop} {f pc0 : Nat} : eg_run rm R Q T_M_held_II (f + 1) 48 kc ks loc st h = wps rm (eg_run rm R Q T_M_held_II f) Q c_M_held_II_48 kc ks loc st h := rfl
theorem j_M_held_II_60 {R : Nat → Nat → Nat → eg_Lo → List Value → List eg_E → Prop} {f pc0 : Nat} : eg_run rm R Q T_M_held_II (f + 1) 60 kc ks loc st h = wps rm (eg_run rm R Q T_M_held_II f) Q c_M_held_II_60 kc ks loc st h := rfl
end
theorem q_M_held_II : (T_M_held_II.all fun q => eg_seq m_M_held_II q.1 q.2) = true := by decide +kernel
theorem b_M_held_II {as : List Value} {h : List eg_E} {Q : Option Value → List eg_E → Prop} (hf : (eg_fl as).length ≤ 3) (hw : wps (eg_rm m_M_held_II) (eg_run (eg_rm m_M_held_II) (eg_R m_M_held_II Q (h.length + 0)) Q T_M_held_II 6) Q c_M_held_II_0 0 0 (eg_entry 3 as) [] h) : eg_Runs n_M_held_II as h Q := eg_begin (d := m_M_held_II) rfl (by decide) (by decide +kernel) q_M_held_II hf hw
/-! ===== M_missOf ===== -/
def c_M_missOf_53 : List eg_I := .inl (53, 1, .lreturn, 0, 0) :: []
def c_M_missOf_52 : List eg_I := .inl (52, 1, .laload, 0, 0) :: c_M_missOf_53
def c_M_missOf_51 : List eg_I := .inl (51, 1, .iload 1, 0, 0) :: c_M_missOf_52
def c_M_missOf_48 : List eg_I := .inl (48, 3, .getfield 41, 12, 10) :: c_M_missOf_51
def c_M_missOf_47 : List eg_I := .inl (47, 1, .aload 0, 0, 0) :: c_M_missOf_48
def c_M_missOf_44 : List eg_I := .inl (44, 3, .goto (9), 53, 0) :: []
def c_M_missOf_43 : List eg_I := .inl (43, 1, .laload, 0, 0) :: c_M_missOf_44
def c_M_missOf_42 : List eg_I := .inl (42, 1, .iload 1, 0, 0) :: c_M_missOf_43
def c_M_missOf_39 : List eg_I := .inl (39, 3, .getfield 45, 12, 11) :: c_M_missOf_42
def c_M_missOf_38 : List eg_I := .inl (38, 1, .aload 0, 0, 0) :: c_M_missOf_39
def c_M_missOf_35 : List eg_I := .inl (35, 3, .ifCond .eq (12), 47, 0) :: c_M_missOf_38
def c_M_missOf_34 : List eg_I := .inl (34, 1, .iload 2, 0, 0) :: c_M_missOf_35
def c_M_missOf_31 : List eg_I := .inl (31, 3, .goto (22), 53, 0) :: []
def c_M_missOf_28 : List eg_I := .inr (28, 1, 112, n_M_finding, 1, 12, 0, 0) :: c_M_missOf_31
def c_M_missOf_25 : List eg_I := .inl (25, 3, .sipush (-1000000000000000006), 138, 0) :: c_M_missOf_28
def c_M_missOf_24 : List eg_I := .inl (24, 1, .aload 0, 0, 0) :: c_M_missOf_25
def c_M_missOf_21 : List eg_I := .inl (21, 3, .ifCond .ne (13), 34, 0) :: c_M_missOf_24
def c_M_missOf_20 : List eg_I := .inl (20, 1, .iaload, 0, 0) :: c_M_missOf_21
def c_M_missOf_19 : List eg_I := .inl (19, 1, .iload 1, 0, 0) :: c_M_missOf_20
def c_M_missOf_16 : List eg_I := .inl (16, 3, .getfield 32, 12, 7) :: c_M_missOf_19
def c_M_missOf_15 : List eg_I := .inl (15, 1, .aload 0, 0, 0) :: c_M_missOf_16
def c_M_missOf_14 : List eg_I := .inl (14, 1, .lreturn, 0, 0) :: []
def c_M_missOf_11 : List eg_I := .inr (11, 1, 112, n_M_finding, 1, 12, 0, 0) :: c_M_missOf_14
def c_M_missOf_8 : List eg_I := .inl (8, 3, .sipush (-1000000000000000001), 110, 0) :: c_M_missOf_11
def c_M_missOf_7 : List eg_I := .inl (7, 1, .aload 0, 0, 0) :: c_M_missOf_8
def c_M_missOf_4 : List eg_I := .inl (4, 3, .ifCond .ne (11), 15, 0) :: c_M_missOf_7
def c_M_missOf_1 : List eg_I := .inr (1, 0, 255, n_M_isFigure, 1, 12, 0, 0) :: c_M_missOf_4
def c_M_missOf_0 : List eg_I := .inl (0, 1, .iload 1, 0, 0) :: c_M_missOf_1
section
variable {rm : Room} {K : Nat → Nat → Nat → eg_Lo → List Value → List eg_E → Prop} {Q : Option Value → List eg_E → Prop} {kc ks : Nat} {loc : eg_Lo} {st : List Value} {h : List eg_E}
theorem s_M_missOf_0 {x : Int32} {l0 : Option Value} {l : eg_Lo} : wps rm K Q c_M_missOf_0 kc ks (l0 :: some (.int x) :: l) (st) h = wps rm K Q c_M_missOf_1 kc ks (l0 :: some (.int x) :: l) (.int x :: st) h := rfl
theorem s_M_missOf_1  {a1 : Value} : wps rm K Q c_M_missOf_1 kc ks loc (a1 :: st) h = (st.length ≤ 4 ∧ eg_Cs n_M_isFigure [a1] h (fun v h9 => wps rm K Q c_M_missOf_4 kc ks loc (v.toList ++ st) h9)) := eg_c0_1
theorem s_M_missOf_4 {x : Int32} : wps rm K Q c_M_missOf_4 kc ks loc (.int x :: st) h = ((¬ x = 0 → K 15 kc ks loc st h) ∧ (x = 0 → wps rm K Q c_M_missOf_7 kc ks loc (st) h)) := rfl
theorem s_M_missOf_7 {x : Nat} {l : eg_Lo} : wps rm K Q c_M_missOf_7 kc ks (some (.ref x) :: l) (st) h = wps rm K Q c_M_missOf_8 kc ks (some (.ref x) :: l) (.ref x :: st) h := rfl
theorem s_M_missOf_8  : wps rm K Q c_M_missOf_8 kc ks loc (st) h = wps rm K Q c_M_missOf_11 kc ks loc (.long (-1000000000000000001) :: st) h := rfl
theorem s_M_missOf_11  {a1 : Value} {x : Nat} : wps rm K Q c_M_missOf_11 kc ks loc (a1 :: .ref (x + 1) :: st) h = (eg_cls h x 12 ∧ st.length ≤ 4 ∧ eg_Cs n_M_finding (.ref (x + 1) :: [a1]) h (fun v h9 => wps rm K Q c_M_missOf_14 kc ks loc (v.toList ++ st) h9)) := eg_c1_1
theorem s_M_missOf_14 {x : Int64} : wps rm K Q c_M_missOf_14 kc ks loc ([.long x]) h = (kc = rm.cells ∧ Q (some (.long x)) h) := rfl
theorem s_M_missOf_15 {x : Nat} {l : eg_Lo} : wps rm K Q c_M_missOf_15 kc ks (some (.ref x) :: l) (st) h = wps rm K Q c_M_missOf_16 kc ks (some (.ref x) :: l) (.ref x :: st) h := rfl
theorem s_M_missOf_16 {x : Nat} : wps rm K Q c_M_missOf_16 kc ks loc (.ref (x + 1) :: st) h = eg_gf h x 12 7 (fun v => wps rm K Q c_M_missOf_19 kc ks loc (v :: st) h) := rfl
theorem s_M_missOf_19 {x : Int32} {l0 : Option Value} {l : eg_Lo} : wps rm K Q c_M_missOf_19 kc ks (l0 :: some (.int x) :: l) (st) h = wps rm K Q c_M_missOf_20 kc ks (l0 :: some (.int x) :: l) (.int x :: st) h := rfl
theorem s_M_missOf_20 {x : Nat} {i : Int32} : wps rm K Q c_M_missOf_20 kc ks loc (.int i :: .ref (x + 1) :: st) h = eg_ia h x i (fun v => wps rm K Q c_M_missOf_21 kc ks loc (.int v :: st) h) := rfl
theorem s_M_missOf_21 {x : Int32} : wps rm K Q c_M_missOf_21 kc ks loc (.int x :: st) h = ((¬ x = 0 → K 34 kc ks loc st h) ∧ (x = 0 → wps rm K Q c_M_missOf_24 kc ks loc (st) h)) := rfl
theorem s_M_missOf_24 {x : Nat} {l : eg_Lo} : wps rm K Q c_M_missOf_24 kc ks (some (.ref x) :: l) (st) h = wps rm K Q c_M_missOf_25 kc ks (some (.ref x) :: l) (.ref x :: st) h := rfl
theorem s_M_missOf_25  : wps rm K Q c_M_missOf_25 kc ks loc (st) h = wps rm K Q c_M_missOf_28 kc ks loc (.long (-1000000000000000006) :: st) h := rfl
theorem s_M_missOf_28  {a1 : Value} {x : Nat} : wps rm K Q c_M_missOf_28 kc ks loc (a1 :: .ref (x + 1) :: st) h = (eg_cls h x 12 ∧ st.length ≤ 4 ∧ eg_Cs n_M_finding (.ref (x + 1) :: [a1]) h (fun v h9 => wps rm K Q c_M_missOf_31 kc ks loc (v.toList ++ st) h9)) := eg_c1_1
theorem s_M_missOf_31  : wps rm K Q c_M_missOf_31 kc ks loc (st) h = K 53 kc ks loc st h := rfl
theorem s_M_missOf_34 {x : Int32} {l0 l1 : Option Value} {l : eg_Lo} : wps rm K Q c_M_missOf_34 kc ks (l0 :: l1 :: some (.int x) :: l) (st) h = wps rm K Q c_M_missOf_35 kc ks (l0 :: l1 :: some (.int x) :: l) (.int x :: st) h := rfl
theorem s_M_missOf_35 {x : Int32} : wps rm K Q c_M_missOf_35 kc ks loc (.int x :: st) h = ((x = 0 → K 47 kc ks loc st h) ∧ (¬ x = 0 → wps rm K Q c_M_missOf_38 kc ks loc (st) h)) := rfl
theorem s_M_missOf_38 {x : Nat} {l : eg_Lo} : wps rm K Q c_M_missOf_38 kc ks (some (.ref x) :: l) (st) h = wps rm K Q c_M_missOf_39 kc ks (some (.ref x) :: l) (.ref x :: st) h := rfl
theorem s_M_missOf_39 {x : Nat} : wps rm K Q c_M_missOf_39 kc ks loc (.ref (x + 1) :: st) h = eg_gf h x 12 11 (fun v => wps rm K Q c_M_missOf_42 kc ks loc (v :: st) h) := rfl
theorem s_M_missOf_42 {x : Int32} {l0 : Option Value} {l : eg_Lo} : wps rm K Q c_M_missOf_42 kc ks (l0 :: some (.int x) :: l) (st) h = wps rm K Q c_M_missOf_43 kc ks (l0 :: some (.int x) :: l) (.int x :: st) h := rfl
theorem s_M_missOf_43 {x : Nat} {i : Int32} : wps rm K Q c_M_missOf_43 kc ks loc (.int i :: .ref (x + 1) :: st) h = eg_la h x i (fun v => wps rm K Q c_M_missOf_44 kc ks loc (.long v :: st) h) := rfl
theorem s_M_missOf_44  : wps rm K Q c_M_missOf_44 kc ks loc (st) h = K 53 kc ks loc st h := rfl
theorem s_M_missOf_47 {x : Nat} {l : eg_Lo} : wps rm K Q c_M_missOf_47 kc ks (some (.ref x) :: l) (st) h = wps rm K Q c_M_missOf_48 kc ks (some (.ref x) :: l) (.ref x :: st) h := rfl
theorem s_M_missOf_48 {x : Nat} : wps rm K Q c_M_missOf_48 kc ks loc (.ref (x + 1) :: st) h = eg_gf h x 12 10 (fun v => wps rm K Q c_M_missOf_51 kc ks loc (v :: st) h) := rfl
theorem s_M_missOf_51 {x : Int32} {l0 : Option Value} {l : eg_Lo} : wps rm K Q c_M_missOf_51 kc ks (l0 :: some (.int x) :: l) (st) h = wps rm K Q c_M_missOf_52 kc ks (l0 :: some (.int x) :: l) (.int x :: st) h := rfl
theorem s_M_missOf_52 {x : Nat} {i : Int32} : wps rm K Q c_M_missOf_52 kc ks loc (.int i :: .ref (x + 1) :: st) h = eg_la h x i (fun v => wps rm K Q c_M_missOf_53 kc ks loc (.long v :: st) h) := rfl
theorem s_M_missOf_53 {x : Int64} : wps rm K Q c_M_missOf_53 kc ks loc ([.long x]) h = (kc = rm.cells ∧ Q (some (.long x)) h) := rfl
def T_M_missOf : List (Nat × List eg_I) := [(15, c_M_missOf_15), (34, c_M_missOf_34), (47, c_M_missOf_47), (53, c_M_missOf_53)]
theorem j_M_missOf_15 {R : Nat → Nat → Nat → eg_Lo → List Value → List eg_E → Prop} {f pc0 : Nat} : eg_run rm R Q T_M_missOf (f + 1) 15 kc ks loc st h = wps rm (eg_run rm R Q T_M_missOf f) Q c_M_missOf_15 kc ks loc st h := rfl
theorem j_M_missOf_34 {R : Nat → Nat → Nat → eg_Lo → List Value → List eg_E → Prop} {f pc0 : Nat} : eg_run rm R Q T_M_missOf (f + 1) 34 kc ks loc st h = wps rm (eg_run rm R Q T_M_missOf f) Q c_M_missOf_34 kc ks loc st h := rfl
theorem j_M_missOf_47 {R : Nat → Nat → Nat → eg_Lo → List Value → List eg_E → Prop} {f pc0 : Nat} : eg_run rm R Q T_M_missOf (f + 1) 47 kc ks loc st h = wps rm (eg_run rm R Q T_M_missOf f) Q c_M_missOf_47 kc ks loc st h := rfl
theorem j_M_missOf_53 {R : Nat → Nat → Nat → eg_Lo → List Value → List eg_E → Prop} {f pc0 : Nat} : eg_run rm R Q T_M_missOf (f + 1) 53 kc ks loc st h = wps rm (eg_run rm R Q T_M_missOf f) Q c_M_missOf_53 kc ks loc st h := rfl
end
theorem q_M_missOf : (T_M_missOf.all fun q => eg_seq m_M_missOf q.1 q.2) = true := by decide +kernel
theorem b_M_missOf {as : List Value} {h : List eg_E} {Q : Option Value → List eg_E → Prop} (hf : (eg_fl as).length ≤ 3) (hw : wps (eg_rm m_M_missOf) (eg_run (eg_rm m_M_missOf) (eg_R m_M_missOf Q (h.length + 0)) Q T_M_missOf 6) Q c_M_missOf_0 0 0 (eg_entry 3 as) [] h) : eg_Runs n_M_missOf as h Q := eg_begin (d := m_M_missOf) rfl (by decide) (by decide +kernel) q_M_missOf hf hw
/-! ===== M_way ===== -/
def c_M_way_69 : List eg_I := .inl (69, 1, .lreturn, 0, 0) :: []
def c_M_way_66 : List eg_I := .inr (66, 1, 112, n_M_finding, 1, 12, 0, 0) :: c_M_way_69
def c_M_way_63 : List eg_I := .inl (63, 3, .sipush (-1000000000000000004), 147, 0) :: c_M_way_66
def c_M_way_62 : List eg_I := .inl (62, 1, .aload 0, 0, 0) :: c_M_way_63
def c_M_way_59 : List eg_I := .inl (59, 3, .goto (10), 69, 0) :: []
def c_M_way_58 : List eg_I := .inl (58, 1, .laload, 0, 0) :: c_M_way_59
def c_M_way_57 : List eg_I := .inl (57, 1, .iadd, 0, 0) :: c_M_way_58
def c_M_way_56 : List eg_I := .inl (56, 1, .iload 2, 0, 0) :: c_M_way_57
def c_M_way_55 : List eg_I := .inl (55, 1, .imul, 0, 0) :: c_M_way_56
def c_M_way_54 : List eg_I := .inl (54, 1, .iload 1, 0, 0) :: c_M_way_55
def c_M_way_53 : List eg_I := .inl (53, 1, .iconst (3), 0, 0) :: c_M_way_54
def c_M_way_50 : List eg_I := .inl (50, 3, .getfield 48, 12, 12) :: c_M_way_53
def c_M_way_49 : List eg_I := .inl (49, 1, .aload 0, 0, 0) :: c_M_way_50
def c_M_way_46 : List eg_I := .inl (46, 3, .ifCond .eq (16), 62, 0) :: c_M_way_49
def c_M_way_43 : List eg_I := .inr (43, 1, 267, n_M_isFlat, 1, 12, 0, 0) :: c_M_way_46
def c_M_way_42 : List eg_I := .inl (42, 1, .iload 1, 0, 0) :: c_M_way_43
def c_M_way_41 : List eg_I := .inl (41, 1, .aload 0, 0, 0) :: c_M_way_42
def c_M_way_40 : List eg_I := .inl (40, 1, .lreturn, 0, 0) :: []
def c_M_way_37 : List eg_I := .inr (37, 1, 112, n_M_finding, 1, 12, 0, 0) :: c_M_way_40
def c_M_way_34 : List eg_I := .inl (34, 3, .sipush (-1000000000000000006), 138, 0) :: c_M_way_37
def c_M_way_33 : List eg_I := .inl (33, 1, .aload 0, 0, 0) :: c_M_way_34
def c_M_way_30 : List eg_I := .inl (30, 3, .ifCond .ne (11), 41, 0) :: c_M_way_33
def c_M_way_29 : List eg_I := .inl (29, 1, .iaload, 0, 0) :: c_M_way_30
def c_M_way_28 : List eg_I := .inl (28, 1, .iload 1, 0, 0) :: c_M_way_29
def c_M_way_25 : List eg_I := .inl (25, 3, .getfield 32, 12, 7) :: c_M_way_28
def c_M_way_24 : List eg_I := .inl (24, 1, .aload 0, 0, 0) :: c_M_way_25
def c_M_way_23 : List eg_I := .inl (23, 1, .lreturn, 0, 0) :: []
def c_M_way_20 : List eg_I := .inr (20, 1, 112, n_M_finding, 1, 12, 0, 0) :: c_M_way_23
def c_M_way_17 : List eg_I := .inl (17, 3, .sipush (-1000000000000000001), 110, 0) :: c_M_way_20
def c_M_way_16 : List eg_I := .inl (16, 1, .aload 0, 0, 0) :: c_M_way_17
def c_M_way_13 : List eg_I := .inl (13, 3, .ifCond .ne (11), 24, 0) :: c_M_way_16
def c_M_way_10 : List eg_I := .inr (10, 0, 95, n_M_isIn, 3, 12, 0, 0) :: c_M_way_13
def c_M_way_9 : List eg_I := .inl (9, 1, .iconst (2), 0, 0) :: c_M_way_10
def c_M_way_8 : List eg_I := .inl (8, 1, .iconst (0), 0, 0) :: c_M_way_9
def c_M_way_7 : List eg_I := .inl (7, 1, .iload 2, 0, 0) :: c_M_way_8
def c_M_way_4 : List eg_I := .inl (4, 3, .ifCond .eq (12), 16, 0) :: c_M_way_7
def c_M_way_1 : List eg_I := .inr (1, 0, 255, n_M_isFigure, 1, 12, 0, 0) :: c_M_way_4
def c_M_way_0 : List eg_I := .inl (0, 1, .iload 1, 0, 0) :: c_M_way_1
section
variable {rm : Room} {K : Nat → Nat → Nat → eg_Lo → List Value → List eg_E → Prop} {Q : Option Value → List eg_E → Prop} {kc ks : Nat} {loc : eg_Lo} {st : List Value} {h : List eg_E}
theorem s_M_way_0 {x : Int32} {l0 : Option Value} {l : eg_Lo} : wps rm K Q c_M_way_0 kc ks (l0 :: some (.int x) :: l) (st) h = wps rm K Q c_M_way_1 kc ks (l0 :: some (.int x) :: l) (.int x :: st) h := rfl
theorem s_M_way_1  {a1 : Value} : wps rm K Q c_M_way_1 kc ks loc (a1 :: st) h = (st.length ≤ 4 ∧ eg_Cs n_M_isFigure [a1] h (fun v h9 => wps rm K Q c_M_way_4 kc ks loc (v.toList ++ st) h9)) := eg_c0_1
theorem s_M_way_4 {x : Int32} : wps rm K Q c_M_way_4 kc ks loc (.int x :: st) h = ((x = 0 → K 16 kc ks loc st h) ∧ (¬ x = 0 → wps rm K Q c_M_way_7 kc ks loc (st) h)) := rfl
theorem s_M_way_7 {x : Int32} {l0 l1 : Option Value} {l : eg_Lo} : wps rm K Q c_M_way_7 kc ks (l0 :: l1 :: some (.int x) :: l) (st) h = wps rm K Q c_M_way_8 kc ks (l0 :: l1 :: some (.int x) :: l) (.int x :: st) h := rfl
theorem s_M_way_8  : wps rm K Q c_M_way_8 kc ks loc (st) h = wps rm K Q c_M_way_9 kc ks loc (.int (0) :: st) h := rfl
theorem s_M_way_9  : wps rm K Q c_M_way_9 kc ks loc (st) h = wps rm K Q c_M_way_10 kc ks loc (.int (2) :: st) h := rfl
theorem s_M_way_10  {a1 : Value} {a2 : Value} {a3 : Value} : wps rm K Q c_M_way_10 kc ks loc (a3 :: a2 :: a1 :: st) h = (st.length ≤ 4 ∧ eg_Cs n_M_isIn [a1, a2, a3] h (fun v h9 => wps rm K Q c_M_way_13 kc ks loc (v.toList ++ st) h9)) := eg_c0_3
theorem s_M_way_13 {x : Int32} : wps rm K Q c_M_way_13 kc ks loc (.int x :: st) h = ((¬ x = 0 → K 24 kc ks loc st h) ∧ (x = 0 → wps rm K Q c_M_way_16 kc ks loc (st) h)) := rfl
theorem s_M_way_16 {x : Nat} {l : eg_Lo} : wps rm K Q c_M_way_16 kc ks (some (.ref x) :: l) (st) h = wps rm K Q c_M_way_17 kc ks (some (.ref x) :: l) (.ref x :: st) h := rfl
theorem s_M_way_17  : wps rm K Q c_M_way_17 kc ks loc (st) h = wps rm K Q c_M_way_20 kc ks loc (.long (-1000000000000000001) :: st) h := rfl
theorem s_M_way_20  {a1 : Value} {x : Nat} : wps rm K Q c_M_way_20 kc ks loc (a1 :: .ref (x + 1) :: st) h = (eg_cls h x 12 ∧ st.length ≤ 4 ∧ eg_Cs n_M_finding (.ref (x + 1) :: [a1]) h (fun v h9 => wps rm K Q c_M_way_23 kc ks loc (v.toList ++ st) h9)) := eg_c1_1
theorem s_M_way_23 {x : Int64} : wps rm K Q c_M_way_23 kc ks loc ([.long x]) h = (kc = rm.cells ∧ Q (some (.long x)) h) := rfl
theorem s_M_way_24 {x : Nat} {l : eg_Lo} : wps rm K Q c_M_way_24 kc ks (some (.ref x) :: l) (st) h = wps rm K Q c_M_way_25 kc ks (some (.ref x) :: l) (.ref x :: st) h := rfl
theorem s_M_way_25 {x : Nat} : wps rm K Q c_M_way_25 kc ks loc (.ref (x + 1) :: st) h = eg_gf h x 12 7 (fun v => wps rm K Q c_M_way_28 kc ks loc (v :: st) h) := rfl
theorem s_M_way_28 {x : Int32} {l0 : Option Value} {l : eg_Lo} : wps rm K Q c_M_way_28 kc ks (l0 :: some (.int x) :: l) (st) h = wps rm K Q c_M_way_29 kc ks (l0 :: some (.int x) :: l) (.int x :: st) h := rfl
theorem s_M_way_29 {x : Nat} {i : Int32} : wps rm K Q c_M_way_29 kc ks loc (.int i :: .ref (x + 1) :: st) h = eg_ia h x i (fun v => wps rm K Q c_M_way_30 kc ks loc (.int v :: st) h) := rfl
theorem s_M_way_30 {x : Int32} : wps rm K Q c_M_way_30 kc ks loc (.int x :: st) h = ((¬ x = 0 → K 41 kc ks loc st h) ∧ (x = 0 → wps rm K Q c_M_way_33 kc ks loc (st) h)) := rfl
theorem s_M_way_33 {x : Nat} {l : eg_Lo} : wps rm K Q c_M_way_33 kc ks (some (.ref x) :: l) (st) h = wps rm K Q c_M_way_34 kc ks (some (.ref x) :: l) (.ref x :: st) h := rfl
theorem s_M_way_34  : wps rm K Q c_M_way_34 kc ks loc (st) h = wps rm K Q c_M_way_37 kc ks loc (.long (-1000000000000000006) :: st) h := rfl
theorem s_M_way_37  {a1 : Value} {x : Nat} : wps rm K Q c_M_way_37 kc ks loc (a1 :: .ref (x + 1) :: st) h = (eg_cls h x 12 ∧ st.length ≤ 4 ∧ eg_Cs n_M_finding (.ref (x + 1) :: [a1]) h (fun v h9 => wps rm K Q c_M_way_40 kc ks loc (v.toList ++ st) h9)) := eg_c1_1
theorem s_M_way_40 {x : Int64} : wps rm K Q c_M_way_40 kc ks loc ([.long x]) h = (kc = rm.cells ∧ Q (some (.long x)) h) := rfl
theorem s_M_way_41 {x : Nat} {l : eg_Lo} : wps rm K Q c_M_way_41 kc ks (some (.ref x) :: l) (st) h = wps rm K Q c_M_way_42 kc ks (some (.ref x) :: l) (.ref x :: st) h := rfl
theorem s_M_way_42 {x : Int32} {l0 : Option Value} {l : eg_Lo} : wps rm K Q c_M_way_42 kc ks (l0 :: some (.int x) :: l) (st) h = wps rm K Q c_M_way_43 kc ks (l0 :: some (.int x) :: l) (.int x :: st) h := rfl
theorem s_M_way_43  {a1 : Value} {x : Nat} : wps rm K Q c_M_way_43 kc ks loc (a1 :: .ref (x + 1) :: st) h = (eg_cls h x 12 ∧ st.length ≤ 4 ∧ eg_Cs n_M_isFlat (.ref (x + 1) :: [a1]) h (fun v h9 => wps rm K Q c_M_way_46 kc ks loc (v.toList ++ st) h9)) := eg_c1_1
theorem s_M_way_46 {x : Int32} : wps rm K Q c_M_way_46 kc ks loc (.int x :: st) h = ((x = 0 → K 62 kc ks loc st h) ∧ (¬ x = 0 → wps rm K Q c_M_way_49 kc ks loc (st) h)) := rfl
theorem s_M_way_49 {x : Nat} {l : eg_Lo} : wps rm K Q c_M_way_49 kc ks (some (.ref x) :: l) (st) h = wps rm K Q c_M_way_50 kc ks (some (.ref x) :: l) (.ref x :: st) h := rfl
theorem s_M_way_50 {x : Nat} : wps rm K Q c_M_way_50 kc ks loc (.ref (x + 1) :: st) h = eg_gf h x 12 12 (fun v => wps rm K Q c_M_way_53 kc ks loc (v :: st) h) := rfl
theorem s_M_way_53  : wps rm K Q c_M_way_53 kc ks loc (st) h = wps rm K Q c_M_way_54 kc ks loc (.int (3) :: st) h := rfl
theorem s_M_way_54 {x : Int32} {l0 : Option Value} {l : eg_Lo} : wps rm K Q c_M_way_54 kc ks (l0 :: some (.int x) :: l) (st) h = wps rm K Q c_M_way_55 kc ks (l0 :: some (.int x) :: l) (.int x :: st) h := rfl
theorem s_M_way_55 {x y : Int32} : wps rm K Q c_M_way_55 kc ks loc (.int y :: .int x :: st) h = wps rm K Q c_M_way_56 kc ks loc (.int (x * y) :: st) h := rfl
theorem s_M_way_56 {x : Int32} {l0 l1 : Option Value} {l : eg_Lo} : wps rm K Q c_M_way_56 kc ks (l0 :: l1 :: some (.int x) :: l) (st) h = wps rm K Q c_M_way_57 kc ks (l0 :: l1 :: some (.int x) :: l) (.int x :: st) h := rfl
theorem s_M_way_57 {x y : Int32} : wps rm K Q c_M_way_57 kc ks loc (.int y :: .int x :: st) h = wps rm K Q c_M_way_58 kc ks loc (.int (x + y) :: st) h := rfl
theorem s_M_way_58 {x : Nat} {i : Int32} : wps rm K Q c_M_way_58 kc ks loc (.int i :: .ref (x + 1) :: st) h = eg_la h x i (fun v => wps rm K Q c_M_way_59 kc ks loc (.long v :: st) h) := rfl
theorem s_M_way_59  : wps rm K Q c_M_way_59 kc ks loc (st) h = K 69 kc ks loc st h := rfl
theorem s_M_way_62 {x : Nat} {l : eg_Lo} : wps rm K Q c_M_way_62 kc ks (some (.ref x) :: l) (st) h = wps rm K Q c_M_way_63 kc ks (some (.ref x) :: l) (.ref x :: st) h := rfl
theorem s_M_way_63  : wps rm K Q c_M_way_63 kc ks loc (st) h = wps rm K Q c_M_way_66 kc ks loc (.long (-1000000000000000004) :: st) h := rfl
theorem s_M_way_66  {a1 : Value} {x : Nat} : wps rm K Q c_M_way_66 kc ks loc (a1 :: .ref (x + 1) :: st) h = (eg_cls h x 12 ∧ st.length ≤ 4 ∧ eg_Cs n_M_finding (.ref (x + 1) :: [a1]) h (fun v h9 => wps rm K Q c_M_way_69 kc ks loc (v.toList ++ st) h9)) := eg_c1_1
theorem s_M_way_69 {x : Int64} : wps rm K Q c_M_way_69 kc ks loc ([.long x]) h = (kc = rm.cells ∧ Q (some (.long x)) h) := rfl
def T_M_way : List (Nat × List eg_I) := [(16, c_M_way_16), (24, c_M_way_24), (41, c_M_way_41), (62, c_M_way_62), (69, c_M_way_69)]
theorem j_M_way_16 {R : Nat → Nat → Nat → eg_Lo → List Value → List eg_E → Prop} {f pc0 : Nat} : eg_run rm R Q T_M_way (f + 1) 16 kc ks loc st h = wps rm (eg_run rm R Q T_M_way f) Q c_M_way_16 kc ks loc st h := rfl
theorem j_M_way_24 {R : Nat → Nat → Nat → eg_Lo → List Value → List eg_E → Prop} {f pc0 : Nat} : eg_run rm R Q T_M_way (f + 1) 24 kc ks loc st h = wps rm (eg_run rm R Q T_M_way f) Q c_M_way_24 kc ks loc st h := rfl
theorem j_M_way_41 {R : Nat → Nat → Nat → eg_Lo → List Value → List eg_E → Prop} {f pc0 : Nat} : eg_run rm R Q T_M_way (f + 1) 41 kc ks loc st h = wps rm (eg_run rm R Q T_M_way f) Q c_M_way_41 kc ks loc st h := rfl
theorem j_M_way_62 {R : Nat → Nat → Nat → eg_Lo → List Value → List eg_E → Prop} {f pc0 : Nat} : eg_run rm R Q T_M_way (f + 1) 62 kc ks loc st h = wps rm (eg_run rm R Q T_M_way f) Q c_M_way_62 kc ks loc st h := rfl
theorem j_M_way_69 {R : Nat → Nat → Nat → eg_Lo → List Value → List eg_E → Prop} {f pc0 : Nat} : eg_run rm R Q T_M_way (f + 1) 69 kc ks loc st h = wps rm (eg_run rm R Q T_M_way f) Q c_M_way_69 kc ks loc st h := rfl
end
theorem q_M_way : (T_M_way.all fun q => eg_seq m_M_way q.1 q.2) = true := by decide +kernel
theorem b_M_way {as : List Value} {h : List eg_E} {Q : Option Value → List eg_E → Prop} (hf : (eg_fl as).length ≤ 3) (hw : wps (eg_rm m_M_way) (eg_run (eg_rm m_M_way) (eg_R m_M_way Q (h.length + 0)) Q T_M_way 7) Q c_M_way_0 0 0 (eg_entry 3 as) [] h) : eg_Runs n_M_way as h Q := eg_begin (d := m_M_way) rfl (by decide) (by decide +kernel) q_M_way hf hw
/-! ===== M_middle ===== -/
def c_M_middle_80 : List eg_I := .inl (80, 1, .lreturn, 0, 0) :: []
def c_M_middle_77 : List eg_I := .inr (77, 1, 112, n_M_finding, 1, 12, 0, 0) :: c_M_middle_80
def c_M_middle_74 : List eg_I := .inl (74, 3, .sipush (-1000000000000000004), 147, 0) :: c_M_middle_77
def c_M_middle_73 : List eg_I := .inl (73, 1, .aload 0, 0, 0) :: c_M_middle_74
def c_M_middle_70 : List eg_I := .inl (70, 3, .goto (10), 80, 0) :: []
def c_M_middle_69 : List eg_I := .inl (69, 1, .laload, 0, 0) :: c_M_middle_70
def c_M_middle_68 : List eg_I := .inl (68, 1, .iadd, 0, 0) :: c_M_middle_69
def c_M_middle_67 : List eg_I := .inl (67, 1, .iconst (0), 0, 0) :: c_M_middle_68
def c_M_middle_64 : List eg_I := .inl (64, 3, .goto (4), 68, 0) :: []
def c_M_middle_63 : List eg_I := .inl (63, 1, .iconst (1), 0, 0) :: c_M_middle_64
def c_M_middle_60 : List eg_I := .inl (60, 3, .ifCond .eq (7), 67, 0) :: c_M_middle_63
def c_M_middle_59 : List eg_I := .inl (59, 1, .iload 3, 0, 0) :: c_M_middle_60
def c_M_middle_58 : List eg_I := .inl (58, 1, .iadd, 0, 0) :: c_M_middle_59
def c_M_middle_57 : List eg_I := .inl (57, 1, .iconst (0), 0, 0) :: c_M_middle_58
def c_M_middle_54 : List eg_I := .inl (54, 3, .goto (4), 58, 0) :: []
def c_M_middle_53 : List eg_I := .inl (53, 1, .iconst (2), 0, 0) :: c_M_middle_54
def c_M_middle_50 : List eg_I := .inl (50, 3, .ifCond .eq (7), 57, 0) :: c_M_middle_53
def c_M_middle_49 : List eg_I := .inl (49, 1, .iload 2, 0, 0) :: c_M_middle_50
def c_M_middle_48 : List eg_I := .inl (48, 1, .imul, 0, 0) :: c_M_middle_49
def c_M_middle_47 : List eg_I := .inl (47, 1, .iload 1, 0, 0) :: c_M_middle_48
def c_M_middle_46 : List eg_I := .inl (46, 1, .iconst (4), 0, 0) :: c_M_middle_47
def c_M_middle_43 : List eg_I := .inl (43, 3, .getfield 51, 12, 13) :: c_M_middle_46
def c_M_middle_42 : List eg_I := .inl (42, 1, .aload 0, 0, 0) :: c_M_middle_43
def c_M_middle_39 : List eg_I := .inl (39, 3, .if_icmp .ne (34), 73, 0) :: c_M_middle_42
def c_M_middle_38 : List eg_I := .inl (38, 1, .iconst (5), 0, 0) :: c_M_middle_39
def c_M_middle_37 : List eg_I := .inl (37, 1, .iaload, 0, 0) :: c_M_middle_38
def c_M_middle_36 : List eg_I := .inl (36, 1, .iload 1, 0, 0) :: c_M_middle_37
def c_M_middle_33 : List eg_I := .inl (33, 3, .getfield 32, 12, 7) :: c_M_middle_36
def c_M_middle_32 : List eg_I := .inl (32, 1, .aload 0, 0, 0) :: c_M_middle_33
def c_M_middle_31 : List eg_I := .inl (31, 1, .lreturn, 0, 0) :: []
def c_M_middle_28 : List eg_I := .inr (28, 1, 112, n_M_finding, 1, 12, 0, 0) :: c_M_middle_31
def c_M_middle_25 : List eg_I := .inl (25, 3, .sipush (-1000000000000000006), 138, 0) :: c_M_middle_28
def c_M_middle_24 : List eg_I := .inl (24, 1, .aload 0, 0, 0) :: c_M_middle_25
def c_M_middle_21 : List eg_I := .inl (21, 3, .ifCond .ne (11), 32, 0) :: c_M_middle_24
def c_M_middle_20 : List eg_I := .inl (20, 1, .iaload, 0, 0) :: c_M_middle_21
def c_M_middle_19 : List eg_I := .inl (19, 1, .iload 1, 0, 0) :: c_M_middle_20
def c_M_middle_16 : List eg_I := .inl (16, 3, .getfield 32, 12, 7) :: c_M_middle_19
def c_M_middle_15 : List eg_I := .inl (15, 1, .aload 0, 0, 0) :: c_M_middle_16
def c_M_middle_14 : List eg_I := .inl (14, 1, .lreturn, 0, 0) :: []
def c_M_middle_11 : List eg_I := .inr (11, 1, 112, n_M_finding, 1, 12, 0, 0) :: c_M_middle_14
def c_M_middle_8 : List eg_I := .inl (8, 3, .sipush (-1000000000000000001), 110, 0) :: c_M_middle_11
def c_M_middle_7 : List eg_I := .inl (7, 1, .aload 0, 0, 0) :: c_M_middle_8
def c_M_middle_4 : List eg_I := .inl (4, 3, .ifCond .ne (11), 15, 0) :: c_M_middle_7
def c_M_middle_1 : List eg_I := .inr (1, 0, 255, n_M_isFigure, 1, 12, 0, 0) :: c_M_middle_4
def c_M_middle_0 : List eg_I := .inl (0, 1, .iload 1, 0, 0) :: c_M_middle_1
section
variable {rm : Room} {K : Nat → Nat → Nat → eg_Lo → List Value → List eg_E → Prop} {Q : Option Value → List eg_E → Prop} {kc ks : Nat} {loc : eg_Lo} {st : List Value} {h : List eg_E}
theorem s_M_middle_0 {x : Int32} {l0 : Option Value} {l : eg_Lo} : wps rm K Q c_M_middle_0 kc ks (l0 :: some (.int x) :: l) (st) h = wps rm K Q c_M_middle_1 kc ks (l0 :: some (.int x) :: l) (.int x :: st) h := rfl
theorem s_M_middle_1  {a1 : Value} : wps rm K Q c_M_middle_1 kc ks loc (a1 :: st) h = (st.length ≤ 4 ∧ eg_Cs n_M_isFigure [a1] h (fun v h9 => wps rm K Q c_M_middle_4 kc ks loc (v.toList ++ st) h9)) := eg_c0_1
theorem s_M_middle_4 {x : Int32} : wps rm K Q c_M_middle_4 kc ks loc (.int x :: st) h = ((¬ x = 0 → K 15 kc ks loc st h) ∧ (x = 0 → wps rm K Q c_M_middle_7 kc ks loc (st) h)) := rfl
theorem s_M_middle_7 {x : Nat} {l : eg_Lo} : wps rm K Q c_M_middle_7 kc ks (some (.ref x) :: l) (st) h = wps rm K Q c_M_middle_8 kc ks (some (.ref x) :: l) (.ref x :: st) h := rfl
theorem s_M_middle_8  : wps rm K Q c_M_middle_8 kc ks loc (st) h = wps rm K Q c_M_middle_11 kc ks loc (.long (-1000000000000000001) :: st) h := rfl
theorem s_M_middle_11  {a1 : Value} {x : Nat} : wps rm K Q c_M_middle_11 kc ks loc (a1 :: .ref (x + 1) :: st) h = (eg_cls h x 12 ∧ st.length ≤ 4 ∧ eg_Cs n_M_finding (.ref (x + 1) :: [a1]) h (fun v h9 => wps rm K Q c_M_middle_14 kc ks loc (v.toList ++ st) h9)) := eg_c1_1
theorem s_M_middle_14 {x : Int64} : wps rm K Q c_M_middle_14 kc ks loc ([.long x]) h = (kc = rm.cells ∧ Q (some (.long x)) h) := rfl
theorem s_M_middle_15 {x : Nat} {l : eg_Lo} : wps rm K Q c_M_middle_15 kc ks (some (.ref x) :: l) (st) h = wps rm K Q c_M_middle_16 kc ks (some (.ref x) :: l) (.ref x :: st) h := rfl
theorem s_M_middle_16 {x : Nat} : wps rm K Q c_M_middle_16 kc ks loc (.ref (x + 1) :: st) h = eg_gf h x 12 7 (fun v => wps rm K Q c_M_middle_19 kc ks loc (v :: st) h) := rfl
theorem s_M_middle_19 {x : Int32} {l0 : Option Value} {l : eg_Lo} : wps rm K Q c_M_middle_19 kc ks (l0 :: some (.int x) :: l) (st) h = wps rm K Q c_M_middle_20 kc ks (l0 :: some (.int x) :: l) (.int x :: st) h := rfl
theorem s_M_middle_20 {x : Nat} {i : Int32} : wps rm K Q c_M_middle_20 kc ks loc (.int i :: .ref (x + 1) :: st) h = eg_ia h x i (fun v => wps rm K Q c_M_middle_21 kc ks loc (.int v :: st) h) := rfl
theorem s_M_middle_21 {x : Int32} : wps rm K Q c_M_middle_21 kc ks loc (.int x :: st) h = ((¬ x = 0 → K 32 kc ks loc st h) ∧ (x = 0 → wps rm K Q c_M_middle_24 kc ks loc (st) h)) := rfl
theorem s_M_middle_24 {x : Nat} {l : eg_Lo} : wps rm K Q c_M_middle_24 kc ks (some (.ref x) :: l) (st) h = wps rm K Q c_M_middle_25 kc ks (some (.ref x) :: l) (.ref x :: st) h := rfl
theorem s_M_middle_25  : wps rm K Q c_M_middle_25 kc ks loc (st) h = wps rm K Q c_M_middle_28 kc ks loc (.long (-1000000000000000006) :: st) h := rfl
theorem s_M_middle_28  {a1 : Value} {x : Nat} : wps rm K Q c_M_middle_28 kc ks loc (a1 :: .ref (x + 1) :: st) h = (eg_cls h x 12 ∧ st.length ≤ 4 ∧ eg_Cs n_M_finding (.ref (x + 1) :: [a1]) h (fun v h9 => wps rm K Q c_M_middle_31 kc ks loc (v.toList ++ st) h9)) := eg_c1_1
theorem s_M_middle_31 {x : Int64} : wps rm K Q c_M_middle_31 kc ks loc ([.long x]) h = (kc = rm.cells ∧ Q (some (.long x)) h) := rfl
theorem s_M_middle_32 {x : Nat} {l : eg_Lo} : wps rm K Q c_M_middle_32 kc ks (some (.ref x) :: l) (st) h = wps rm K Q c_M_middle_33 kc ks (some (.ref x) :: l) (.ref x :: st) h := rfl
theorem s_M_middle_33 {x : Nat} : wps rm K Q c_M_middle_33 kc ks loc (.ref (x + 1) :: st) h = eg_gf h x 12 7 (fun v => wps rm K Q c_M_middle_36 kc ks loc (v :: st) h) := rfl
theorem s_M_middle_36 {x : Int32} {l0 : Option Value} {l : eg_Lo} : wps rm K Q c_M_middle_36 kc ks (l0 :: some (.int x) :: l) (st) h = wps rm K Q c_M_middle_37 kc ks (l0 :: some (.int x) :: l) (.int x :: st) h := rfl
theorem s_M_middle_37 {x : Nat} {i : Int32} : wps rm K Q c_M_middle_37 kc ks loc (.int i :: .ref (x + 1) :: st) h = eg_ia h x i (fun v => wps rm K Q c_M_middle_38 kc ks loc (.int v :: st) h) := rfl
theorem s_M_middle_38  : wps rm K Q c_M_middle_38 kc ks loc (st) h = wps rm K Q c_M_middle_39 kc ks loc (.int (5) :: st) h := rfl
theorem s_M_middle_39 {x y : Int32} : wps rm K Q c_M_middle_39 kc ks loc (.int y :: .int x :: st) h = ((¬ x = y → K 73 kc ks loc st h) ∧ (x = y → wps rm K Q c_M_middle_42 kc ks loc (st) h)) := rfl
theorem s_M_middle_42 {x : Nat} {l : eg_Lo} : wps rm K Q c_M_middle_42 kc ks (some (.ref x) :: l) (st) h = wps rm K Q c_M_middle_43 kc ks (some (.ref x) :: l) (.ref x :: st) h := rfl
theorem s_M_middle_43 {x : Nat} : wps rm K Q c_M_middle_43 kc ks loc (.ref (x + 1) :: st) h = eg_gf h x 12 13 (fun v => wps rm K Q c_M_middle_46 kc ks loc (v :: st) h) := rfl
theorem s_M_middle_46  : wps rm K Q c_M_middle_46 kc ks loc (st) h = wps rm K Q c_M_middle_47 kc ks loc (.int (4) :: st) h := rfl
theorem s_M_middle_47 {x : Int32} {l0 : Option Value} {l : eg_Lo} : wps rm K Q c_M_middle_47 kc ks (l0 :: some (.int x) :: l) (st) h = wps rm K Q c_M_middle_48 kc ks (l0 :: some (.int x) :: l) (.int x :: st) h := rfl
theorem s_M_middle_48 {x y : Int32} : wps rm K Q c_M_middle_48 kc ks loc (.int y :: .int x :: st) h = wps rm K Q c_M_middle_49 kc ks loc (.int (x * y) :: st) h := rfl
theorem s_M_middle_49 {x : Int32} {l0 l1 : Option Value} {l : eg_Lo} : wps rm K Q c_M_middle_49 kc ks (l0 :: l1 :: some (.int x) :: l) (st) h = wps rm K Q c_M_middle_50 kc ks (l0 :: l1 :: some (.int x) :: l) (.int x :: st) h := rfl
theorem s_M_middle_50 {x : Int32} : wps rm K Q c_M_middle_50 kc ks loc (.int x :: st) h = ((x = 0 → K 57 kc ks loc st h) ∧ (¬ x = 0 → wps rm K Q c_M_middle_53 kc ks loc (st) h)) := rfl
theorem s_M_middle_53  : wps rm K Q c_M_middle_53 kc ks loc (st) h = wps rm K Q c_M_middle_54 kc ks loc (.int (2) :: st) h := rfl
theorem s_M_middle_54  : wps rm K Q c_M_middle_54 kc ks loc (st) h = K 58 kc ks loc st h := rfl
theorem s_M_middle_57  : wps rm K Q c_M_middle_57 kc ks loc (st) h = wps rm K Q c_M_middle_58 kc ks loc (.int (0) :: st) h := rfl
theorem s_M_middle_58 {x y : Int32} : wps rm K Q c_M_middle_58 kc ks loc (.int y :: .int x :: st) h = wps rm K Q c_M_middle_59 kc ks loc (.int (x + y) :: st) h := rfl
theorem s_M_middle_59 {x : Int32} {l0 l1 l2 : Option Value} {l : eg_Lo} : wps rm K Q c_M_middle_59 kc ks (l0 :: l1 :: l2 :: some (.int x) :: l) (st) h = wps rm K Q c_M_middle_60 kc ks (l0 :: l1 :: l2 :: some (.int x) :: l) (.int x :: st) h := rfl
theorem s_M_middle_60 {x : Int32} : wps rm K Q c_M_middle_60 kc ks loc (.int x :: st) h = ((x = 0 → K 67 kc ks loc st h) ∧ (¬ x = 0 → wps rm K Q c_M_middle_63 kc ks loc (st) h)) := rfl
theorem s_M_middle_63  : wps rm K Q c_M_middle_63 kc ks loc (st) h = wps rm K Q c_M_middle_64 kc ks loc (.int (1) :: st) h := rfl
theorem s_M_middle_64  : wps rm K Q c_M_middle_64 kc ks loc (st) h = K 68 kc ks loc st h := rfl
theorem s_M_middle_67  : wps rm K Q c_M_middle_67 kc ks loc (st) h = wps rm K Q c_M_middle_68 kc ks loc (.int (0) :: st) h := rfl
theorem s_M_middle_68 {x y : Int32} : wps rm K Q c_M_middle_68 kc ks loc (.int y :: .int x :: st) h = wps rm K Q c_M_middle_69 kc ks loc (.int (x + y) :: st) h := rfl
theorem s_M_middle_69 {x : Nat} {i : Int32} : wps rm K Q c_M_middle_69 kc ks loc (.int i :: .ref (x + 1) :: st) h = eg_la h x i (fun v => wps rm K Q c_M_middle_70 kc ks loc (.long v :: st) h) := rfl
theorem s_M_middle_70  : wps rm K Q c_M_middle_70 kc ks loc (st) h = K 80 kc ks loc st h := rfl
theorem s_M_middle_73 {x : Nat} {l : eg_Lo} : wps rm K Q c_M_middle_73 kc ks (some (.ref x) :: l) (st) h = wps rm K Q c_M_middle_74 kc ks (some (.ref x) :: l) (.ref x :: st) h := rfl
theorem s_M_middle_74  : wps rm K Q c_M_middle_74 kc ks loc (st) h = wps rm K Q c_M_middle_77 kc ks loc (.long (-1000000000000000004) :: st) h := rfl
theorem s_M_middle_77  {a1 : Value} {x : Nat} : wps rm K Q c_M_middle_77 kc ks loc (a1 :: .ref (x + 1) :: st) h = (eg_cls h x 12 ∧ st.length ≤ 4 ∧ eg_Cs n_M_finding (.ref (x + 1) :: [a1]) h (fun v h9 => wps rm K Q c_M_middle_80 kc ks loc (v.toList ++ st) h9)) := eg_c1_1
theorem s_M_middle_80 {x : Int64} : wps rm K Q c_M_middle_80 kc ks loc ([.long x]) h = (kc = rm.cells ∧ Q (some (.long x)) h) := rfl
def T_M_middle : List (Nat × List eg_I) := [(15, c_M_middle_15), (32, c_M_middle_32), (57, c_M_middle_57), (58, c_M_middle_58), (67, c_M_middle_67), (68, c_M_middle_68), (73, c_M_middle_73), (80, c_M_middle_80)]
theorem j_M_middle_15 {R : Nat → Nat → Nat → eg_Lo → List Value → List eg_E → Prop} {f pc0 : Nat} : eg_run rm R Q T_M_middle (f + 1) 15 kc ks loc st h = wps rm (eg_run rm R Q T_M_middle f) Q c_M_middle_15 kc ks loc st h := rfl
theorem j_M_middle_32 {R : Nat → Nat → Nat → eg_Lo → List Value → List eg_E → Prop} {f pc0 : Nat} : eg_run rm R Q T_M_middle (f + 1) 32 kc ks loc st h = wps rm (eg_run rm R Q T_M_middle f) Q c_M_middle_32 kc ks loc st h := rfl
theorem j_M_middle_57 {R : Nat → Nat → Nat → eg_Lo → List Value → List eg_E → Prop} {f pc0 : Nat} : eg_run rm R Q T_M_middle (f + 1) 57 kc ks loc st h = wps rm (eg_run rm R Q T_M_middle f) Q c_M_middle_57 kc ks loc st h := rfl
theorem j_M_middle_58 {R : Nat → Nat → Nat → eg_Lo → List Value → List eg_E → Prop} {f pc0 : Nat} : eg_run rm R Q T_M_middle (f + 1) 58 kc ks loc st h = wps rm (eg_run rm R Q T_M_middle f) Q c_M_middle_58 kc ks loc st h := rfl
theorem j_M_middle_67 {R : Nat → Nat → Nat → eg_Lo → List Value → List eg_E → Prop} {f pc0 : Nat} : eg_run rm R Q T_M_middle (f + 1) 67 kc ks loc st h = wps rm (eg_run rm R Q T_M_middle f) Q c_M_middle_67 kc ks loc st h := rfl
theorem j_M_middle_68 {R : Nat → Nat → Nat → eg_Lo → List Value → List eg_E → Prop} {f pc0 : Nat} : eg_run rm R Q T_M_middle (f + 1) 68 kc ks loc st h = wps rm (eg_run rm R Q T_M_middle f) Q c_M_middle_68 kc ks loc st h := rfl
theorem j_M_middle_73 {R : Nat → Nat → Nat → eg_Lo → List Value → List eg_E → Prop} {f pc0 : Nat} : eg_run rm R Q T_M_middle (f + 1) 73 kc ks loc st h = wps rm (eg_run rm R Q T_M_middle f) Q c_M_middle_73 kc ks loc st h := rfl
theorem j_M_middle_80 {R : Nat → Nat → Nat → eg_Lo → List Value → List eg_E → Prop} {f pc0 : Nat} : eg_run rm R Q T_M_middle (f + 1) 80 kc ks loc st h = wps rm (eg_run rm R Q T_M_middle f) Q c_M_middle_80 kc ks loc st h := rfl
end
theorem q_M_middle : (T_M_middle.all fun q => eg_seq m_M_middle q.1 q.2) = true := by decide +kernel
theorem b_M_middle {as : List Value} {h : List eg_E} {Q : Option Value → List eg_E → Prop} (hf : (eg_fl as).length ≤ 4) (hw : wps (eg_rm m_M_middle) (eg_run (eg_rm m_M_middle) (eg_R m_M_middle Q (h.length + 0)) Q T_M_middle 10) Q c_M_middle_0 0 0 (eg_entry 4 as) [] h) : eg_Runs n_M_middle as h Q := eg_begin (d := m_M_middle) rfl (by decide) (by decide +kernel) q_M_middle hf hw
/-! ===== M_levelOf ===== -/
def c_M_levelOf_62 : List eg_I := .inl (62, 1, .ireturn, 0, 0) :: []
def c_M_levelOf_60 : List eg_I := .inl (60, 2, .iload 4, 0, 0) :: c_M_levelOf_62
def c_M_levelOf_57 : List eg_I := .inl (57, 3, .goto (-24), 33, 0) :: []
def c_M_levelOf_54 : List eg_I := .inl (54, 3, .iinc 4 (1), 0, 0) :: c_M_levelOf_57
def c_M_levelOf_51 : List eg_I := .inl (51, 3, .ifCond .eq (9), 60, 0) :: c_M_levelOf_54
def c_M_levelOf_48 : List eg_I := .inr (48, 0, 192, n_M_isLess, 4, 12, 0, 0) :: c_M_levelOf_51
def c_M_levelOf_47 : List eg_I := .inl (47, 1, .laload, 0, 0) :: c_M_levelOf_48
def c_M_levelOf_46 : List eg_I := .inl (46, 1, .iload 1, 0, 0) :: c_M_levelOf_47
def c_M_levelOf_43 : List eg_I := .inl (43, 3, .getfield 45, 12, 11) :: c_M_levelOf_46
def c_M_levelOf_42 : List eg_I := .inl (42, 1, .aload 0, 0, 0) :: c_M_levelOf_43
def c_M_levelOf_41 : List eg_I := .inl (41, 1, .lload 2, 0, 0) :: c_M_levelOf_42
def c_M_levelOf_40 : List eg_I := .inl (40, 1, .sipush (1), 0, 0) :: c_M_levelOf_41
def c_M_levelOf_39 : List eg_I := .inl (39, 1, .lmul, 0, 0) :: c_M_levelOf_40
def c_M_levelOf_38 : List eg_I := .inl (38, 1, .i2l, 0, 0) :: c_M_levelOf_39
def c_M_levelOf_36 : List eg_I := .inl (36, 2, .iload 4, 0, 0) :: c_M_levelOf_38
def c_M_levelOf_35 : List eg_I := .inl (35, 1, .i2l, 0, 0) :: c_M_levelOf_36
def c_M_levelOf_33 : List eg_I := .inl (33, 2, .iload 4, 0, 0) :: c_M_levelOf_35
def c_M_levelOf_31 : List eg_I := .inl (31, 2, .istore 4, 0, 0) :: [.inl (33, 0, .nop, 0, 0)]
def c_M_levelOf_30 : List eg_I := .inl (30, 1, .iconst (0), 0, 0) :: c_M_levelOf_31
def c_M_levelOf_29 : List eg_I := .inl (29, 1, .lstore 2, 0, 0) :: c_M_levelOf_30
def c_M_levelOf_28 : List eg_I := .inl (28, 1, .laload, 0, 0) :: c_M_levelOf_29
def c_M_levelOf_27 : List eg_I := .inl (27, 1, .iload 1, 0, 0) :: c_M_levelOf_28
def c_M_levelOf_24 : List eg_I := .inl (24, 3, .getfield 41, 12, 10) :: c_M_levelOf_27
def c_M_levelOf_23 : List eg_I := .inl (23, 1, .aload 0, 0, 0) :: c_M_levelOf_24
def c_M_levelOf_20 : List eg_I := .inl (20, 3, .goto (9), 29, 0) :: []
def c_M_levelOf_19 : List eg_I := .inl (19, 1, .lmul, 0, 0) :: c_M_levelOf_20
def c_M_levelOf_18 : List eg_I := .inl (18, 1, .laload, 0, 0) :: c_M_levelOf_19
def c_M_levelOf_17 : List eg_I := .inl (17, 1, .iload 1, 0, 0) :: c_M_levelOf_18
def c_M_levelOf_14 : List eg_I := .inl (14, 3, .getfield 41, 12, 10) :: c_M_levelOf_17
def c_M_levelOf_13 : List eg_I := .inl (13, 1, .aload 0, 0, 0) :: c_M_levelOf_14
def c_M_levelOf_10 : List eg_I := .inl (10, 3, .sipush (4), 204, 0) :: c_M_levelOf_13
def c_M_levelOf_7 : List eg_I := .inl (7, 3, .if_icmp .ne (16), 23, 0) :: c_M_levelOf_10
def c_M_levelOf_6 : List eg_I := .inl (6, 1, .iconst (5), 0, 0) :: c_M_levelOf_7
def c_M_levelOf_5 : List eg_I := .inl (5, 1, .iaload, 0, 0) :: c_M_levelOf_6
def c_M_levelOf_4 : List eg_I := .inl (4, 1, .iload 1, 0, 0) :: c_M_levelOf_5
def c_M_levelOf_1 : List eg_I := .inl (1, 3, .getfield 32, 12, 7) :: c_M_levelOf_4
def c_M_levelOf_0 : List eg_I := .inl (0, 1, .aload 0, 0, 0) :: c_M_levelOf_1
section
variable {rm : Room} {K : Nat → Nat → Nat → eg_Lo → List Value → List eg_E → Prop} {Q : Option Value → List eg_E → Prop} {kc ks : Nat} {loc : eg_Lo} {st : List Value} {h : List eg_E}
theorem s_M_levelOf_0 {x : Nat} {l : eg_Lo} : wps rm K Q c_M_levelOf_0 kc ks (some (.ref x) :: l) (st) h = wps rm K Q c_M_levelOf_1 kc ks (some (.ref x) :: l) (.ref x :: st) h := rfl
theorem s_M_levelOf_1 {x : Nat} : wps rm K Q c_M_levelOf_1 kc ks loc (.ref (x + 1) :: st) h = eg_gf h x 12 7 (fun v => wps rm K Q c_M_levelOf_4 kc ks loc (v :: st) h) := rfl
theorem s_M_levelOf_4 {x : Int32} {l0 : Option Value} {l : eg_Lo} : wps rm K Q c_M_levelOf_4 kc ks (l0 :: some (.int x) :: l) (st) h = wps rm K Q c_M_levelOf_5 kc ks (l0 :: some (.int x) :: l) (.int x :: st) h := rfl
theorem s_M_levelOf_5 {x : Nat} {i : Int32} : wps rm K Q c_M_levelOf_5 kc ks loc (.int i :: .ref (x + 1) :: st) h = eg_ia h x i (fun v => wps rm K Q c_M_levelOf_6 kc ks loc (.int v :: st) h) := rfl
theorem s_M_levelOf_6  : wps rm K Q c_M_levelOf_6 kc ks loc (st) h = wps rm K Q c_M_levelOf_7 kc ks loc (.int (5) :: st) h := rfl
theorem s_M_levelOf_7 {x y : Int32} : wps rm K Q c_M_levelOf_7 kc ks loc (.int y :: .int x :: st) h = ((¬ x = y → K 23 kc ks loc st h) ∧ (x = y → wps rm K Q c_M_levelOf_10 kc ks loc (st) h)) := rfl
theorem s_M_levelOf_10  : wps rm K Q c_M_levelOf_10 kc ks loc (st) h = wps rm K Q c_M_levelOf_13 kc ks loc (.long (4) :: st) h := rfl
theorem s_M_levelOf_13 {x : Nat} {l : eg_Lo} : wps rm K Q c_M_levelOf_13 kc ks (some (.ref x) :: l) (st) h = wps rm K Q c_M_levelOf_14 kc ks (some (.ref x) :: l) (.ref x :: st) h := rfl
theorem s_M_levelOf_14 {x : Nat} : wps rm K Q c_M_levelOf_14 kc ks loc (.ref (x + 1) :: st) h = eg_gf h x 12 10 (fun v => wps rm K Q c_M_levelOf_17 kc ks loc (v :: st) h) := rfl
theorem s_M_levelOf_17 {x : Int32} {l0 : Option Value} {l : eg_Lo} : wps rm K Q c_M_levelOf_17 kc ks (l0 :: some (.int x) :: l) (st) h = wps rm K Q c_M_levelOf_18 kc ks (l0 :: some (.int x) :: l) (.int x :: st) h := rfl
theorem s_M_levelOf_18 {x : Nat} {i : Int32} : wps rm K Q c_M_levelOf_18 kc ks loc (.int i :: .ref (x + 1) :: st) h = eg_la h x i (fun v => wps rm K Q c_M_levelOf_19 kc ks loc (.long v :: st) h) := rfl
theorem s_M_levelOf_19 {x y : Int64} : wps rm K Q c_M_levelOf_19 kc ks loc (.long y :: .long x :: st) h = wps rm K Q c_M_levelOf_20 kc ks loc (.long (x * y) :: st) h := rfl
theorem s_M_levelOf_20  : wps rm K Q c_M_levelOf_20 kc ks loc (st) h = K 29 kc ks loc st h := rfl
theorem s_M_levelOf_23 {x : Nat} {l : eg_Lo} : wps rm K Q c_M_levelOf_23 kc ks (some (.ref x) :: l) (st) h = wps rm K Q c_M_levelOf_24 kc ks (some (.ref x) :: l) (.ref x :: st) h := rfl
theorem s_M_levelOf_24 {x : Nat} : wps rm K Q c_M_levelOf_24 kc ks loc (.ref (x + 1) :: st) h = eg_gf h x 12 10 (fun v => wps rm K Q c_M_levelOf_27 kc ks loc (v :: st) h) := rfl
theorem s_M_levelOf_27 {x : Int32} {l0 : Option Value} {l : eg_Lo} : wps rm K Q c_M_levelOf_27 kc ks (l0 :: some (.int x) :: l) (st) h = wps rm K Q c_M_levelOf_28 kc ks (l0 :: some (.int x) :: l) (.int x :: st) h := rfl
theorem s_M_levelOf_28 {x : Nat} {i : Int32} : wps rm K Q c_M_levelOf_28 kc ks loc (.int i :: .ref (x + 1) :: st) h = eg_la h x i (fun v => wps rm K Q c_M_levelOf_29 kc ks loc (.long v :: st) h) := rfl
theorem s_M_levelOf_29 {x : Int64} : wps rm K Q c_M_levelOf_29 kc ks loc (.long x :: st) h = wps rm K Q c_M_levelOf_30 kc ks (eg_set2 loc 2 (.long x)) (st) h := rfl
theorem s_M_levelOf_30  : wps rm K Q c_M_levelOf_30 kc ks loc (st) h = wps rm K Q c_M_levelOf_31 kc ks loc (.int (0) :: st) h := rfl
theorem s_M_levelOf_31 {x : Int32} : wps rm K Q c_M_levelOf_31 kc ks loc (.int x :: st) h = K 33 kc ks (eg_set1 loc 4 (.int x)) (st) h := rfl
theorem s_M_levelOf_33 {x : Int32} {l0 l1 l2 l3 : Option Value} {l : eg_Lo} : wps rm K Q c_M_levelOf_33 kc ks (l0 :: l1 :: l2 :: l3 :: some (.int x) :: l) (st) h = wps rm K Q c_M_levelOf_35 kc ks (l0 :: l1 :: l2 :: l3 :: some (.int x) :: l) (.int x :: st) h := rfl
theorem s_M_levelOf_35 {x : Int32} : wps rm K Q c_M_levelOf_35 kc ks loc (.int x :: st) h = wps rm K Q c_M_levelOf_36 kc ks loc (.long (x.toInt64) :: st) h := rfl
theorem s_M_levelOf_36 {x : Int32} {l0 l1 l2 l3 : Option Value} {l : eg_Lo} : wps rm K Q c_M_levelOf_36 kc ks (l0 :: l1 :: l2 :: l3 :: some (.int x) :: l) (st) h = wps rm K Q c_M_levelOf_38 kc ks (l0 :: l1 :: l2 :: l3 :: some (.int x) :: l) (.int x :: st) h := rfl
theorem s_M_levelOf_38 {x : Int32} : wps rm K Q c_M_levelOf_38 kc ks loc (.int x :: st) h = wps rm K Q c_M_levelOf_39 kc ks loc (.long (x.toInt64) :: st) h := rfl
theorem s_M_levelOf_39 {x y : Int64} : wps rm K Q c_M_levelOf_39 kc ks loc (.long y :: .long x :: st) h = wps rm K Q c_M_levelOf_40 kc ks loc (.long (x * y) :: st) h := rfl
theorem s_M_levelOf_40  : wps rm K Q c_M_levelOf_40 kc ks loc (st) h = wps rm K Q c_M_levelOf_41 kc ks loc (.long (1) :: st) h := rfl
theorem s_M_levelOf_41 {x : Int64} {l0 l1 : Option Value} {l : eg_Lo} : wps rm K Q c_M_levelOf_41 kc ks (l0 :: l1 :: some (.long x) :: l) (st) h = wps rm K Q c_M_levelOf_42 kc ks (l0 :: l1 :: some (.long x) :: l) (.long x :: st) h := rfl
theorem s_M_levelOf_42 {x : Nat} {l : eg_Lo} : wps rm K Q c_M_levelOf_42 kc ks (some (.ref x) :: l) (st) h = wps rm K Q c_M_levelOf_43 kc ks (some (.ref x) :: l) (.ref x :: st) h := rfl
theorem s_M_levelOf_43 {x : Nat} : wps rm K Q c_M_levelOf_43 kc ks loc (.ref (x + 1) :: st) h = eg_gf h x 12 11 (fun v => wps rm K Q c_M_levelOf_46 kc ks loc (v :: st) h) := rfl
theorem s_M_levelOf_46 {x : Int32} {l0 : Option Value} {l : eg_Lo} : wps rm K Q c_M_levelOf_46 kc ks (l0 :: some (.int x) :: l) (st) h = wps rm K Q c_M_levelOf_47 kc ks (l0 :: some (.int x) :: l) (.int x :: st) h := rfl
theorem s_M_levelOf_47 {x : Nat} {i : Int32} : wps rm K Q c_M_levelOf_47 kc ks loc (.int i :: .ref (x + 1) :: st) h = eg_la h x i (fun v => wps rm K Q c_M_levelOf_48 kc ks loc (.long v :: st) h) := rfl
theorem s_M_levelOf_48  {a1 : Value} {a2 : Value} {a3 : Value} {a4 : Value} : wps rm K Q c_M_levelOf_48 kc ks loc (a4 :: a3 :: a2 :: a1 :: st) h = (st.length ≤ 4 ∧ eg_Cs n_M_isLess [a1, a2, a3, a4] h (fun v h9 => wps rm K Q c_M_levelOf_51 kc ks loc (v.toList ++ st) h9)) := eg_c0_4
theorem s_M_levelOf_51 {x : Int32} : wps rm K Q c_M_levelOf_51 kc ks loc (.int x :: st) h = ((x = 0 → K 60 kc ks loc st h) ∧ (¬ x = 0 → wps rm K Q c_M_levelOf_54 kc ks loc (st) h)) := rfl
theorem s_M_levelOf_54 {x : Int32} {l0 l1 l2 l3 : Option Value} {l9 : eg_Lo} : wps rm K Q c_M_levelOf_54 kc ks (l0 :: l1 :: l2 :: l3 :: some (.int x) :: l9) (st) h = wps rm K Q c_M_levelOf_57 kc ks (eg_set1 (l0 :: l1 :: l2 :: l3 :: some (.int x) :: l9) 4 (.int (x + (1)))) (st) h := rfl
theorem s_M_levelOf_57  : wps rm K Q c_M_levelOf_57 kc ks loc (st) h = K 33 kc ks loc st h := rfl
theorem s_M_levelOf_60 {x : Int32} {l0 l1 l2 l3 : Option Value} {l : eg_Lo} : wps rm K Q c_M_levelOf_60 kc ks (l0 :: l1 :: l2 :: l3 :: some (.int x) :: l) (st) h = wps rm K Q c_M_levelOf_62 kc ks (l0 :: l1 :: l2 :: l3 :: some (.int x) :: l) (.int x :: st) h := rfl
theorem s_M_levelOf_62 {x : Int32} : wps rm K Q c_M_levelOf_62 kc ks loc ([.int x]) h = (kc = rm.cells ∧ (0 = 1 → x = 0 ∨ x = 1) ∧ Q (some (.int x)) h) := rfl
def T_M_levelOf : List (Nat × List eg_I) := [(23, c_M_levelOf_23), (29, c_M_levelOf_29), (60, c_M_levelOf_60)]
theorem j_M_levelOf_23 {R : Nat → Nat → Nat → eg_Lo → List Value → List eg_E → Prop} {f pc0 : Nat} : eg_run rm R Q T_M_levelOf (f + 1) 23 kc ks loc st h = wps rm (eg_run rm R Q T_M_levelOf f) Q c_M_levelOf_23 kc ks loc st h := rfl
theorem j_M_levelOf_29 {R : Nat → Nat → Nat → eg_Lo → List Value → List eg_E → Prop} {f pc0 : Nat} : eg_run rm R Q T_M_levelOf (f + 1) 29 kc ks loc st h = wps rm (eg_run rm R Q T_M_levelOf f) Q c_M_levelOf_29 kc ks loc st h := rfl
theorem j_M_levelOf_60 {R : Nat → Nat → Nat → eg_Lo → List Value → List eg_E → Prop} {f pc0 : Nat} : eg_run rm R Q T_M_levelOf (f + 1) 60 kc ks loc st h = wps rm (eg_run rm R Q T_M_levelOf f) Q c_M_levelOf_60 kc ks loc st h := rfl
theorem j_M_levelOf_33 {R : Nat → Nat → Nat → eg_Lo → List Value → List eg_E → Prop} {f pc0 : Nat} : eg_run rm R Q T_M_levelOf (f + 1) 33 kc ks loc st h = R 33 kc ks loc st h := rfl
end
theorem q_M_levelOf : (T_M_levelOf.all fun q => eg_seq m_M_levelOf q.1 q.2) = true := by decide +kernel
theorem b_M_levelOf {as : List Value} {h : List eg_E} {Q : Option Value → List eg_E → Prop} (hf : (eg_fl as).length ≤ 5) (hw : wps (eg_rm m_M_levelOf) (eg_run (eg_rm m_M_levelOf) (eg_R m_M_levelOf Q (h.length + 0)) Q T_M_levelOf 5) Q c_M_levelOf_0 0 0 (eg_entry 5 as) [] h) : eg_Runs n_M_levelOf as h Q := eg_begin (d := m_M_levelOf) rfl (by decide) (by decide +kernel) q_M_levelOf hf hw
theorem p_M_levelOf_33 {Q : Option Value → List eg_E → Prop} {n0 kc ks : Nat} {loc : eg_Lo} {st : List Value} {h : List eg_E} (hw : wps (eg_rm m_M_levelOf) (eg_run (eg_rm m_M_levelOf) (eg_R m_M_levelOf Q n0) Q T_M_levelOf 5) Q c_M_levelOf_33 kc ks loc st h) : eg_R m_M_levelOf Q n0 33 kc ks loc st h := eg_go (by decide +kernel) q_M_levelOf hw
/-! ===== M_ask ===== -/
def c_M_ask_59 : List eg_I := .inl (59, 1, .lreturn, 0, 0) :: []
def c_M_ask_58 : List eg_I := .inl (58, 1, .sipush (0), 0, 0) :: c_M_ask_59
def c_M_ask_55 : List eg_I := .inl (55, 3, .goto (4), 59, 0) :: []
def c_M_ask_54 : List eg_I := .inl (54, 1, .sipush (1), 0, 0) :: c_M_ask_55
def c_M_ask_51 : List eg_I := .inl (51, 3, .if_icmp .gt (7), 58, 0) :: c_M_ask_54
def c_M_ask_50 : List eg_I := .inl (50, 1, .iload 2, 0, 0) :: c_M_ask_51
def c_M_ask_47 : List eg_I := .inr (47, 1, 270, n_M_levelOf, 1, 12, 0, 0) :: c_M_ask_50
def c_M_ask_46 : List eg_I := .inl (46, 1, .iload 1, 0, 0) :: c_M_ask_47
def c_M_ask_45 : List eg_I := .inl (45, 1, .aload 0, 0, 0) :: c_M_ask_46
def c_M_ask_42 : List eg_I := .inl (42, 3, .goto (17), 59, 0) :: []
def c_M_ask_39 : List eg_I := .inr (39, 1, 112, n_M_finding, 1, 12, 0, 0) :: c_M_ask_42
def c_M_ask_36 : List eg_I := .inl (36, 3, .sipush (-1000000000000000006), 138, 0) :: c_M_ask_39
def c_M_ask_35 : List eg_I := .inl (35, 1, .aload 0, 0, 0) :: c_M_ask_36
def c_M_ask_32 : List eg_I := .inl (32, 3, .ifCond .ne (13), 45, 0) :: c_M_ask_35
def c_M_ask_31 : List eg_I := .inl (31, 1, .iaload, 0, 0) :: c_M_ask_32
def c_M_ask_30 : List eg_I := .inl (30, 1, .iload 1, 0, 0) :: c_M_ask_31
def c_M_ask_27 : List eg_I := .inl (27, 3, .getfield 32, 12, 7) :: c_M_ask_30
def c_M_ask_26 : List eg_I := .inl (26, 1, .aload 0, 0, 0) :: c_M_ask_27
def c_M_ask_25 : List eg_I := .inl (25, 1, .lreturn, 0, 0) :: []
def c_M_ask_22 : List eg_I := .inr (22, 1, 112, n_M_finding, 1, 12, 0, 0) :: c_M_ask_25
def c_M_ask_19 : List eg_I := .inl (19, 3, .sipush (-1000000000000000001), 110, 0) :: c_M_ask_22
def c_M_ask_18 : List eg_I := .inl (18, 1, .aload 0, 0, 0) :: c_M_ask_19
def c_M_ask_15 : List eg_I := .inl (15, 3, .ifCond .ne (11), 26, 0) :: c_M_ask_18
def c_M_ask_12 : List eg_I := .inr (12, 0, 95, n_M_isIn, 3, 12, 0, 0) :: c_M_ask_15
def c_M_ask_9 : List eg_I := .inl (9, 3, .iconst (2000), 0, 0) :: c_M_ask_12
def c_M_ask_8 : List eg_I := .inl (8, 1, .iconst (0), 0, 0) :: c_M_ask_9
def c_M_ask_7 : List eg_I := .inl (7, 1, .iload 2, 0, 0) :: c_M_ask_8
def c_M_ask_4 : List eg_I := .inl (4, 3, .ifCond .eq (14), 18, 0) :: c_M_ask_7
def c_M_ask_1 : List eg_I := .inr (1, 0, 255, n_M_isFigure, 1, 12, 0, 0) :: c_M_ask_4
def c_M_ask_0 : List eg_I := .inl (0, 1, .iload 1, 0, 0) :: c_M_ask_1
section
variable {rm : Room} {K : Nat → Nat → Nat → eg_Lo → List Value → List eg_E → Prop} {Q : Option Value → List eg_E → Prop} {kc ks : Nat} {loc : eg_Lo} {st : List Value} {h : List eg_E}
theorem s_M_ask_0 {x : Int32} {l0 : Option Value} {l : eg_Lo} : wps rm K Q c_M_ask_0 kc ks (l0 :: some (.int x) :: l) (st) h = wps rm K Q c_M_ask_1 kc ks (l0 :: some (.int x) :: l) (.int x :: st) h := rfl
theorem s_M_ask_1  {a1 : Value} : wps rm K Q c_M_ask_1 kc ks loc (a1 :: st) h = (st.length ≤ 4 ∧ eg_Cs n_M_isFigure [a1] h (fun v h9 => wps rm K Q c_M_ask_4 kc ks loc (v.toList ++ st) h9)) := eg_c0_1
theorem s_M_ask_4 {x : Int32} : wps rm K Q c_M_ask_4 kc ks loc (.int x :: st) h = ((x = 0 → K 18 kc ks loc st h) ∧ (¬ x = 0 → wps rm K Q c_M_ask_7 kc ks loc (st) h)) := rfl
theorem s_M_ask_7 {x : Int32} {l0 l1 : Option Value} {l : eg_Lo} : wps rm K Q c_M_ask_7 kc ks (l0 :: l1 :: some (.int x) :: l) (st) h = wps rm K Q c_M_ask_8 kc ks (l0 :: l1 :: some (.int x) :: l) (.int x :: st) h := rfl
theorem s_M_ask_8  : wps rm K Q c_M_ask_8 kc ks loc (st) h = wps rm K Q c_M_ask_9 kc ks loc (.int (0) :: st) h := rfl
theorem s_M_ask_9  : wps rm K Q c_M_ask_9 kc ks loc (st) h = wps rm K Q c_M_ask_12 kc ks loc (.int (2000) :: st) h := rfl
theorem s_M_ask_12  {a1 : Value} {a2 : Value} {a3 : Value} : wps rm K Q c_M_ask_12 kc ks loc (a3 :: a2 :: a1 :: st) h = (st.length ≤ 4 ∧ eg_Cs n_M_isIn [a1, a2, a3] h (fun v h9 => wps rm K Q c_M_ask_15 kc ks loc (v.toList ++ st) h9)) := eg_c0_3
theorem s_M_ask_15 {x : Int32} : wps rm K Q c_M_ask_15 kc ks loc (.int x :: st) h = ((¬ x = 0 → K 26 kc ks loc st h) ∧ (x = 0 → wps rm K Q c_M_ask_18 kc ks loc (st) h)) := rfl
theorem s_M_ask_18 {x : Nat} {l : eg_Lo} : wps rm K Q c_M_ask_18 kc ks (some (.ref x) :: l) (st) h = wps rm K Q c_M_ask_19 kc ks (some (.ref x) :: l) (.ref x :: st) h := rfl
theorem s_M_ask_19  : wps rm K Q c_M_ask_19 kc ks loc (st) h = wps rm K Q c_M_ask_22 kc ks loc (.long (-1000000000000000001) :: st) h := rfl
theorem s_M_ask_22  {a1 : Value} {x : Nat} : wps rm K Q c_M_ask_22 kc ks loc (a1 :: .ref (x + 1) :: st) h = (eg_cls h x 12 ∧ st.length ≤ 4 ∧ eg_Cs n_M_finding (.ref (x + 1) :: [a1]) h (fun v h9 => wps rm K Q c_M_ask_25 kc ks loc (v.toList ++ st) h9)) := eg_c1_1
theorem s_M_ask_25 {x : Int64} : wps rm K Q c_M_ask_25 kc ks loc ([.long x]) h = (kc = rm.cells ∧ Q (some (.long x)) h) := rfl
theorem s_M_ask_26 {x : Nat} {l : eg_Lo} : wps rm K Q c_M_ask_26 kc ks (some (.ref x) :: l) (st) h = wps rm K Q c_M_ask_27 kc ks (some (.ref x) :: l) (.ref x :: st) h := rfl
theorem s_M_ask_27 {x : Nat} : wps rm K Q c_M_ask_27 kc ks loc (.ref (x + 1) :: st) h = eg_gf h x 12 7 (fun v => wps rm K Q c_M_ask_30 kc ks loc (v :: st) h) := rfl
theorem s_M_ask_30 {x : Int32} {l0 : Option Value} {l : eg_Lo} : wps rm K Q c_M_ask_30 kc ks (l0 :: some (.int x) :: l) (st) h = wps rm K Q c_M_ask_31 kc ks (l0 :: some (.int x) :: l) (.int x :: st) h := rfl
theorem s_M_ask_31 {x : Nat} {i : Int32} : wps rm K Q c_M_ask_31 kc ks loc (.int i :: .ref (x + 1) :: st) h = eg_ia h x i (fun v => wps rm K Q c_M_ask_32 kc ks loc (.int v :: st) h) := rfl
theorem s_M_ask_32 {x : Int32} : wps rm K Q c_M_ask_32 kc ks loc (.int x :: st) h = ((¬ x = 0 → K 45 kc ks loc st h) ∧ (x = 0 → wps rm K Q c_M_ask_35 kc ks loc (st) h)) := rfl
theorem s_M_ask_35 {x : Nat} {l : eg_Lo} : wps rm K Q c_M_ask_35 kc ks (some (.ref x) :: l) (st) h = wps rm K Q c_M_ask_36 kc ks (some (.ref x) :: l) (.ref x :: st) h := rfl
theorem s_M_ask_36  : wps rm K Q c_M_ask_36 kc ks loc (st) h = wps rm K Q c_M_ask_39 kc ks loc (.long (-1000000000000000006) :: st) h := rfl
theorem s_M_ask_39  {a1 : Value} {x : Nat} : wps rm K Q c_M_ask_39 kc ks loc (a1 :: .ref (x + 1) :: st) h = (eg_cls h x 12 ∧ st.length ≤ 4 ∧ eg_Cs n_M_finding (.ref (x + 1) :: [a1]) h (fun v h9 => wps rm K Q c_M_ask_42 kc ks loc (v.toList ++ st) h9)) := eg_c1_1
theorem s_M_ask_42  : wps rm K Q c_M_ask_42 kc ks loc (st) h = K 59 kc ks loc st h := rfl
theorem s_M_ask_45 {x : Nat} {l : eg_Lo} : wps rm K Q c_M_ask_45 kc ks (some (.ref x) :: l) (st) h = wps rm K Q c_M_ask_46 kc ks (some (.ref x) :: l) (.ref x :: st) h := rfl
theorem s_M_ask_46 {x : Int32} {l0 : Option Value} {l : eg_Lo} : wps rm K Q c_M_ask_46 kc ks (l0 :: some (.int x) :: l) (st) h = wps rm K Q c_M_ask_47 kc ks (l0 :: some (.int x) :: l) (.int x :: st) h := rfl
theorem s_M_ask_47  {a1 : Value} {x : Nat} : wps rm K Q c_M_ask_47 kc ks loc (a1 :: .ref (x + 1) :: st) h = (eg_cls h x 12 ∧ st.length ≤ 4 ∧ eg_Cs n_M_levelOf (.ref (x + 1) :: [a1]) h (fun v h9 => wps rm K Q c_M_ask_50 kc ks loc (v.toList ++ st) h9)) := eg_c1_1
theorem s_M_ask_50 {x : Int32} {l0 l1 : Option Value} {l : eg_Lo} : wps rm K Q c_M_ask_50 kc ks (l0 :: l1 :: some (.int x) :: l) (st) h = wps rm K Q c_M_ask_51 kc ks (l0 :: l1 :: some (.int x) :: l) (.int x :: st) h := rfl
theorem s_M_ask_51 {x y : Int32} : wps rm K Q c_M_ask_51 kc ks loc (.int y :: .int x :: st) h = ((y < x → K 58 kc ks loc st h) ∧ (¬ y < x → wps rm K Q c_M_ask_54 kc ks loc (st) h)) := rfl
theorem s_M_ask_54  : wps rm K Q c_M_ask_54 kc ks loc (st) h = wps rm K Q c_M_ask_55 kc ks loc (.long (1) :: st) h := rfl
theorem s_M_ask_55  : wps rm K Q c_M_ask_55 kc ks loc (st) h = K 59 kc ks loc st h := rfl
theorem s_M_ask_58  : wps rm K Q c_M_ask_58 kc ks loc (st) h = wps rm K Q c_M_ask_59 kc ks loc (.long (0) :: st) h := rfl
theorem s_M_ask_59 {x : Int64} : wps rm K Q c_M_ask_59 kc ks loc ([.long x]) h = (kc = rm.cells ∧ Q (some (.long x)) h) := rfl
def T_M_ask : List (Nat × List eg_I) := [(18, c_M_ask_18), (26, c_M_ask_26), (45, c_M_ask_45), (58, c_M_ask_58), (59, c_M_ask_59)]
theorem j_M_ask_18 {R : Nat → Nat → Nat → eg_Lo → List Value → List eg_E → Prop} {f pc0 : Nat} : eg_run rm R Q T_M_ask (f + 1) 18 kc ks loc st h = wps rm (eg_run rm R Q T_M_ask f) Q c_M_ask_18 kc ks loc st h := rfl
theorem j_M_ask_26 {R : Nat → Nat → Nat → eg_Lo → List Value → List eg_E → Prop} {f pc0 : Nat} : eg_run rm R Q T_M_ask (f + 1) 26 kc ks loc st h = wps rm (eg_run rm R Q T_M_ask f) Q c_M_ask_26 kc ks loc st h := rfl
theorem j_M_ask_45 {R : Nat → Nat → Nat → eg_Lo → List Value → List eg_E → Prop} {f pc0 : Nat} : eg_run rm R Q T_M_ask (f + 1) 45 kc ks loc st h = wps rm (eg_run rm R Q T_M_ask f) Q c_M_ask_45 kc ks loc st h := rfl
theorem j_M_ask_58 {R : Nat → Nat → Nat → eg_Lo → List Value → List eg_E → Prop} {f pc0 : Nat} : eg_run rm R Q T_M_ask (f + 1) 58 kc ks loc st h = wps rm (eg_run rm R Q T_M_ask f) Q c_M_ask_58 kc ks loc st h := rfl
theorem j_M_ask_59 {R : Nat → Nat → Nat → eg_Lo → List Value → List eg_E → Prop} {f pc0 : Nat} : eg_run rm R Q T_M_ask (f + 1) 59 kc ks loc st h = wps rm (eg_run rm R Q T_M_ask f) Q c_M_ask_59 kc ks loc st h := rfl
end
theorem q_M_ask : (T_M_ask.all fun q => eg_seq m_M_ask q.1 q.2) = true := by decide +kernel
theorem b_M_ask {as : List Value} {h : List eg_E} {Q : Option Value → List eg_E → Prop} (hf : (eg_fl as).length ≤ 3) (hw : wps (eg_rm m_M_ask) (eg_run (eg_rm m_M_ask) (eg_R m_M_ask Q (h.length + 0)) Q T_M_ask 7) Q c_M_ask_0 0 0 (eg_entry 3 as) [] h) : eg_Runs n_M_ask as h Q := eg_begin (d := m_M_ask) rfl (by decide) (by decide +kernel) q_M_ask hf hw
/-! ===== M_level ===== -/
def c_M_level_40 : List eg_I := .inl (40, 1, .lreturn, 0, 0) :: []
def c_M_level_39 : List eg_I := .inl (39, 1, .i2l, 0, 0) :: c_M_level_40
def c_M_level_36 : List eg_I := .inr (36, 1, 270, n_M_levelOf, 1, 12, 0, 0) :: c_M_level_39
def c_M_level_35 : List eg_I := .inl (35, 1, .iload 1, 0, 0) :: c_M_level_36
def c_M_level_34 : List eg_I := .inl (34, 1, .aload 0, 0, 0) :: c_M_level_35
def c_M_level_31 : List eg_I := .inl (31, 3, .goto (9), 40, 0) :: []
def c_M_level_28 : List eg_I := .inr (28, 1, 112, n_M_finding, 1, 12, 0, 0) :: c_M_level_31
def c_M_level_25 : List eg_I := .inl (25, 3, .sipush (-1000000000000000006), 138, 0) :: c_M_level_28
def c_M_level_24 : List eg_I := .inl (24, 1, .aload 0, 0, 0) :: c_M_level_25
def c_M_level_21 : List eg_I := .inl (21, 3, .ifCond .ne (13), 34, 0) :: c_M_level_24
def c_M_level_20 : List eg_I := .inl (20, 1, .iaload, 0, 0) :: c_M_level_21
def c_M_level_19 : List eg_I := .inl (19, 1, .iload 1, 0, 0) :: c_M_level_20
def c_M_level_16 : List eg_I := .inl (16, 3, .getfield 32, 12, 7) :: c_M_level_19
def c_M_level_15 : List eg_I := .inl (15, 1, .aload 0, 0, 0) :: c_M_level_16
def c_M_level_14 : List eg_I := .inl (14, 1, .lreturn, 0, 0) :: []
def c_M_level_11 : List eg_I := .inr (11, 1, 112, n_M_finding, 1, 12, 0, 0) :: c_M_level_14
def c_M_level_8 : List eg_I := .inl (8, 3, .sipush (-1000000000000000001), 110, 0) :: c_M_level_11
def c_M_level_7 : List eg_I := .inl (7, 1, .aload 0, 0, 0) :: c_M_level_8
def c_M_level_4 : List eg_I := .inl (4, 3, .ifCond .ne (11), 15, 0) :: c_M_level_7
def c_M_level_1 : List eg_I := .inr (1, 0, 255, n_M_isFigure, 1, 12, 0, 0) :: c_M_level_4
def c_M_level_0 : List eg_I := .inl (0, 1, .iload 1, 0, 0) :: c_M_level_1
section
variable {rm : Room} {K : Nat → Nat → Nat → eg_Lo → List Value → List eg_E → Prop} {Q : Option Value → List eg_E → Prop} {kc ks : Nat} {loc : eg_Lo} {st : List Value} {h : List eg_E}
theorem s_M_level_0 {x : Int32} {l0 : Option Value} {l : eg_Lo} : wps rm K Q c_M_level_0 kc ks (l0 :: some (.int x) :: l) (st) h = wps rm K Q c_M_level_1 kc ks (l0 :: some (.int x) :: l) (.int x :: st) h := rfl
theorem s_M_level_1  {a1 : Value} : wps rm K Q c_M_level_1 kc ks loc (a1 :: st) h = (st.length ≤ 4 ∧ eg_Cs n_M_isFigure [a1] h (fun v h9 => wps rm K Q c_M_level_4 kc ks loc (v.toList ++ st) h9)) := eg_c0_1
theorem s_M_level_4 {x : Int32} : wps rm K Q c_M_level_4 kc ks loc (.int x :: st) h = ((¬ x = 0 → K 15 kc ks loc st h) ∧ (x = 0 → wps rm K Q c_M_level_7 kc ks loc (st) h)) := rfl
theorem s_M_level_7 {x : Nat} {l : eg_Lo} : wps rm K Q c_M_level_7 kc ks (some (.ref x) :: l) (st) h = wps rm K Q c_M_level_8 kc ks (some (.ref x) :: l) (.ref x :: st) h := rfl
theorem s_M_level_8  : wps rm K Q c_M_level_8 kc ks loc (st) h = wps rm K Q c_M_level_11 kc ks loc (.long (-1000000000000000001) :: st) h := rfl
theorem s_M_level_11  {a1 : Value} {x : Nat} : wps rm K Q c_M_level_11 kc ks loc (a1 :: .ref (x + 1) :: st) h = (eg_cls h x 12 ∧ st.length ≤ 4 ∧ eg_Cs n_M_finding (.ref (x + 1) :: [a1]) h (fun v h9 => wps rm K Q c_M_level_14 kc ks loc (v.toList ++ st) h9)) := eg_c1_1
theorem s_M_level_14 {x : Int64} : wps rm K Q c_M_level_14 kc ks loc ([.long x]) h = (kc = rm.cells ∧ Q (some (.long x)) h) := rfl
theorem s_M_level_15 {x : Nat} {l : eg_Lo} : wps rm K Q c_M_level_15 kc ks (some (.ref x) :: l) (st) h = wps rm K Q c_M_level_16 kc ks (some (.ref x) :: l) (.ref x :: st) h := rfl
theorem s_M_level_16 {x : Nat} : wps rm K Q c_M_level_16 kc ks loc (.ref (x + 1) :: st) h = eg_gf h x 12 7 (fun v => wps rm K Q c_M_level_19 kc ks loc (v :: st) h) := rfl
theorem s_M_level_19 {x : Int32} {l0 : Option Value} {l : eg_Lo} : wps rm K Q c_M_level_19 kc ks (l0 :: some (.int x) :: l) (st) h = wps rm K Q c_M_level_20 kc ks (l0 :: some (.int x) :: l) (.int x :: st) h := rfl
theorem s_M_level_20 {x : Nat} {i : Int32} : wps rm K Q c_M_level_20 kc ks loc (.int i :: .ref (x + 1) :: st) h = eg_ia h x i (fun v => wps rm K Q c_M_level_21 kc ks loc (.int v :: st) h) := rfl
theorem s_M_level_21 {x : Int32} : wps rm K Q c_M_level_21 kc ks loc (.int x :: st) h = ((¬ x = 0 → K 34 kc ks loc st h) ∧ (x = 0 → wps rm K Q c_M_level_24 kc ks loc (st) h)) := rfl
theorem s_M_level_24 {x : Nat} {l : eg_Lo} : wps rm K Q c_M_level_24 kc ks (some (.ref x) :: l) (st) h = wps rm K Q c_M_level_25 kc ks (some (.ref x) :: l) (.ref x :: st) h := rfl
theorem s_M_level_25  : wps rm K Q c_M_level_25 kc ks loc (st) h = wps rm K Q c_M_level_28 kc ks loc (.long (-1000000000000000006) :: st) h := rfl
theorem s_M_level_28  {a1 : Value} {x : Nat} : wps rm K Q c_M_level_28 kc ks loc (a1 :: .ref (x + 1) :: st) h = (eg_cls h x 12 ∧ st.length ≤ 4 ∧ eg_Cs n_M_finding (.ref (x + 1) :: [a1]) h (fun v h9 => wps rm K Q c_M_level_31 kc ks loc (v.toList ++ st) h9)) := eg_c1_1
theorem s_M_level_31  : wps rm K Q c_M_level_31 kc ks loc (st) h = K 40 kc ks loc st h := rfl
theorem s_M_level_34 {x : Nat} {l : eg_Lo} : wps rm K Q c_M_level_34 kc ks (some (.ref x) :: l) (st) h = wps rm K Q c_M_level_35 kc ks (some (.ref x) :: l) (.ref x :: st) h := rfl
theorem s_M_level_35 {x : Int32} {l0 : Option Value} {l : eg_Lo} : wps rm K Q c_M_level_35 kc ks (l0 :: some (.int x) :: l) (st) h = wps rm K Q c_M_level_36 kc ks (l0 :: some (.int x) :: l) (.int x :: st) h := rfl
theorem s_M_level_36  {a1 : Value} {x : Nat} : wps rm K Q c_M_level_36 kc ks loc (a1 :: .ref (x + 1) :: st) h = (eg_cls h x 12 ∧ st.length ≤ 4 ∧ eg_Cs n_M_levelOf (.ref (x + 1) :: [a1]) h (fun v h9 => wps rm K Q c_M_level_39 kc ks loc (v.toList ++ st) h9)) := eg_c1_1
theorem s_M_level_39 {x : Int32} : wps rm K Q c_M_level_39 kc ks loc (.int x :: st) h = wps rm K Q c_M_level_40 kc ks loc (.long (x.toInt64) :: st) h := rfl
theorem s_M_level_40 {x : Int64} : wps rm K Q c_M_level_40 kc ks loc ([.long x]) h = (kc = rm.cells ∧ Q (some (.long x)) h) := rfl
def T_M_level : List (Nat × List eg_I) := [(15, c_M_level_15), (34, c_M_level_34), (40, c_M_level_40)]
theorem j_M_level_15 {R : Nat → Nat → Nat → eg_Lo → List Value → List eg_E → Prop} {f pc0 : Nat} : eg_run rm R Q T_M_level (f + 1) 15 kc ks loc st h = wps rm (eg_run rm R Q T_M_level f) Q c_M_level_15 kc ks loc st h := rfl
theorem j_M_level_34 {R : Nat → Nat → Nat → eg_Lo → List Value → List eg_E → Prop} {f pc0 : Nat} : eg_run rm R Q T_M_level (f + 1) 34 kc ks loc st h = wps rm (eg_run rm R Q T_M_level f) Q c_M_level_34 kc ks loc st h := rfl
theorem j_M_level_40 {R : Nat → Nat → Nat → eg_Lo → List Value → List eg_E → Prop} {f pc0 : Nat} : eg_run rm R Q T_M_level (f + 1) 40 kc ks loc st h = wps rm (eg_run rm R Q T_M_level f) Q c_M_level_40 kc ks loc st h := rfl
end
theorem q_M_level : (T_M_level.all fun q => eg_seq m_M_level q.1 q.2) = true := by decide +kernel
theorem b_M_level {as : List Value} {h : List eg_E} {Q : Option Value → List eg_E → Prop} (hf : (eg_fl as).length ≤ 2) (hw : wps (eg_rm m_M_level) (eg_run (eg_rm m_M_level) (eg_R m_M_level Q (h.length + 0)) Q T_M_level 5) Q c_M_level_0 0 0 (eg_entry 2 as) [] h) : eg_Runs n_M_level as h Q := eg_begin (d := m_M_level) rfl (by decide) (by decide +kernel) q_M_level hf hw
/-! ===== M_more ===== -/
def c_M_more_133 : List eg_I := .inl (133, 1, .lreturn, 0, 0) :: []
def c_M_more_132 : List eg_I := .inl (132, 1, .sipush (0), 0, 0) :: c_M_more_133
def c_M_more_129 : List eg_I := .inl (129, 3, .goto (4), 133, 0) :: []
def c_M_more_128 : List eg_I := .inl (128, 1, .sipush (1), 0, 0) :: c_M_more_129
def c_M_more_125 : List eg_I := .inl (125, 3, .if_icmp .gt (7), 132, 0) :: c_M_more_128
def c_M_more_124 : List eg_I := .inl (124, 1, .iadd, 0, 0) :: c_M_more_125
def c_M_more_123 : List eg_I := .inl (123, 1, .iconst (0), 0, 0) :: c_M_more_124
def c_M_more_120 : List eg_I := .inl (120, 3, .goto (4), 124, 0) :: []
def c_M_more_118 : List eg_I := .inl (118, 2, .iload 5, 0, 0) :: c_M_more_120
def c_M_more_115 : List eg_I := .inl (115, 3, .ifCond .le (8), 123, 0) :: c_M_more_118
def c_M_more_113 : List eg_I := .inl (113, 2, .iload 5, 0, 0) :: c_M_more_115
def c_M_more_112 : List eg_I := .inl (112, 1, .iload 2, 0, 0) :: c_M_more_113
def c_M_more_109 : List eg_I := .inr (109, 1, 270, n_M_levelOf, 1, 12, 0, 0) :: c_M_more_112
def c_M_more_108 : List eg_I := .inl (108, 1, .iload 1, 0, 0) :: c_M_more_109
def c_M_more_107 : List eg_I := .inl (107, 1, .aload 0, 0, 0) :: c_M_more_108
def c_M_more_105 : List eg_I := .inl (105, 2, .istore 5, 0, 0) :: c_M_more_107
def c_M_more_104 : List eg_I := .inl (104, 1, .isub, 0, 0) :: c_M_more_105
def c_M_more_101 : List eg_I := .inr (101, 1, 270, n_M_levelOf, 1, 12, 0, 0) :: c_M_more_104
def c_M_more_100 : List eg_I := .inl (100, 1, .iload 3, 0, 0) :: c_M_more_101
def c_M_more_99 : List eg_I := .inl (99, 1, .aload 0, 0, 0) :: c_M_more_100
def c_M_more_97 : List eg_I := .inl (97, 2, .iload 4, 0, 0) :: c_M_more_99
def c_M_more_96 : List eg_I := .inl (96, 1, .lreturn, 0, 0) :: []
def c_M_more_93 : List eg_I := .inr (93, 1, 112, n_M_finding, 1, 12, 0, 0) :: c_M_more_96
def c_M_more_90 : List eg_I := .inl (90, 3, .sipush (-1000000000000000004), 147, 0) :: c_M_more_93
def c_M_more_89 : List eg_I := .inl (89, 1, .aload 0, 0, 0) :: c_M_more_90
def c_M_more_86 : List eg_I := .inl (86, 3, .if_icmp .eq (11), 97, 0) :: c_M_more_89
def c_M_more_85 : List eg_I := .inl (85, 1, .iconst (5), 0, 0) :: c_M_more_86
def c_M_more_84 : List eg_I := .inl (84, 1, .iaload, 0, 0) :: c_M_more_85
def c_M_more_83 : List eg_I := .inl (83, 1, .iload 3, 0, 0) :: c_M_more_84
def c_M_more_80 : List eg_I := .inl (80, 3, .getfield 32, 12, 7) :: c_M_more_83
def c_M_more_79 : List eg_I := .inl (79, 1, .aload 0, 0, 0) :: c_M_more_80
def c_M_more_76 : List eg_I := .inl (76, 3, .ifCond .eq (13), 89, 0) :: c_M_more_79
def c_M_more_73 : List eg_I := .inr (73, 1, 267, n_M_isFlat, 1, 12, 0, 0) :: c_M_more_76
def c_M_more_72 : List eg_I := .inl (72, 1, .iload 1, 0, 0) :: c_M_more_73
def c_M_more_71 : List eg_I := .inl (71, 1, .aload 0, 0, 0) :: c_M_more_72
def c_M_more_70 : List eg_I := .inl (70, 1, .lreturn, 0, 0) :: []
def c_M_more_67 : List eg_I := .inr (67, 1, 112, n_M_finding, 1, 12, 0, 0) :: c_M_more_70
def c_M_more_64 : List eg_I := .inl (64, 3, .sipush (-1000000000000000006), 138, 0) :: c_M_more_67
def c_M_more_63 : List eg_I := .inl (63, 1, .aload 0, 0, 0) :: c_M_more_64
def c_M_more_60 : List eg_I := .inl (60, 3, .ifCond .ne (11), 71, 0) :: c_M_more_63
def c_M_more_59 : List eg_I := .inl (59, 1, .iaload, 0, 0) :: c_M_more_60
def c_M_more_58 : List eg_I := .inl (58, 1, .iload 3, 0, 0) :: c_M_more_59
def c_M_more_55 : List eg_I := .inl (55, 3, .getfield 32, 12, 7) :: c_M_more_58
def c_M_more_54 : List eg_I := .inl (54, 1, .aload 0, 0, 0) :: c_M_more_55
def c_M_more_51 : List eg_I := .inl (51, 3, .ifCond .eq (12), 63, 0) :: c_M_more_54
def c_M_more_50 : List eg_I := .inl (50, 1, .iaload, 0, 0) :: c_M_more_51
def c_M_more_49 : List eg_I := .inl (49, 1, .iload 1, 0, 0) :: c_M_more_50
def c_M_more_46 : List eg_I := .inl (46, 3, .getfield 32, 12, 7) :: c_M_more_49
def c_M_more_45 : List eg_I := .inl (45, 1, .aload 0, 0, 0) :: c_M_more_46
def c_M_more_44 : List eg_I := .inl (44, 1, .lreturn, 0, 0) :: []
def c_M_more_41 : List eg_I := .inr (41, 1, 112, n_M_finding, 1, 12, 0, 0) :: c_M_more_44
def c_M_more_38 : List eg_I := .inl (38, 3, .sipush (-1000000000000000001), 110, 0) :: c_M_more_41
def c_M_more_37 : List eg_I := .inl (37, 1, .aload 0, 0, 0) :: c_M_more_38
def c_M_more_34 : List eg_I := .inl (34, 3, .ifCond .ne (11), 45, 0) :: c_M_more_37
def c_M_more_31 : List eg_I := .inr (31, 0, 95, n_M_isIn, 3, 12, 0, 0) :: c_M_more_34
def c_M_more_28 : List eg_I := .inl (28, 3, .iconst (2000), 0, 0) :: c_M_more_31
def c_M_more_27 : List eg_I := .inl (27, 1, .iconst (0), 0, 0) :: c_M_more_28
def c_M_more_25 : List eg_I := .inl (25, 2, .iload 4, 0, 0) :: c_M_more_27
def c_M_more_22 : List eg_I := .inl (22, 3, .ifCond .eq (15), 37, 0) :: c_M_more_25
def c_M_more_19 : List eg_I := .inr (19, 0, 95, n_M_isIn, 3, 12, 0, 0) :: c_M_more_22
def c_M_more_16 : List eg_I := .inl (16, 3, .iconst (2000), 0, 0) :: c_M_more_19
def c_M_more_15 : List eg_I := .inl (15, 1, .iconst (0), 0, 0) :: c_M_more_16
def c_M_more_14 : List eg_I := .inl (14, 1, .iload 2, 0, 0) :: c_M_more_15
def c_M_more_11 : List eg_I := .inl (11, 3, .ifCond .eq (26), 37, 0) :: c_M_more_14
def c_M_more_8 : List eg_I := .inr (8, 0, 255, n_M_isFigure, 1, 12, 0, 0) :: c_M_more_11
def c_M_more_7 : List eg_I := .inl (7, 1, .iload 3, 0, 0) :: c_M_more_8
def c_M_more_4 : List eg_I := .inl (4, 3, .ifCond .eq (33), 37, 0) :: c_M_more_7
def c_M_more_1 : List eg_I := .inr (1, 0, 255, n_M_isFigure, 1, 12, 0, 0) :: c_M_more_4
def c_M_more_0 : List eg_I := .inl (0, 1, .iload 1, 0, 0) :: c_M_more_1
section
variable {rm : Room} {K : Nat → Nat → Nat → eg_Lo → List Value → List eg_E → Prop} {Q : Option Value → List eg_E → Prop} {kc ks : Nat} {loc : eg_Lo} {st : List Value} {h : List eg_E}
theorem s_M_more_0 {x : Int32} {l0 : Option Value} {l : eg_Lo} : wps rm K Q c_M_more_0 kc ks (l0 :: some (.int x) :: l) (st) h = wps rm K Q c_M_more_1 kc ks (l0 :: some (.int x) :: l) (.int x :: st) h := rfl
theorem s_M_more_1  {a1 : Value} : wps rm K Q c_M_more_1 kc ks loc (a1 :: st) h = (st.length ≤ 4 ∧ eg_Cs n_M_isFigure [a1] h (fun v h9 => wps rm K Q c_M_more_4 kc ks loc (v.toList ++ st) h9)) := eg_c0_1
theorem s_M_more_4 {x : Int32} : wps rm K Q c_M_more_4 kc ks loc (.int x :: st) h = ((x = 0 → K 37 kc ks loc st h) ∧ (¬ x = 0 → wps rm K Q c_M_more_7 kc ks loc (st) h)) := rfl
theorem s_M_more_7 {x : Int32} {l0 l1 l2 : Option Value} {l : eg_Lo} : wps rm K Q c_M_more_7 kc ks (l0 :: l1 :: l2 :: some (.int x) :: l) (st) h = wps rm K Q c_M_more_8 kc ks (l0 :: l1 :: l2 :: some (.int x) :: l) (.int x :: st) h := rfl
theorem s_M_more_8  {a1 : Value} : wps rm K Q c_M_more_8 kc ks loc (a1 :: st) h = (st.length ≤ 4 ∧ eg_Cs n_M_isFigure [a1] h (fun v h9 => wps rm K Q c_M_more_11 kc ks loc (v.toList ++ st) h9)) := eg_c0_1
theorem s_M_more_11 {x : Int32} : wps rm K Q c_M_more_11 kc ks loc (.int x :: st) h = ((x = 0 → K 37 kc ks loc st h) ∧ (¬ x = 0 → wps rm K Q c_M_more_14 kc ks loc (st) h)) := rfl
theorem s_M_more_14 {x : Int32} {l0 l1 : Option Value} {l : eg_Lo} : wps rm K Q c_M_more_14 kc ks (l0 :: l1 :: some (.int x) :: l) (st) h = wps rm K Q c_M_more_15 kc ks (l0 :: l1 :: some (.int x) :: l) (.int x :: st) h := rfl
theorem s_M_more_15  : wps rm K Q c_M_more_15 kc ks loc (st) h = wps rm K Q c_M_more_16 kc ks loc (.int (0) :: st) h := rfl
theorem s_M_more_16  : wps rm K Q c_M_more_16 kc ks loc (st) h = wps rm K Q c_M_more_19 kc ks loc (.int (2000) :: st) h := rfl
theorem s_M_more_19  {a1 : Value} {a2 : Value} {a3 : Value} : wps rm K Q c_M_more_19 kc ks loc (a3 :: a2 :: a1 :: st) h = (st.length ≤ 4 ∧ eg_Cs n_M_isIn [a1, a2, a3] h (fun v h9 => wps rm K Q c_M_more_22 kc ks loc (v.toList ++ st) h9)) := eg_c0_3
theorem s_M_more_22 {x : Int32} : wps rm K Q c_M_more_22 kc ks loc (.int x :: st) h = ((x = 0 → K 37 kc ks loc st h) ∧ (¬ x = 0 → wps rm K Q c_M_more_25 kc ks loc (st) h)) := rfl
theorem s_M_more_25 {x : Int32} {l0 l1 l2 l3 : Option Value} {l : eg_Lo} : wps rm K Q c_M_more_25 kc ks (l0 :: l1 :: l2 :: l3 :: some (.int x) :: l) (st) h = wps rm K Q c_M_more_27 kc ks (l0 :: l1 :: l2 :: l3 :: some (.int x) :: l) (.int x :: st) h := rfl
theorem s_M_more_27  : wps rm K Q c_M_more_27 kc ks loc (st) h = wps rm K Q c_M_more_28 kc ks loc (.int (0) :: st) h := rfl
theorem s_M_more_28  : wps rm K Q c_M_more_28 kc ks loc (st) h = wps rm K Q c_M_more_31 kc ks loc (.int (2000) :: st) h := rfl
theorem s_M_more_31  {a1 : Value} {a2 : Value} {a3 : Value} : wps rm K Q c_M_more_31 kc ks loc (a3 :: a2 :: a1 :: st) h = (st.length ≤ 4 ∧ eg_Cs n_M_isIn [a1, a2, a3] h (fun v h9 => wps rm K Q c_M_more_34 kc ks loc (v.toList ++ st) h9)) := eg_c0_3
theorem s_M_more_34 {x : Int32} : wps rm K Q c_M_more_34 kc ks loc (.int x :: st) h = ((¬ x = 0 → K 45 kc ks loc st h) ∧ (x = 0 → wps rm K Q c_M_more_37 kc ks loc (st) h)) := rfl
theorem s_M_more_37 {x : Nat} {l : eg_Lo} : wps rm K Q c_M_more_37 kc ks (some (.ref x) :: l) (st) h = wps rm K Q c_M_more_38 kc ks (some (.ref x) :: l) (.ref x :: st) h := rfl
theorem s_M_more_38  : wps rm K Q c_M_more_38 kc ks loc (st) h = wps rm K Q c_M_more_41 kc ks loc (.long (-1000000000000000001) :: st) h := rfl
theorem s_M_more_41  {a1 : Value} {x : Nat} : wps rm K Q c_M_more_41 kc ks loc (a1 :: .ref (x + 1) :: st) h = (eg_cls h x 12 ∧ st.length ≤ 4 ∧ eg_Cs n_M_finding (.ref (x + 1) :: [a1]) h (fun v h9 => wps rm K Q c_M_more_44 kc ks loc (v.toList ++ st) h9)) := eg_c1_1
theorem s_M_more_44 {x : Int64} : wps rm K Q c_M_more_44 kc ks loc ([.long x]) h = (kc = rm.cells ∧ Q (some (.long x)) h) := rfl
theorem s_M_more_45 {x : Nat} {l : eg_Lo} : wps rm K Q c_M_more_45 kc ks (some (.ref x) :: l) (st) h = wps rm K Q c_M_more_46 kc ks (some (.ref x) :: l) (.ref x :: st) h := rfl
theorem s_M_more_46 {x : Nat} : wps rm K Q c_M_more_46 kc ks loc (.ref (x + 1) :: st) h = eg_gf h x 12 7 (fun v => wps rm K Q c_M_more_49 kc ks loc (v :: st) h) := rfl
theorem s_M_more_49 {x : Int32} {l0 : Option Value} {l : eg_Lo} : wps rm K Q c_M_more_49 kc ks (l0 :: some (.int x) :: l) (st) h = wps rm K Q c_M_more_50 kc ks (l0 :: some (.int x) :: l) (.int x :: st) h := rfl
theorem s_M_more_50 {x : Nat} {i : Int32} : wps rm K Q c_M_more_50 kc ks loc (.int i :: .ref (x + 1) :: st) h = eg_ia h x i (fun v => wps rm K Q c_M_more_51 kc ks loc (.int v :: st) h) := rfl
theorem s_M_more_51 {x : Int32} : wps rm K Q c_M_more_51 kc ks loc (.int x :: st) h = ((x = 0 → K 63 kc ks loc st h) ∧ (¬ x = 0 → wps rm K Q c_M_more_54 kc ks loc (st) h)) := rfl
theorem s_M_more_54 {x : Nat} {l : eg_Lo} : wps rm K Q c_M_more_54 kc ks (some (.ref x) :: l) (st) h = wps rm K Q c_M_more_55 kc ks (some (.ref x) :: l) (.ref x :: st) h := rfl
theorem s_M_more_55 {x : Nat} : wps rm K Q c_M_more_55 kc ks loc (.ref (x + 1) :: st) h = eg_gf h x 12 7 (fun v => wps rm K Q c_M_more_58 kc ks loc (v :: st) h) := rfl
theorem s_M_more_58 {x : Int32} {l0 l1 l2 : Option Value} {l : eg_Lo} : wps rm K Q c_M_more_58 kc ks (l0 :: l1 :: l2 :: some (.int x) :: l) (st) h = wps rm K Q c_M_more_59 kc ks (l0 :: l1 :: l2 :: some (.int x) :: l) (.int x :: st) h := rfl
theorem s_M_more_59 {x : Nat} {i : Int32} : wps rm K Q c_M_more_59 kc ks loc (.int i :: .ref (x + 1) :: st) h = eg_ia h x i (fun v => wps rm K Q c_M_more_60 kc ks loc (.int v :: st) h) := rfl
theorem s_M_more_60 {x : Int32} : wps rm K Q c_M_more_60 kc ks loc (.int x :: st) h = ((¬ x = 0 → K 71 kc ks loc st h) ∧ (x = 0 → wps rm K Q c_M_more_63 kc ks loc (st) h)) := rfl
theorem s_M_more_63 {x : Nat} {l : eg_Lo} : wps rm K Q c_M_more_63 kc ks (some (.ref x) :: l) (st) h = wps rm K Q c_M_more_64 kc ks (some (.ref x) :: l) (.ref x :: st) h := rfl
theorem s_M_more_64  : wps rm K Q c_M_more_64 kc ks loc (st) h = wps rm K Q c_M_more_67 kc ks loc (.long (-1000000000000000006) :: st) h := rfl
theorem s_M_more_67  {a1 : Value} {x : Nat} : wps rm K Q c_M_more_67 kc ks loc (a1 :: .ref (x + 1) :: st) h = (eg_cls h x 12 ∧ st.length ≤ 4 ∧ eg_Cs n_M_finding (.ref (x + 1) :: [a1]) h (fun v h9 => wps rm K Q c_M_more_70 kc ks loc (v.toList ++ st) h9)) := eg_c1_1
theorem s_M_more_70 {x : Int64} : wps rm K Q c_M_more_70 kc ks loc ([.long x]) h = (kc = rm.cells ∧ Q (some (.long x)) h) := rfl
theorem s_M_more_71 {x : Nat} {l : eg_Lo} : wps rm K Q c_M_more_71 kc ks (some (.ref x) :: l) (st) h = wps rm K Q c_M_more_72 kc ks (some (.ref x) :: l) (.ref x :: st) h := rfl
theorem s_M_more_72 {x : Int32} {l0 : Option Value} {l : eg_Lo} : wps rm K Q c_M_more_72 kc ks (l0 :: some (.int x) :: l) (st) h = wps rm K Q c_M_more_73 kc ks (l0 :: some (.int x) :: l) (.int x :: st) h := rfl
theorem s_M_more_73  {a1 : Value} {x : Nat} : wps rm K Q c_M_more_73 kc ks loc (a1 :: .ref (x + 1) :: st) h = (eg_cls h x 12 ∧ st.length ≤ 4 ∧ eg_Cs n_M_isFlat (.ref (x + 1) :: [a1]) h (fun v h9 => wps rm K Q c_M_more_76 kc ks loc (v.toList ++ st) h9)) := eg_c1_1
theorem s_M_more_76 {x : Int32} : wps rm K Q c_M_more_76 kc ks loc (.int x :: st) h = ((x = 0 → K 89 kc ks loc st h) ∧ (¬ x = 0 → wps rm K Q c_M_more_79 kc ks loc (st) h)) := rfl
theorem s_M_more_79 {x : Nat} {l : eg_Lo} : wps rm K Q c_M_more_79 kc ks (some (.ref x) :: l) (st) h = wps rm K Q c_M_more_80 kc ks (some (.ref x) :: l) (.ref x :: st) h := rfl
theorem s_M_more_80 {x : Nat} : wps rm K Q c_M_more_80 kc ks loc (.ref (x + 1) :: st) h = eg_gf h x 12 7 (fun v => wps rm K Q c_M_more_83 kc ks loc (v :: st) h) := rfl
theorem s_M_more_83 {x : Int32} {l0 l1 l2 : Option Value} {l : eg_Lo} : wps rm K Q c_M_more_83 kc ks (l0 :: l1 :: l2 :: some (.int x) :: l) (st) h = wps rm K Q c_M_more_84 kc ks (l0 :: l1 :: l2 :: some (.int x) :: l) (.int x :: st) h := rfl
theorem s_M_more_84 {x : Nat} {i : Int32} : wps rm K Q c_M_more_84 kc ks loc (.int i :: .ref (x + 1) :: st) h = eg_ia h x i (fun v => wps rm K Q c_M_more_85 kc ks loc (.int v :: st) h) := rfl
theorem s_M_more_85  : wps rm K Q c_M_more_85 kc ks loc (st) h = wps rm K Q c_M_more_86 kc ks loc (.int (5) :: st) h := rfl
theorem s_M_more_86 {x y : Int32} : wps rm K Q c_M_more_86 kc ks loc (.int y :: .int x :: st) h = ((x = y → K 97 kc ks loc st h) ∧ (¬ x = y → wps rm K Q c_M_more_89 kc ks loc (st) h)) := rfl
theorem s_M_more_89 {x : Nat} {l : eg_Lo} : wps rm K Q c_M_more_89 kc ks (some (.ref x) :: l) (st) h = wps rm K Q c_M_more_90 kc ks (some (.ref x) :: l) (.ref x :: st) h := rfl
theorem s_M_more_90  : wps rm K Q c_M_more_90 kc ks loc (st) h = wps rm K Q c_M_more_93 kc ks loc (.long (-1000000000000000004) :: st) h := rfl
theorem s_M_more_93  {a1 : Value} {x : Nat} : wps rm K Q c_M_more_93 kc ks loc (a1 :: .ref (x + 1) :: st) h = (eg_cls h x 12 ∧ st.length ≤ 4 ∧ eg_Cs n_M_finding (.ref (x + 1) :: [a1]) h (fun v h9 => wps rm K Q c_M_more_96 kc ks loc (v.toList ++ st) h9)) := eg_c1_1
theorem s_M_more_96 {x : Int64} : wps rm K Q c_M_more_96 kc ks loc ([.long x]) h = (kc = rm.cells ∧ Q (some (.long x)) h) := rfl
theorem s_M_more_97 {x : Int32} {l0 l1 l2 l3 : Option Value} {l : eg_Lo} : wps rm K Q c_M_more_97 kc ks (l0 :: l1 :: l2 :: l3 :: some (.int x) :: l) (st) h = wps rm K Q c_M_more_99 kc ks (l0 :: l1 :: l2 :: l3 :: some (.int x) :: l) (.int x :: st) h := rfl
theorem s_M_more_99 {x : Nat} {l : eg_Lo} : wps rm K Q c_M_more_99 kc ks (some (.ref x) :: l) (st) h = wps rm K Q c_M_more_100 kc ks (some (.ref x) :: l) (.ref x :: st) h := rfl
theorem s_M_more_100 {x : Int32} {l0 l1 l2 : Option Value} {l : eg_Lo} : wps rm K Q c_M_more_100 kc ks (l0 :: l1 :: l2 :: some (.int x) :: l) (st) h = wps rm K Q c_M_more_101 kc ks (l0 :: l1 :: l2 :: some (.int x) :: l) (.int x :: st) h := rfl
theorem s_M_more_101  {a1 : Value} {x : Nat} : wps rm K Q c_M_more_101 kc ks loc (a1 :: .ref (x + 1) :: st) h = (eg_cls h x 12 ∧ st.length ≤ 4 ∧ eg_Cs n_M_levelOf (.ref (x + 1) :: [a1]) h (fun v h9 => wps rm K Q c_M_more_104 kc ks loc (v.toList ++ st) h9)) := eg_c1_1
theorem s_M_more_104 {x y : Int32} : wps rm K Q c_M_more_104 kc ks loc (.int y :: .int x :: st) h = wps rm K Q c_M_more_105 kc ks loc (.int (x - y) :: st) h := rfl
theorem s_M_more_105 {x : Int32} : wps rm K Q c_M_more_105 kc ks loc (.int x :: st) h = wps rm K Q c_M_more_107 kc ks (eg_set1 loc 5 (.int x)) (st) h := rfl
theorem s_M_more_107 {x : Nat} {l : eg_Lo} : wps rm K Q c_M_more_107 kc ks (some (.ref x) :: l) (st) h = wps rm K Q c_M_more_108 kc ks (some (.ref x) :: l) (.ref x :: st) h := rfl
theorem s_M_more_108 {x : Int32} {l0 : Option Value} {l : eg_Lo} : wps rm K Q c_M_more_108 kc ks (l0 :: some (.int x) :: l) (st) h = wps rm K Q c_M_more_109 kc ks (l0 :: some (.int x) :: l) (.int x :: st) h := rfl
theorem s_M_more_109  {a1 : Value} {x : Nat} : wps rm K Q c_M_more_109 kc ks loc (a1 :: .ref (x + 1) :: st) h = (eg_cls h x 12 ∧ st.length ≤ 4 ∧ eg_Cs n_M_levelOf (.ref (x + 1) :: [a1]) h (fun v h9 => wps rm K Q c_M_more_112 kc ks loc (v.toList ++ st) h9)) := eg_c1_1
theorem s_M_more_112 {x : Int32} {l0 l1 : Option Value} {l : eg_Lo} : wps rm K Q c_M_more_112 kc ks (l0 :: l1 :: some (.int x) :: l) (st) h = wps rm K Q c_M_more_113 kc ks (l0 :: l1 :: some (.int x) :: l) (.int x :: st) h := rfl
theorem s_M_more_113 {x : Int32} {l0 l1 l2 l3 l4 : Option Value} {l : eg_Lo} : wps rm K Q c_M_more_113 kc ks (l0 :: l1 :: l2 :: l3 :: l4 :: some (.int x) :: l) (st) h = wps rm K Q c_M_more_115 kc ks (l0 :: l1 :: l2 :: l3 :: l4 :: some (.int x) :: l) (.int x :: st) h := rfl
theorem s_M_more_115 {x : Int32} : wps rm K Q c_M_more_115 kc ks loc (.int x :: st) h = ((x ≤ 0 → K 123 kc ks loc st h) ∧ (¬ x ≤ 0 → wps rm K Q c_M_more_118 kc ks loc (st) h)) := rfl
theorem s_M_more_118 {x : Int32} {l0 l1 l2 l3 l4 : Option Value} {l : eg_Lo} : wps rm K Q c_M_more_118 kc ks (l0 :: l1 :: l2 :: l3 :: l4 :: some (.int x) :: l) (st) h = wps rm K Q c_M_more_120 kc ks (l0 :: l1 :: l2 :: l3 :: l4 :: some (.int x) :: l) (.int x :: st) h := rfl
theorem s_M_more_120  : wps rm K Q c_M_more_120 kc ks loc (st) h = K 124 kc ks loc st h := rfl
theorem s_M_more_123  : wps rm K Q c_M_more_123 kc ks loc (st) h = wps rm K Q c_M_more_124 kc ks loc (.int (0) :: st) h := rfl
theorem s_M_more_124 {x y : Int32} : wps rm K Q c_M_more_124 kc ks loc (.int y :: .int x :: st) h = wps rm K Q c_M_more_125 kc ks loc (.int (x + y) :: st) h := rfl
theorem s_M_more_125 {x y : Int32} : wps rm K Q c_M_more_125 kc ks loc (.int y :: .int x :: st) h = ((y < x → K 132 kc ks loc st h) ∧ (¬ y < x → wps rm K Q c_M_more_128 kc ks loc (st) h)) := rfl
theorem s_M_more_128  : wps rm K Q c_M_more_128 kc ks loc (st) h = wps rm K Q c_M_more_129 kc ks loc (.long (1) :: st) h := rfl
theorem s_M_more_129  : wps rm K Q c_M_more_129 kc ks loc (st) h = K 133 kc ks loc st h := rfl
theorem s_M_more_132  : wps rm K Q c_M_more_132 kc ks loc (st) h = wps rm K Q c_M_more_133 kc ks loc (.long (0) :: st) h := rfl
theorem s_M_more_133 {x : Int64} : wps rm K Q c_M_more_133 kc ks loc ([.long x]) h = (kc = rm.cells ∧ Q (some (.long x)) h) := rfl
def T_M_more : List (Nat × List eg_I) := [(37, c_M_more_37), (45, c_M_more_45), (63, c_M_more_63), (71, c_M_more_71), (89, c_M_more_89), (97, c_M_more_97), (123, c_M_more_123), (124, c_M_more_124), (132, c_M_more_132), (133, c_M_more_133)]
theorem j_M_more_37 {R : Nat → Nat → Nat → eg_Lo → List Value → List eg_E → Prop} {f pc0 : Nat} : eg_run rm R Q T_M_more (f + 1) 37 kc ks loc st h = wps rm (eg_run rm R Q T_M_more f) Q c_M_more_37 kc ks loc st h := rfl
theorem j_M_more_45 {R : Nat → Nat → Nat → eg_Lo → List Value → List eg_E → Prop} {f pc0 : Nat} : eg_run rm R Q T_M_more (f + 1) 45 kc ks loc st h = wps rm (eg_run rm R Q T_M_more f) Q c_M_more_45 kc ks loc st h := rfl
theorem j_M_more_63 {R : Nat → Nat → Nat → eg_Lo → List Value → List eg_E → Prop} {f pc0 : Nat} : eg_run rm R Q T_M_more (f + 1) 63 kc ks loc st h = wps rm (eg_run rm R Q T_M_more f) Q c_M_more_63 kc ks loc st h := rfl
theorem j_M_more_71 {R : Nat → Nat → Nat → eg_Lo → List Value → List eg_E → Prop} {f pc0 : Nat} : eg_run rm R Q T_M_more (f + 1) 71 kc ks loc st h = wps rm (eg_run rm R Q T_M_more f) Q c_M_more_71 kc ks loc st h := rfl
theorem j_M_more_89 {R : Nat → Nat → Nat → eg_Lo → List Value → List eg_E → Prop} {f pc0 : Nat} : eg_run rm R Q T_M_more (f + 1) 89 kc ks loc st h = wps rm (eg_run rm R Q T_M_more f) Q c_M_more_89 kc ks loc st h := rfl
theorem j_M_more_97 {R : Nat → Nat → Nat → eg_Lo → List Value → List eg_E → Prop} {f pc0 : Nat} : eg_run rm R Q T_M_more (f + 1) 97 kc ks loc st h = wps rm (eg_run rm R Q T_M_more f) Q c_M_more_97 kc ks loc st h := rfl
theorem j_M_more_123 {R : Nat → Nat → Nat → eg_Lo → List Value → List eg_E → Prop} {f pc0 : Nat} : eg_run rm R Q T_M_more (f + 1) 123 kc ks loc st h = wps rm (eg_run rm R Q T_M_more f) Q c_M_more_123 kc ks loc st h := rfl
theorem j_M_more_124 {R : Nat → Nat → Nat → eg_Lo → List Value → List eg_E → Prop} {f pc0 : Nat} : eg_run rm R Q T_M_more (f + 1) 124 kc ks loc st h = wps rm (eg_run rm R Q T_M_more f) Q c_M_more_124 kc ks loc st h := rfl
theorem j_M_more_132 {R : Nat → Nat → Nat → eg_Lo → List Value → List eg_E → Prop} {f pc0 : Nat} : eg_run rm R Q T_M_more (f + 1) 132 kc ks loc st h = wps rm (eg_run rm R Q T_M_more f) Q c_M_more_132 kc ks loc st h := rfl
theorem j_M_more_133 {R : Nat → Nat → Nat → eg_Lo → List Value → List eg_E → Prop} {f pc0 : Nat} : eg_run rm R Q T_M_more (f + 1) 133 kc ks loc st h = wps rm (eg_run rm R Q T_M_more f) Q c_M_more_133 kc ks loc st h := rfl
end
theorem q_M_more : (T_M_more.all fun q => eg_seq m_M_more q.1 q.2) = true := by decide +kernel
theorem b_M_more {as : List Value} {h : List eg_E} {Q : Option Value → List eg_E → Prop} (hf : (eg_fl as).length ≤ 6) (hw : wps (eg_rm m_M_more) (eg_run (eg_rm m_M_more) (eg_R m_M_more Q (h.length + 0)) Q T_M_more 12) Q c_M_more_0 0 0 (eg_entry 6 as) [] h) : eg_Runs n_M_more as h Q := eg_begin (d := m_M_more) rfl (by decide) (by decide +kernel) q_M_more hf hw
/-! ===== M_frame ===== -/
def c_M_frame_384 : List eg_I := .inl (384, 1, .lreturn, 0, 0) :: []
def c_M_frame_383 : List eg_I := .inl (383, 1, .sipush (1), 0, 0) :: c_M_frame_384
def c_M_frame_380 : List eg_I := .inl (380, 3, .putstatic 273, 12, 14) :: c_M_frame_383
def c_M_frame_379 : List eg_I := .inl (379, 1, .iconst (1), 0, 0) :: c_M_frame_380
def c_M_frame_378 : List eg_I := .inl (378, 1, .aload 0, 0, 0) :: c_M_frame_379
def c_M_frame_377 : List eg_I := .inl (377, 1, .iastore, 0, 0) :: c_M_frame_378
def c_M_frame_376 : List eg_I := .inl (376, 1, .iaload, 0, 0) :: c_M_frame_377
def c_M_frame_374 : List eg_I := .inl (374, 2, .iload 7, 0, 0) :: c_M_frame_376
def c_M_frame_371 : List eg_I := .inl (371, 3, .getfield 19, 12, 3) :: c_M_frame_374
def c_M_frame_370 : List eg_I := .inl (370, 1, .aload 0, 0, 0) :: c_M_frame_371
def c_M_frame_369 : List eg_I := .inl (369, 1, .iconst (2), 0, 0) :: c_M_frame_370
def c_M_frame_366 : List eg_I := .inl (366, 3, .getfield 57, 12, 16) :: c_M_frame_369
def c_M_frame_365 : List eg_I := .inl (365, 1, .aload 0, 0, 0) :: c_M_frame_366
def c_M_frame_364 : List eg_I := .inl (364, 1, .iastore, 0, 0) :: c_M_frame_365
def c_M_frame_363 : List eg_I := .inl (363, 1, .iaload, 0, 0) :: c_M_frame_364
def c_M_frame_361 : List eg_I := .inl (361, 2, .iload 7, 0, 0) :: c_M_frame_363
def c_M_frame_358 : List eg_I := .inl (358, 3, .getfield 16, 12, 2) :: c_M_frame_361
def c_M_frame_357 : List eg_I := .inl (357, 1, .aload 0, 0, 0) :: c_M_frame_358
def c_M_frame_356 : List eg_I := .inl (356, 1, .iconst (1), 0, 0) :: c_M_frame_357
def c_M_frame_353 : List eg_I := .inl (353, 3, .getfield 57, 12, 16) :: c_M_frame_356
def c_M_frame_352 : List eg_I := .inl (352, 1, .aload 0, 0, 0) :: c_M_frame_353
def c_M_frame_351 : List eg_I := .inl (351, 1, .iastore, 0, 0) :: c_M_frame_352
def c_M_frame_350 : List eg_I := .inl (350, 1, .iaload, 0, 0) :: c_M_frame_351
def c_M_frame_348 : List eg_I := .inl (348, 2, .iload 7, 0, 0) :: c_M_frame_350
def c_M_frame_345 : List eg_I := .inl (345, 3, .getfield 13, 12, 1) :: c_M_frame_348
def c_M_frame_344 : List eg_I := .inl (344, 1, .aload 0, 0, 0) :: c_M_frame_345
def c_M_frame_343 : List eg_I := .inl (343, 1, .iconst (0), 0, 0) :: c_M_frame_344
def c_M_frame_340 : List eg_I := .inl (340, 3, .getfield 57, 12, 16) :: c_M_frame_343
def c_M_frame_339 : List eg_I := .inl (339, 1, .aload 0, 0, 0) :: c_M_frame_340
def c_M_frame_336 : List eg_I := .inr (336, 0, 200, n_M_lowest, 6, 12, 0, 0) :: c_M_frame_339
def c_M_frame_335 : List eg_I := .inl (335, 1, .iconst (0), 0, 0) :: c_M_frame_336
def c_M_frame_333 : List eg_I := .inl (333, 2, .iconst (6), 0, 0) :: c_M_frame_335
def c_M_frame_330 : List eg_I := .inl (330, 3, .getfield 54, 12, 15) :: c_M_frame_333
def c_M_frame_329 : List eg_I := .inl (329, 1, .aload 0, 0, 0) :: c_M_frame_330
def c_M_frame_327 : List eg_I := .inl (327, 2, .lload 18, 0, 0) :: c_M_frame_329
def c_M_frame_325 : List eg_I := .inl (325, 2, .lload 16, 0, 0) :: c_M_frame_327
def c_M_frame_323 : List eg_I := .inl (323, 2, .lload 14, 0, 0) :: c_M_frame_325
def c_M_frame_320 : List eg_I := .inr (320, 0, 200, n_M_lowest, 6, 12, 0, 0) :: c_M_frame_323
def c_M_frame_319 : List eg_I := .inl (319, 1, .iconst (0), 0, 0) :: c_M_frame_320
def c_M_frame_318 : List eg_I := .inl (318, 1, .iconst (3), 0, 0) :: c_M_frame_319
def c_M_frame_315 : List eg_I := .inl (315, 3, .getfield 54, 12, 15) :: c_M_frame_318
def c_M_frame_314 : List eg_I := .inl (314, 1, .aload 0, 0, 0) :: c_M_frame_315
def c_M_frame_313 : List eg_I := .inl (313, 1, .lsub, 0, 0) :: c_M_frame_314
def c_M_frame_312 : List eg_I := .inl (312, 1, .lmul, 0, 0) :: c_M_frame_313
def c_M_frame_310 : List eg_I := .inl (310, 2, .lload 22, 0, 0) :: c_M_frame_312
def c_M_frame_308 : List eg_I := .inl (308, 2, .lload 12, 0, 0) :: c_M_frame_310
def c_M_frame_307 : List eg_I := .inl (307, 1, .lmul, 0, 0) :: c_M_frame_308
def c_M_frame_305 : List eg_I := .inl (305, 2, .lload 20, 0, 0) :: c_M_frame_307
def c_M_frame_304 : List eg_I := .inl (304, 1, .i2l, 0, 0) :: c_M_frame_305
def c_M_frame_302 : List eg_I := .inl (302, 2, .iload 4, 0, 0) :: c_M_frame_304
def c_M_frame_301 : List eg_I := .inl (301, 1, .lsub, 0, 0) :: c_M_frame_302
def c_M_frame_300 : List eg_I := .inl (300, 1, .lmul, 0, 0) :: c_M_frame_301
def c_M_frame_298 : List eg_I := .inl (298, 2, .lload 22, 0, 0) :: c_M_frame_300
def c_M_frame_296 : List eg_I := .inl (296, 2, .lload 10, 0, 0) :: c_M_frame_298
def c_M_frame_295 : List eg_I := .inl (295, 1, .lmul, 0, 0) :: c_M_frame_296
def c_M_frame_293 : List eg_I := .inl (293, 2, .lload 20, 0, 0) :: c_M_frame_295
def c_M_frame_292 : List eg_I := .inl (292, 1, .i2l, 0, 0) :: c_M_frame_293
def c_M_frame_291 : List eg_I := .inl (291, 1, .iload 3, 0, 0) :: c_M_frame_292
def c_M_frame_290 : List eg_I := .inl (290, 1, .lsub, 0, 0) :: c_M_frame_291
def c_M_frame_289 : List eg_I := .inl (289, 1, .lmul, 0, 0) :: c_M_frame_290
def c_M_frame_287 : List eg_I := .inl (287, 2, .lload 22, 0, 0) :: c_M_frame_289
def c_M_frame_285 : List eg_I := .inl (285, 2, .lload 8, 0, 0) :: c_M_frame_287
def c_M_frame_284 : List eg_I := .inl (284, 1, .lmul, 0, 0) :: c_M_frame_285
def c_M_frame_282 : List eg_I := .inl (282, 2, .lload 20, 0, 0) :: c_M_frame_284
def c_M_frame_281 : List eg_I := .inl (281, 1, .i2l, 0, 0) :: c_M_frame_282
def c_M_frame_280 : List eg_I := .inl (280, 1, .iload 2, 0, 0) :: c_M_frame_281
def c_M_frame_277 : List eg_I := .inr (277, 0, 200, n_M_lowest, 6, 12, 0, 0) :: c_M_frame_280
def c_M_frame_276 : List eg_I := .inl (276, 1, .iconst (0), 0, 0) :: c_M_frame_277
def c_M_frame_275 : List eg_I := .inl (275, 1, .iconst (0), 0, 0) :: c_M_frame_276
def c_M_frame_272 : List eg_I := .inl (272, 3, .getfield 54, 12, 15) :: c_M_frame_275
def c_M_frame_271 : List eg_I := .inl (271, 1, .aload 0, 0, 0) :: c_M_frame_272
def c_M_frame_269 : List eg_I := .inl (269, 2, .lload 12, 0, 0) :: c_M_frame_271
def c_M_frame_267 : List eg_I := .inl (267, 2, .lload 10, 0, 0) :: c_M_frame_269
def c_M_frame_265 : List eg_I := .inl (265, 2, .lload 8, 0, 0) :: c_M_frame_267
def c_M_frame_263 : List eg_I := .inl (263, 2, .lstore 22, 0, 0) :: c_M_frame_265
def c_M_frame_262 : List eg_I := .inl (262, 1, .ladd, 0, 0) :: c_M_frame_263
def c_M_frame_261 : List eg_I := .inl (261, 1, .lmul, 0, 0) :: c_M_frame_262
def c_M_frame_260 : List eg_I := .inl (260, 1, .i2l, 0, 0) :: c_M_frame_261
def c_M_frame_258 : List eg_I := .inl (258, 2, .iload 4, 0, 0) :: c_M_frame_260
def c_M_frame_256 : List eg_I := .inl (256, 2, .lload 12, 0, 0) :: c_M_frame_258
def c_M_frame_255 : List eg_I := .inl (255, 1, .ladd, 0, 0) :: c_M_frame_256
def c_M_frame_254 : List eg_I := .inl (254, 1, .lmul, 0, 0) :: c_M_frame_255
def c_M_frame_253 : List eg_I := .inl (253, 1, .i2l, 0, 0) :: c_M_frame_254
def c_M_frame_252 : List eg_I := .inl (252, 1, .iload 3, 0, 0) :: c_M_frame_253
def c_M_frame_250 : List eg_I := .inl (250, 2, .lload 10, 0, 0) :: c_M_frame_252
def c_M_frame_249 : List eg_I := .inl (249, 1, .lmul, 0, 0) :: c_M_frame_250
def c_M_frame_248 : List eg_I := .inl (248, 1, .i2l, 0, 0) :: c_M_frame_249
def c_M_frame_247 : List eg_I := .inl (247, 1, .iload 2, 0, 0) :: c_M_frame_248
def c_M_frame_245 : List eg_I := .inl (245, 2, .lload 8, 0, 0) :: c_M_frame_247
def c_M_frame_243 : List eg_I := .inl (243, 2, .lstore 20, 0, 0) :: c_M_frame_245
def c_M_frame_242 : List eg_I := .inl (242, 1, .ladd, 0, 0) :: c_M_frame_243
def c_M_frame_241 : List eg_I := .inl (241, 1, .lmul, 0, 0) :: c_M_frame_242
def c_M_frame_239 : List eg_I := .inl (239, 2, .lload 12, 0, 0) :: c_M_frame_241
def c_M_frame_237 : List eg_I := .inl (237, 2, .lload 12, 0, 0) :: c_M_frame_239
def c_M_frame_236 : List eg_I := .inl (236, 1, .ladd, 0, 0) :: c_M_frame_237
def c_M_frame_235 : List eg_I := .inl (235, 1, .lmul, 0, 0) :: c_M_frame_236
def c_M_frame_233 : List eg_I := .inl (233, 2, .lload 10, 0, 0) :: c_M_frame_235
def c_M_frame_231 : List eg_I := .inl (231, 2, .lload 10, 0, 0) :: c_M_frame_233
def c_M_frame_230 : List eg_I := .inl (230, 1, .lmul, 0, 0) :: c_M_frame_231
def c_M_frame_228 : List eg_I := .inl (228, 2, .lload 8, 0, 0) :: c_M_frame_230
def c_M_frame_226 : List eg_I := .inl (226, 2, .lload 8, 0, 0) :: c_M_frame_228
def c_M_frame_225 : List eg_I := .inl (225, 1, .lreturn, 0, 0) :: []
def c_M_frame_222 : List eg_I := .inr (222, 1, 112, n_M_finding, 1, 12, 0, 0) :: c_M_frame_225
def c_M_frame_219 : List eg_I := .inl (219, 3, .sipush (-1000000000000000003), 143, 0) :: c_M_frame_222
def c_M_frame_218 : List eg_I := .inl (218, 1, .aload 0, 0, 0) :: c_M_frame_219
def c_M_frame_215 : List eg_I := .inl (215, 3, .ifCond .ne (11), 226, 0) :: c_M_frame_218
def c_M_frame_214 : List eg_I := .inl (214, 1, .lcmp, 0, 0) :: c_M_frame_215
def c_M_frame_213 : List eg_I := .inl (213, 1, .sipush (0), 0, 0) :: c_M_frame_214
def c_M_frame_211 : List eg_I := .inl (211, 2, .lload 18, 0, 0) :: c_M_frame_213
def c_M_frame_208 : List eg_I := .inl (208, 3, .ifCond .ne (18), 226, 0) :: c_M_frame_211
def c_M_frame_207 : List eg_I := .inl (207, 1, .lcmp, 0, 0) :: c_M_frame_208
def c_M_frame_206 : List eg_I := .inl (206, 1, .sipush (0), 0, 0) :: c_M_frame_207
def c_M_frame_204 : List eg_I := .inl (204, 2, .lload 16, 0, 0) :: c_M_frame_206
def c_M_frame_201 : List eg_I := .inl (201, 3, .ifCond .ne (25), 226, 0) :: c_M_frame_204
def c_M_frame_200 : List eg_I := .inl (200, 1, .lcmp, 0, 0) :: c_M_frame_201
def c_M_frame_199 : List eg_I := .inl (199, 1, .sipush (0), 0, 0) :: c_M_frame_200
def c_M_frame_197 : List eg_I := .inl (197, 2, .lload 14, 0, 0) :: c_M_frame_199
def c_M_frame_195 : List eg_I := .inl (195, 2, .lstore 18, 0, 0) :: c_M_frame_197
def c_M_frame_194 : List eg_I := .inl (194, 1, .lsub, 0, 0) :: c_M_frame_195
def c_M_frame_193 : List eg_I := .inl (193, 1, .lmul, 0, 0) :: c_M_frame_194
def c_M_frame_192 : List eg_I := .inl (192, 1, .i2l, 0, 0) :: c_M_frame_193
def c_M_frame_191 : List eg_I := .inl (191, 1, .iload 2, 0, 0) :: c_M_frame_192
def c_M_frame_189 : List eg_I := .inl (189, 2, .lload 10, 0, 0) :: c_M_frame_191
def c_M_frame_188 : List eg_I := .inl (188, 1, .lmul, 0, 0) :: c_M_frame_189
def c_M_frame_187 : List eg_I := .inl (187, 1, .i2l, 0, 0) :: c_M_frame_188
def c_M_frame_186 : List eg_I := .inl (186, 1, .iload 3, 0, 0) :: c_M_frame_187
def c_M_frame_184 : List eg_I := .inl (184, 2, .lload 8, 0, 0) :: c_M_frame_186
def c_M_frame_182 : List eg_I := .inl (182, 2, .lstore 16, 0, 0) :: c_M_frame_184
def c_M_frame_181 : List eg_I := .inl (181, 1, .lsub, 0, 0) :: c_M_frame_182
def c_M_frame_180 : List eg_I := .inl (180, 1, .lmul, 0, 0) :: c_M_frame_181
def c_M_frame_179 : List eg_I := .inl (179, 1, .i2l, 0, 0) :: c_M_frame_180
def c_M_frame_177 : List eg_I := .inl (177, 2, .iload 4, 0, 0) :: c_M_frame_179
def c_M_frame_175 : List eg_I := .inl (175, 2, .lload 8, 0, 0) :: c_M_frame_177
def c_M_frame_174 : List eg_I := .inl (174, 1, .lmul, 0, 0) :: c_M_frame_175
def c_M_frame_173 : List eg_I := .inl (173, 1, .i2l, 0, 0) :: c_M_frame_174
def c_M_frame_172 : List eg_I := .inl (172, 1, .iload 2, 0, 0) :: c_M_frame_173
def c_M_frame_170 : List eg_I := .inl (170, 2, .lload 12, 0, 0) :: c_M_frame_172
def c_M_frame_168 : List eg_I := .inl (168, 2, .lstore 14, 0, 0) :: c_M_frame_170
def c_M_frame_167 : List eg_I := .inl (167, 1, .lsub, 0, 0) :: c_M_frame_168
def c_M_frame_166 : List eg_I := .inl (166, 1, .lmul, 0, 0) :: c_M_frame_167
def c_M_frame_165 : List eg_I := .inl (165, 1, .i2l, 0, 0) :: c_M_frame_166
def c_M_frame_164 : List eg_I := .inl (164, 1, .iload 3, 0, 0) :: c_M_frame_165
def c_M_frame_162 : List eg_I := .inl (162, 2, .lload 12, 0, 0) :: c_M_frame_164
def c_M_frame_161 : List eg_I := .inl (161, 1, .lmul, 0, 0) :: c_M_frame_162
def c_M_frame_160 : List eg_I := .inl (160, 1, .i2l, 0, 0) :: c_M_frame_161
def c_M_frame_158 : List eg_I := .inl (158, 2, .iload 4, 0, 0) :: c_M_frame_160
def c_M_frame_156 : List eg_I := .inl (156, 2, .lload 10, 0, 0) :: c_M_frame_158
def c_M_frame_154 : List eg_I := .inl (154, 2, .lstore 12, 0, 0) :: c_M_frame_156
def c_M_frame_153 : List eg_I := .inl (153, 1, .laload, 0, 0) :: c_M_frame_154
def c_M_frame_152 : List eg_I := .inl (152, 1, .iadd, 0, 0) :: c_M_frame_153
def c_M_frame_151 : List eg_I := .inl (151, 1, .iconst (2), 0, 0) :: c_M_frame_152
def c_M_frame_150 : List eg_I := .inl (150, 1, .imul, 0, 0) :: c_M_frame_151
def c_M_frame_149 : List eg_I := .inl (149, 1, .iload 1, 0, 0) :: c_M_frame_150
def c_M_frame_148 : List eg_I := .inl (148, 1, .iconst (3), 0, 0) :: c_M_frame_149
def c_M_frame_145 : List eg_I := .inl (145, 3, .getfield 48, 12, 12) :: c_M_frame_148
def c_M_frame_144 : List eg_I := .inl (144, 1, .aload 0, 0, 0) :: c_M_frame_145
def c_M_frame_142 : List eg_I := .inl (142, 2, .lstore 10, 0, 0) :: c_M_frame_144
def c_M_frame_141 : List eg_I := .inl (141, 1, .laload, 0, 0) :: c_M_frame_142
def c_M_frame_140 : List eg_I := .inl (140, 1, .iadd, 0, 0) :: c_M_frame_141
def c_M_frame_139 : List eg_I := .inl (139, 1, .iconst (1), 0, 0) :: c_M_frame_140
def c_M_frame_138 : List eg_I := .inl (138, 1, .imul, 0, 0) :: c_M_frame_139
def c_M_frame_137 : List eg_I := .inl (137, 1, .iload 1, 0, 0) :: c_M_frame_138
def c_M_frame_136 : List eg_I := .inl (136, 1, .iconst (3), 0, 0) :: c_M_frame_137
def c_M_frame_133 : List eg_I := .inl (133, 3, .getfield 48, 12, 12) :: c_M_frame_136
def c_M_frame_132 : List eg_I := .inl (132, 1, .aload 0, 0, 0) :: c_M_frame_133
def c_M_frame_130 : List eg_I := .inl (130, 2, .lstore 8, 0, 0) :: c_M_frame_132
def c_M_frame_129 : List eg_I := .inl (129, 1, .laload, 0, 0) :: c_M_frame_130
def c_M_frame_128 : List eg_I := .inl (128, 1, .imul, 0, 0) :: c_M_frame_129
def c_M_frame_127 : List eg_I := .inl (127, 1, .iload 1, 0, 0) :: c_M_frame_128
def c_M_frame_126 : List eg_I := .inl (126, 1, .iconst (3), 0, 0) :: c_M_frame_127
def c_M_frame_123 : List eg_I := .inl (123, 3, .getfield 48, 12, 12) :: c_M_frame_126
def c_M_frame_122 : List eg_I := .inl (122, 1, .aload 0, 0, 0) :: c_M_frame_123
def c_M_frame_121 : List eg_I := .inl (121, 1, .lreturn, 0, 0) :: []
def c_M_frame_118 : List eg_I := .inr (118, 1, 112, n_M_finding, 1, 12, 0, 0) :: c_M_frame_121
def c_M_frame_115 : List eg_I := .inl (115, 3, .sipush (-1000000000000000007), 126, 0) :: c_M_frame_118
def c_M_frame_114 : List eg_I := .inl (114, 1, .aload 0, 0, 0) :: c_M_frame_115
def c_M_frame_111 : List eg_I := .inl (111, 3, .ifCond .eq (11), 122, 0) :: c_M_frame_114
def c_M_frame_110 : List eg_I := .inl (110, 1, .baload, 0, 0) :: c_M_frame_111
def c_M_frame_108 : List eg_I := .inl (108, 2, .iload 7, 0, 0) :: c_M_frame_110
def c_M_frame_105 : List eg_I := .inl (105, 3, .getfield 22, 12, 4) :: c_M_frame_108
def c_M_frame_104 : List eg_I := .inl (104, 1, .aload 0, 0, 0) :: c_M_frame_105
def c_M_frame_102 : List eg_I := .inl (102, 2, .istore 7, 0, 0) :: c_M_frame_104
def c_M_frame_99 : List eg_I := .inr (99, 0, 103, n_M_at_II, 2, 12, 0, 0) :: c_M_frame_102
def c_M_frame_97 : List eg_I := .inl (97, 2, .iload 6, 0, 0) :: c_M_frame_99
def c_M_frame_95 : List eg_I := .inl (95, 2, .iload 5, 0, 0) :: c_M_frame_97
def c_M_frame_94 : List eg_I := .inl (94, 1, .lreturn, 0, 0) :: []
def c_M_frame_91 : List eg_I := .inr (91, 1, 112, n_M_finding, 1, 12, 0, 0) :: c_M_frame_94
def c_M_frame_88 : List eg_I := .inl (88, 3, .sipush (-1000000000000000004), 147, 0) :: c_M_frame_91
def c_M_frame_87 : List eg_I := .inl (87, 1, .aload 0, 0, 0) :: c_M_frame_88
def c_M_frame_84 : List eg_I := .inl (84, 3, .if_icmp .eq (11), 95, 0) :: c_M_frame_87
def c_M_frame_83 : List eg_I := .inl (83, 1, .iconst (3), 0, 0) :: c_M_frame_84
def c_M_frame_82 : List eg_I := .inl (82, 1, .iaload, 0, 0) :: c_M_frame_83
def c_M_frame_81 : List eg_I := .inl (81, 1, .iload 1, 0, 0) :: c_M_frame_82
def c_M_frame_78 : List eg_I := .inl (78, 3, .getfield 32, 12, 7) :: c_M_frame_81
def c_M_frame_77 : List eg_I := .inl (77, 1, .aload 0, 0, 0) :: c_M_frame_78
def c_M_frame_76 : List eg_I := .inl (76, 1, .lreturn, 0, 0) :: []
def c_M_frame_73 : List eg_I := .inr (73, 1, 112, n_M_finding, 1, 12, 0, 0) :: c_M_frame_76
def c_M_frame_70 : List eg_I := .inl (70, 3, .sipush (-1000000000000000006), 138, 0) :: c_M_frame_73
def c_M_frame_69 : List eg_I := .inl (69, 1, .aload 0, 0, 0) :: c_M_frame_70
def c_M_frame_66 : List eg_I := .inl (66, 3, .ifCond .ne (11), 77, 0) :: c_M_frame_69
def c_M_frame_65 : List eg_I := .inl (65, 1, .iaload, 0, 0) :: c_M_frame_66
def c_M_frame_64 : List eg_I := .inl (64, 1, .iload 1, 0, 0) :: c_M_frame_65
def c_M_frame_61 : List eg_I := .inl (61, 3, .getfield 32, 12, 7) :: c_M_frame_64
def c_M_frame_60 : List eg_I := .inl (60, 1, .aload 0, 0, 0) :: c_M_frame_61
def c_M_frame_59 : List eg_I := .inl (59, 1, .lreturn, 0, 0) :: []
def c_M_frame_56 : List eg_I := .inr (56, 1, 112, n_M_finding, 1, 12, 0, 0) :: c_M_frame_59
def c_M_frame_53 : List eg_I := .inl (53, 3, .sipush (-1000000000000000001), 110, 0) :: c_M_frame_56
def c_M_frame_52 : List eg_I := .inl (52, 1, .aload 0, 0, 0) :: c_M_frame_53
def c_M_frame_49 : List eg_I := .inl (49, 3, .ifCond .ne (11), 60, 0) :: c_M_frame_52
def c_M_frame_46 : List eg_I := .inr (46, 0, 95, n_M_isIn, 3, 12, 0, 0) :: c_M_frame_49
def c_M_frame_44 : List eg_I := .inl (44, 2, .iconst (100), 0, 0) :: c_M_frame_46
def c_M_frame_42 : List eg_I := .inl (42, 2, .iconst (-100), 0, 0) :: c_M_frame_44
def c_M_frame_40 : List eg_I := .inl (40, 2, .iload 4, 0, 0) :: c_M_frame_42
def c_M_frame_37 : List eg_I := .inl (37, 3, .ifCond .eq (15), 52, 0) :: c_M_frame_40
def c_M_frame_34 : List eg_I := .inr (34, 0, 95, n_M_isIn, 3, 12, 0, 0) :: c_M_frame_37
def c_M_frame_32 : List eg_I := .inl (32, 2, .iconst (100), 0, 0) :: c_M_frame_34
def c_M_frame_30 : List eg_I := .inl (30, 2, .iconst (-100), 0, 0) :: c_M_frame_32
def c_M_frame_29 : List eg_I := .inl (29, 1, .iload 3, 0, 0) :: c_M_frame_30
def c_M_frame_26 : List eg_I := .inl (26, 3, .ifCond .eq (26), 52, 0) :: c_M_frame_29
def c_M_frame_23 : List eg_I := .inr (23, 0, 95, n_M_isIn, 3, 12, 0, 0) :: c_M_frame_26
def c_M_frame_21 : List eg_I := .inl (21, 2, .iconst (100), 0, 0) :: c_M_frame_23
def c_M_frame_19 : List eg_I := .inl (19, 2, .iconst (-100), 0, 0) :: c_M_frame_21
def c_M_frame_18 : List eg_I := .inl (18, 1, .iload 2, 0, 0) :: c_M_frame_19
def c_M_frame_15 : List eg_I := .inl (15, 3, .ifCond .eq (37), 52, 0) :: c_M_frame_18
def c_M_frame_12 : List eg_I := .inr (12, 1, 122, n_M_isPoint, 2, 12, 0, 0) :: c_M_frame_15
def c_M_frame_10 : List eg_I := .inl (10, 2, .iload 6, 0, 0) :: c_M_frame_12
def c_M_frame_8 : List eg_I := .inl (8, 2, .iload 5, 0, 0) :: c_M_frame_10
def c_M_frame_7 : List eg_I := .inl (7, 1, .aload 0, 0, 0) :: c_M_frame_8
def c_M_frame_4 : List eg_I := .inl (4, 3, .ifCond .eq (48), 52, 0) :: c_M_frame_7
def c_M_frame_1 : List eg_I := .inr (1, 0, 255, n_M_isFigure, 1, 12, 0, 0) :: c_M_frame_4
def c_M_frame_0 : List eg_I := .inl (0, 1, .iload 1, 0, 0) :: c_M_frame_1
section
variable {rm : Room} {K : Nat → Nat → Nat → eg_Lo → List Value → List eg_E → Prop} {Q : Option Value → List eg_E → Prop} {kc ks : Nat} {loc : eg_Lo} {st : List Value} {h : List eg_E}
theorem s_M_frame_0 {x : Int32} {l0 : Option Value} {l : eg_Lo} : wps rm K Q c_M_frame_0 kc ks (l0 :: some (.int x) :: l) (st) h = wps rm K Q c_M_frame_1 kc ks (l0 :: some (.int x) :: l) (.int x :: st) h := rfl
theorem s_M_frame_1  {a1 : Value} : wps rm K Q c_M_frame_1 kc ks loc (a1 :: st) h = (st.length ≤ 4 ∧ eg_Cs n_M_isFigure [a1] h (fun v h9 => wps rm K Q c_M_frame_4 kc ks loc (v.toList ++ st) h9)) := eg_c0_1
theorem s_M_frame_4 {x : Int32} : wps rm K Q c_M_frame_4 kc ks loc (.int x :: st) h = ((x = 0 → K 52 kc ks loc st h) ∧ (¬ x = 0 → wps rm K Q c_M_frame_7 kc ks loc (st) h)) := rfl
theorem s_M_frame_7 {x : Nat} {l : eg_Lo} : wps rm K Q c_M_frame_7 kc ks (some (.ref x) :: l) (st) h = wps rm K Q c_M_frame_8 kc ks (some (.ref x) :: l) (.ref x :: st) h := rfl
theorem s_M_frame_8 {x : Int32} {l0 l1 l2 l3 l4 : Option Value} {l : eg_Lo} : wps rm K Q c_M_frame_8 kc ks (l0 :: l1 :: l2 :: l3 :: l4 :: some (.int x) :: l) (st) h = wps rm K Q c_M_frame_10 kc ks (l0 :: l1 :: l2 :: l3 :: l4 :: some (.int x) :: l) (.int x :: st) h := rfl
theorem s_M_frame_10 {x : Int32} {l0 l1 l2 l3 l4 l5 : Option Value} {l : eg_Lo} : wps rm K Q c_M_frame_10 kc ks (l0 :: l1 :: l2 :: l3 :: l4 :: l5 :: some (.int x) :: l) (st) h = wps rm K Q c_M_frame_12 kc ks (l0 :: l1 :: l2 :: l3 :: l4 :: l5 :: some (.int x) :: l) (.int x :: st) h := rfl
theorem s_M_frame_12  {a1 : Value} {a2 : Value} {x : Nat} : wps rm K Q c_M_frame_12 kc ks loc (a2 :: a1 :: .ref (x + 1) :: st) h = (eg_cls h x 12 ∧ st.length ≤ 4 ∧ eg_Cs n_M_isPoint (.ref (x + 1) :: [a1, a2]) h (fun v h9 => wps rm K Q c_M_frame_15 kc ks loc (v.toList ++ st) h9)) := eg_c1_2
theorem s_M_frame_15 {x : Int32} : wps rm K Q c_M_frame_15 kc ks loc (.int x :: st) h = ((x = 0 → K 52 kc ks loc st h) ∧ (¬ x = 0 → wps rm K Q c_M_frame_18 kc ks loc (st) h)) := rfl
theorem s_M_frame_18 {x : Int32} {l0 l1 : Option Value} {l : eg_Lo} : wps rm K Q c_M_frame_18 kc ks (l0 :: l1 :: some (.int x) :: l) (st) h = wps rm K Q c_M_frame_19 kc ks (l0 :: l1 :: some (.int x) :: l) (.int x :: st) h := rfl
theorem s_M_frame_19  : wps rm K Q c_M_frame_19 kc ks loc (st) h = wps rm K Q c_M_frame_21 kc ks loc (.int (-100) :: st) h := rfl
theorem s_M_frame_21  : wps rm K Q c_M_frame_21 kc ks loc (st) h = wps rm K Q c_M_frame_23 kc ks loc (.int (100) :: st) h := rfl
theorem s_M_frame_23  {a1 : Value} {a2 : Value} {a3 : Value} : wps rm K Q c_M_frame_23 kc ks loc (a3 :: a2 :: a1 :: st) h = (st.length ≤ 4 ∧ eg_Cs n_M_isIn [a1, a2, a3] h (fun v h9 => wps rm K Q c_M_frame_26 kc ks loc (v.toList ++ st) h9)) := eg_c0_3
theorem s_M_frame_26 {x : Int32} : wps rm K Q c_M_frame_26 kc ks loc (.int x :: st) h = ((x = 0 → K 52 kc ks loc st h) ∧ (¬ x = 0 → wps rm K Q c_M_frame_29 kc ks loc (st) h)) := rfl
theorem s_M_frame_29 {x : Int32} {l0 l1 l2 : Option Value} {l : eg_Lo} : wps rm K Q c_M_frame_29 kc ks (l0 :: l1 :: l2 :: some (.int x) :: l) (st) h = wps rm K Q c_M_frame_30 kc ks (l0 :: l1 :: l2 :: some (.int x) :: l) (.int x :: st) h := rfl
theorem s_M_frame_30  : wps rm K Q c_M_frame_30 kc ks loc (st) h = wps rm K Q c_M_frame_32 kc ks loc (.int (-100) :: st) h := rfl
theorem s_M_frame_32  : wps rm K Q c_M_frame_32 kc ks loc (st) h = wps rm K Q c_M_frame_34 kc ks loc (.int (100) :: st) h := rfl
theorem s_M_frame_34  {a1 : Value} {a2 : Value} {a3 : Value} : wps rm K Q c_M_frame_34 kc ks loc (a3 :: a2 :: a1 :: st) h = (st.length ≤ 4 ∧ eg_Cs n_M_isIn [a1, a2, a3] h (fun v h9 => wps rm K Q c_M_frame_37 kc ks loc (v.toList ++ st) h9)) := eg_c0_3
theorem s_M_frame_37 {x : Int32} : wps rm K Q c_M_frame_37 kc ks loc (.int x :: st) h = ((x = 0 → K 52 kc ks loc st h) ∧ (¬ x = 0 → wps rm K Q c_M_frame_40 kc ks loc (st) h)) := rfl
theorem s_M_frame_40 {x : Int32} {l0 l1 l2 l3 : Option Value} {l : eg_Lo} : wps rm K Q c_M_frame_40 kc ks (l0 :: l1 :: l2 :: l3 :: some (.int x) :: l) (st) h = wps rm K Q c_M_frame_42 kc ks (l0 :: l1 :: l2 :: l3 :: some (.int x) :: l) (.int x :: st) h := rfl
theorem s_M_frame_42  : wps rm K Q c_M_frame_42 kc ks loc (st) h = wps rm K Q c_M_frame_44 kc ks loc (.int (-100) :: st) h := rfl
theorem s_M_frame_44  : wps rm K Q c_M_frame_44 kc ks loc (st) h = wps rm K Q c_M_frame_46 kc ks loc (.int (100) :: st) h := rfl
theorem s_M_frame_46  {a1 : Value} {a2 : Value} {a3 : Value} : wps rm K Q c_M_frame_46 kc ks loc (a3 :: a2 :: a1 :: st) h = (st.length ≤ 4 ∧ eg_Cs n_M_isIn [a1, a2, a3] h (fun v h9 => wps rm K Q c_M_frame_49 kc ks loc (v.toList ++ st) h9)) := eg_c0_3
theorem s_M_frame_49 {x : Int32} : wps rm K Q c_M_frame_49 kc ks loc (.int x :: st) h = ((¬ x = 0 → K 60 kc ks loc st h) ∧ (x = 0 → wps rm K Q c_M_frame_52 kc ks loc (st) h)) := rfl
theorem s_M_frame_52 {x : Nat} {l : eg_Lo} : wps rm K Q c_M_frame_52 kc ks (some (.ref x) :: l) (st) h = wps rm K Q c_M_frame_53 kc ks (some (.ref x) :: l) (.ref x :: st) h := rfl
theorem s_M_frame_53  : wps rm K Q c_M_frame_53 kc ks loc (st) h = wps rm K Q c_M_frame_56 kc ks loc (.long (-1000000000000000001) :: st) h := rfl
theorem s_M_frame_56  {a1 : Value} {x : Nat} : wps rm K Q c_M_frame_56 kc ks loc (a1 :: .ref (x + 1) :: st) h = (eg_cls h x 12 ∧ st.length ≤ 4 ∧ eg_Cs n_M_finding (.ref (x + 1) :: [a1]) h (fun v h9 => wps rm K Q c_M_frame_59 kc ks loc (v.toList ++ st) h9)) := eg_c1_1
theorem s_M_frame_59 {x : Int64} : wps rm K Q c_M_frame_59 kc ks loc ([.long x]) h = (kc = rm.cells ∧ Q (some (.long x)) h) := rfl
theorem s_M_frame_60 {x : Nat} {l : eg_Lo} : wps rm K Q c_M_frame_60 kc ks (some (.ref x) :: l) (st) h = wps rm K Q c_M_frame_61 kc ks (some (.ref x) :: l) (.ref x :: st) h := rfl
theorem s_M_frame_61 {x : Nat} : wps rm K Q c_M_frame_61 kc ks loc (.ref (x + 1) :: st) h = eg_gf h x 12 7 (fun v => wps rm K Q c_M_frame_64 kc ks loc (v :: st) h) := rfl
theorem s_M_frame_64 {x : Int32} {l0 : Option Value} {l : eg_Lo} : wps rm K Q c_M_frame_64 kc ks (l0 :: some (.int x) :: l) (st) h = wps rm K Q c_M_frame_65 kc ks (l0 :: some (.int x) :: l) (.int x :: st) h := rfl
theorem s_M_frame_65 {x : Nat} {i : Int32} : wps rm K Q c_M_frame_65 kc ks loc (.int i :: .ref (x + 1) :: st) h = eg_ia h x i (fun v => wps rm K Q c_M_frame_66 kc ks loc (.int v :: st) h) := rfl
theorem s_M_frame_66 {x : Int32} : wps rm K Q c_M_frame_66 kc ks loc (.int x :: st) h = ((¬ x = 0 → K 77 kc ks loc st h) ∧ (x = 0 → wps rm K Q c_M_frame_69 kc ks loc (st) h)) := rfl
theorem s_M_frame_69 {x : Nat} {l : eg_Lo} : wps rm K Q c_M_frame_69 kc ks (some (.ref x) :: l) (st) h = wps rm K Q c_M_frame_70 kc ks (some (.ref x) :: l) (.ref x :: st) h := rfl
theorem s_M_frame_70  : wps rm K Q c_M_frame_70 kc ks loc (st) h = wps rm K Q c_M_frame_73 kc ks loc (.long (-1000000000000000006) :: st) h := rfl
theorem s_M_frame_73  {a1 : Value} {x : Nat} : wps rm K Q c_M_frame_73 kc ks loc (a1 :: .ref (x + 1) :: st) h = (eg_cls h x 12 ∧ st.length ≤ 4 ∧ eg_Cs n_M_finding (.ref (x + 1) :: [a1]) h (fun v h9 => wps rm K Q c_M_frame_76 kc ks loc (v.toList ++ st) h9)) := eg_c1_1
theorem s_M_frame_76 {x : Int64} : wps rm K Q c_M_frame_76 kc ks loc ([.long x]) h = (kc = rm.cells ∧ Q (some (.long x)) h) := rfl
theorem s_M_frame_77 {x : Nat} {l : eg_Lo} : wps rm K Q c_M_frame_77 kc ks (some (.ref x) :: l) (st) h = wps rm K Q c_M_frame_78 kc ks (some (.ref x) :: l) (.ref x :: st) h := rfl
theorem s_M_frame_78 {x : Nat} : wps rm K Q c_M_frame_78 kc ks loc (.ref (x + 1) :: st) h = eg_gf h x 12 7 (fun v => wps rm K Q c_M_frame_81 kc ks loc (v :: st) h) := rfl
theorem s_M_frame_81 {x : Int32} {l0 : Option Value} {l : eg_Lo} : wps rm K Q c_M_frame_81 kc ks (l0 :: some (.int x) :: l) (st) h = wps rm K Q c_M_frame_82 kc ks (l0 :: some (.int x) :: l) (.int x :: st) h := rfl
theorem s_M_frame_82 {x : Nat} {i : Int32} : wps rm K Q c_M_frame_82 kc ks loc (.int i :: .ref (x + 1) :: st) h = eg_ia h x i (fun v => wps rm K Q c_M_frame_83 kc ks loc (.int v :: st) h) := rfl
theorem s_M_frame_83  : wps rm K Q c_M_frame_83 kc ks loc (st) h = wps rm K Q c_M_frame_84 kc ks loc (.int (3) :: st) h := rfl
theorem s_M_frame_84 {x y : Int32} : wps rm K Q c_M_frame_84 kc ks loc (.int y :: .int x :: st) h = ((x = y → K 95 kc ks loc st h) ∧ (¬ x = y → wps rm K Q c_M_frame_87 kc ks loc (st) h)) := rfl
theorem s_M_frame_87 {x : Nat} {l : eg_Lo} : wps rm K Q c_M_frame_87 kc ks (some (.ref x) :: l) (st) h = wps rm K Q c_M_frame_88 kc ks (some (.ref x) :: l) (.ref x :: st) h := rfl
theorem s_M_frame_88  : wps rm K Q c_M_frame_88 kc ks loc (st) h = wps rm K Q c_M_frame_91 kc ks loc (.long (-1000000000000000004) :: st) h := rfl
theorem s_M_frame_91  {a1 : Value} {x : Nat} : wps rm K Q c_M_frame_91 kc ks loc (a1 :: .ref (x + 1) :: st) h = (eg_cls h x 12 ∧ st.length ≤ 4 ∧ eg_Cs n_M_finding (.ref (x + 1) :: [a1]) h (fun v h9 => wps rm K Q c_M_frame_94 kc ks loc (v.toList ++ st) h9)) := eg_c1_1
theorem s_M_frame_94 {x : Int64} : wps rm K Q c_M_frame_94 kc ks loc ([.long x]) h = (kc = rm.cells ∧ Q (some (.long x)) h) := rfl
theorem s_M_frame_95 {x : Int32} {l0 l1 l2 l3 l4 : Option Value} {l : eg_Lo} : wps rm K Q c_M_frame_95 kc ks (l0 :: l1 :: l2 :: l3 :: l4 :: some (.int x) :: l) (st) h = wps rm K Q c_M_frame_97 kc ks (l0 :: l1 :: l2 :: l3 :: l4 :: some (.int x) :: l) (.int x :: st) h := rfl
theorem s_M_frame_97 {x : Int32} {l0 l1 l2 l3 l4 l5 : Option Value} {l : eg_Lo} : wps rm K Q c_M_frame_97 kc ks (l0 :: l1 :: l2 :: l3 :: l4 :: l5 :: some (.int x) :: l) (st) h = wps rm K Q c_M_frame_99 kc ks (l0 :: l1 :: l2 :: l3 :: l4 :: l5 :: some (.int x) :: l) (.int x :: st) h := rfl
theorem s_M_frame_99  {a1 : Value} {a2 : Value} : wps rm K Q c_M_frame_99 kc ks loc (a2 :: a1 :: st) h = (st.length ≤ 4 ∧ eg_Cs n_M_at_II [a1, a2] h (fun v h9 => wps rm K Q c_M_frame_102 kc ks loc (v.toList ++ st) h9)) := eg_c0_2
theorem s_M_frame_102 {x : Int32} : wps rm K Q c_M_frame_102 kc ks loc (.int x :: st) h = wps rm K Q c_M_frame_104 kc ks (eg_set1 loc 7 (.int x)) (st) h := rfl
theorem s_M_frame_104 {x : Nat} {l : eg_Lo} : wps rm K Q c_M_frame_104 kc ks (some (.ref x) :: l) (st) h = wps rm K Q c_M_frame_105 kc ks (some (.ref x) :: l) (.ref x :: st) h := rfl
theorem s_M_frame_105 {x : Nat} : wps rm K Q c_M_frame_105 kc ks loc (.ref (x + 1) :: st) h = eg_gf h x 12 4 (fun v => wps rm K Q c_M_frame_108 kc ks loc (v :: st) h) := rfl
theorem s_M_frame_108 {x : Int32} {l0 l1 l2 l3 l4 l5 l6 : Option Value} {l : eg_Lo} : wps rm K Q c_M_frame_108 kc ks (l0 :: l1 :: l2 :: l3 :: l4 :: l5 :: l6 :: some (.int x) :: l) (st) h = wps rm K Q c_M_frame_110 kc ks (l0 :: l1 :: l2 :: l3 :: l4 :: l5 :: l6 :: some (.int x) :: l) (.int x :: st) h := rfl
theorem s_M_frame_110 {x : Nat} {i : Int32} : wps rm K Q c_M_frame_110 kc ks loc (.int i :: .ref (x + 1) :: st) h = eg_ba h x i (fun v => wps rm K Q c_M_frame_111 kc ks loc (.int v :: st) h) := rfl
theorem s_M_frame_111 {x : Int32} : wps rm K Q c_M_frame_111 kc ks loc (.int x :: st) h = ((x = 0 → K 122 kc ks loc st h) ∧ (¬ x = 0 → wps rm K Q c_M_frame_114 kc ks loc (st) h)) := rfl
theorem s_M_frame_114 {x : Nat} {l : eg_Lo} : wps rm K Q c_M_frame_114 kc ks (some (.ref x) :: l) (st) h = wps rm K Q c_M_frame_115 kc ks (some (.ref x) :: l) (.ref x :: st) h := rfl
theorem s_M_frame_115  : wps rm K Q c_M_frame_115 kc ks loc (st) h = wps rm K Q c_M_frame_118 kc ks loc (.long (-1000000000000000007) :: st) h := rfl
theorem s_M_frame_118  {a1 : Value} {x : Nat} : wps rm K Q c_M_frame_118 kc ks loc (a1 :: .ref (x + 1) :: st) h = (eg_cls h x 12 ∧ st.length ≤ 4 ∧ eg_Cs n_M_finding (.ref (x + 1) :: [a1]) h (fun v h9 => wps rm K Q c_M_frame_121 kc ks loc (v.toList ++ st) h9)) := eg_c1_1
theorem s_M_frame_121 {x : Int64} : wps rm K Q c_M_frame_121 kc ks loc ([.long x]) h = (kc = rm.cells ∧ Q (some (.long x)) h) := rfl
theorem s_M_frame_122 {x : Nat} {l : eg_Lo} : wps rm K Q c_M_frame_122 kc ks (some (.ref x) :: l) (st) h = wps rm K Q c_M_frame_123 kc ks (some (.ref x) :: l) (.ref x :: st) h := rfl
theorem s_M_frame_123 {x : Nat} : wps rm K Q c_M_frame_123 kc ks loc (.ref (x + 1) :: st) h = eg_gf h x 12 12 (fun v => wps rm K Q c_M_frame_126 kc ks loc (v :: st) h) := rfl
theorem s_M_frame_126  : wps rm K Q c_M_frame_126 kc ks loc (st) h = wps rm K Q c_M_frame_127 kc ks loc (.int (3) :: st) h := rfl
theorem s_M_frame_127 {x : Int32} {l0 : Option Value} {l : eg_Lo} : wps rm K Q c_M_frame_127 kc ks (l0 :: some (.int x) :: l) (st) h = wps rm K Q c_M_frame_128 kc ks (l0 :: some (.int x) :: l) (.int x :: st) h := rfl
theorem s_M_frame_128 {x y : Int32} : wps rm K Q c_M_frame_128 kc ks loc (.int y :: .int x :: st) h = wps rm K Q c_M_frame_129 kc ks loc (.int (x * y) :: st) h := rfl
theorem s_M_frame_129 {x : Nat} {i : Int32} : wps rm K Q c_M_frame_129 kc ks loc (.int i :: .ref (x + 1) :: st) h = eg_la h x i (fun v => wps rm K Q c_M_frame_130 kc ks loc (.long v :: st) h) := rfl
theorem s_M_frame_130 {x : Int64} : wps rm K Q c_M_frame_130 kc ks loc (.long x :: st) h = wps rm K Q c_M_frame_132 kc ks (eg_set2 loc 8 (.long x)) (st) h := rfl
theorem s_M_frame_132 {x : Nat} {l : eg_Lo} : wps rm K Q c_M_frame_132 kc ks (some (.ref x) :: l) (st) h = wps rm K Q c_M_frame_133 kc ks (some (.ref x) :: l) (.ref x :: st) h := rfl
theorem s_M_frame_133 {x : Nat} : wps rm K Q c_M_frame_133 kc ks loc (.ref (x + 1) :: st) h = eg_gf h x 12 12 (fun v => wps rm K Q c_M_frame_136 kc ks loc (v :: st) h) := rfl
theorem s_M_frame_136  : wps rm K Q c_M_frame_136 kc ks loc (st) h = wps rm K Q c_M_frame_137 kc ks loc (.int (3) :: st) h := rfl
theorem s_M_frame_137 {x : Int32} {l0 : Option Value} {l : eg_Lo} : wps rm K Q c_M_frame_137 kc ks (l0 :: some (.int x) :: l) (st) h = wps rm K Q c_M_frame_138 kc ks (l0 :: some (.int x) :: l) (.int x :: st) h := rfl
theorem s_M_frame_138 {x y : Int32} : wps rm K Q c_M_frame_138 kc ks loc (.int y :: .int x :: st) h = wps rm K Q c_M_frame_139 kc ks loc (.int (x * y) :: st) h := rfl
theorem s_M_frame_139  : wps rm K Q c_M_frame_139 kc ks loc (st) h = wps rm K Q c_M_frame_140 kc ks loc (.int (1) :: st) h := rfl
theorem s_M_frame_140 {x y : Int32} : wps rm K Q c_M_frame_140 kc ks loc (.int y :: .int x :: st) h = wps rm K Q c_M_frame_141 kc ks loc (.int (x + y) :: st) h := rfl
theorem s_M_frame_141 {x : Nat} {i : Int32} : wps rm K Q c_M_frame_141 kc ks loc (.int i :: .ref (x + 1) :: st) h = eg_la h x i (fun v => wps rm K Q c_M_frame_142 kc ks loc (.long v :: st) h) := rfl
theorem s_M_frame_142 {x : Int64} : wps rm K Q c_M_frame_142 kc ks loc (.long x :: st) h = wps rm K Q c_M_frame_144 kc ks (eg_set2 loc 10 (.long x)) (st) h := rfl
theorem s_M_frame_144 {x : Nat} {l : eg_Lo} : wps rm K Q c_M_frame_144 kc ks (some (.ref x) :: l) (st) h = wps rm K Q c_M_frame_145 kc ks (some (.ref x) :: l) (.ref x :: st) h := rfl
theorem s_M_frame_145 {x : Nat} : wps rm K Q c_M_frame_145 kc ks loc (.ref (x + 1) :: st) h = eg_gf h x 12 12 (fun v => wps rm K Q c_M_frame_148 kc ks loc (v :: st) h) := rfl
theorem s_M_frame_148  : wps rm K Q c_M_frame_148 kc ks loc (st) h = wps rm K Q c_M_frame_149 kc ks loc (.int (3) :: st) h := rfl
theorem s_M_frame_149 {x : Int32} {l0 : Option Value} {l : eg_Lo} : wps rm K Q c_M_frame_149 kc ks (l0 :: some (.int x) :: l) (st) h = wps rm K Q c_M_frame_150 kc ks (l0 :: some (.int x) :: l) (.int x :: st) h := rfl
theorem s_M_frame_150 {x y : Int32} : wps rm K Q c_M_frame_150 kc ks loc (.int y :: .int x :: st) h = wps rm K Q c_M_frame_151 kc ks loc (.int (x * y) :: st) h := rfl
theorem s_M_frame_151  : wps rm K Q c_M_frame_151 kc ks loc (st) h = wps rm K Q c_M_frame_152 kc ks loc (.int (2) :: st) h := rfl
theorem s_M_frame_152 {x y : Int32} : wps rm K Q c_M_frame_152 kc ks loc (.int y :: .int x :: st) h = wps rm K Q c_M_frame_153 kc ks loc (.int (x + y) :: st) h := rfl
theorem s_M_frame_153 {x : Nat} {i : Int32} : wps rm K Q c_M_frame_153 kc ks loc (.int i :: .ref (x + 1) :: st) h = eg_la h x i (fun v => wps rm K Q c_M_frame_154 kc ks loc (.long v :: st) h) := rfl
theorem s_M_frame_154 {x : Int64} : wps rm K Q c_M_frame_154 kc ks loc (.long x :: st) h = wps rm K Q c_M_frame_156 kc ks (eg_set2 loc 12 (.long x)) (st) h := rfl
theorem s_M_frame_156 {x : Int64} {l0 l1 l2 l3 l4 l5 l6 l7 l8 l9 : Option Value} {l : eg_Lo} : wps rm K Q c_M_frame_156 kc ks (l0 :: l1 :: l2 :: l3 :: l4 :: l5 :: l6 :: l7 :: l8 :: l9 :: some (.long x) :: l) (st) h = wps rm K Q c_M_frame_158 kc ks (l0 :: l1 :: l2 :: l3 :: l4 :: l5 :: l6 :: l7 :: l8 :: l9 :: some (.long x) :: l) (.long x :: st) h := rfl
theorem s_M_frame_158 {x : Int32} {l0 l1 l2 l3 : Option Value} {l : eg_Lo} : wps rm K Q c_M_frame_158 kc ks (l0 :: l1 :: l2 :: l3 :: some (.int x) :: l) (st) h = wps rm K Q c_M_frame_160 kc ks (l0 :: l1 :: l2 :: l3 :: some (.int x) :: l) (.int x :: st) h := rfl
theorem s_M_frame_160 {x : Int32} : wps rm K Q c_M_frame_160 kc ks loc (.int x :: st) h = wps rm K Q c_M_frame_161 kc ks loc (.long (x.toInt64) :: st) h := rfl
theorem s_M_frame_161 {x y : Int64} : wps rm K Q c_M_frame_161 kc ks loc (.long y :: .long x :: st) h = wps rm K Q c_M_frame_162 kc ks loc (.long (x * y) :: st) h := rfl
theorem s_M_frame_162 {x : Int64} {l0 l1 l2 l3 l4 l5 l6 l7 l8 l9 l10 l11 : Option Value} {l : eg_Lo} : wps rm K Q c_M_frame_162 kc ks (l0 :: l1 :: l2 :: l3 :: l4 :: l5 :: l6 :: l7 :: l8 :: l9 :: l10 :: l11 :: some (.long x) :: l) (st) h = wps rm K Q c_M_frame_164 kc ks (l0 :: l1 :: l2 :: l3 :: l4 :: l5 :: l6 :: l7 :: l8 :: l9 :: l10 :: l11 :: some (.long x) :: l) (.long x :: st) h := rfl
theorem s_M_frame_164 {x : Int32} {l0 l1 l2 : Option Value} {l : eg_Lo} : wps rm K Q c_M_frame_164 kc ks (l0 :: l1 :: l2 :: some (.int x) :: l) (st) h = wps rm K Q c_M_frame_165 kc ks (l0 :: l1 :: l2 :: some (.int x) :: l) (.int x :: st) h := rfl
theorem s_M_frame_165 {x : Int32} : wps rm K Q c_M_frame_165 kc ks loc (.int x :: st) h = wps rm K Q c_M_frame_166 kc ks loc (.long (x.toInt64) :: st) h := rfl
theorem s_M_frame_166 {x y : Int64} : wps rm K Q c_M_frame_166 kc ks loc (.long y :: .long x :: st) h = wps rm K Q c_M_frame_167 kc ks loc (.long (x * y) :: st) h := rfl
theorem s_M_frame_167 {x y : Int64} : wps rm K Q c_M_frame_167 kc ks loc (.long y :: .long x :: st) h = wps rm K Q c_M_frame_168 kc ks loc (.long (x - y) :: st) h := rfl
theorem s_M_frame_168 {x : Int64} : wps rm K Q c_M_frame_168 kc ks loc (.long x :: st) h = wps rm K Q c_M_frame_170 kc ks (eg_set2 loc 14 (.long x)) (st) h := rfl
theorem s_M_frame_170 {x : Int64} {l0 l1 l2 l3 l4 l5 l6 l7 l8 l9 l10 l11 : Option Value} {l : eg_Lo} : wps rm K Q c_M_frame_170 kc ks (l0 :: l1 :: l2 :: l3 :: l4 :: l5 :: l6 :: l7 :: l8 :: l9 :: l10 :: l11 :: some (.long x) :: l) (st) h = wps rm K Q c_M_frame_172 kc ks (l0 :: l1 :: l2 :: l3 :: l4 :: l5 :: l6 :: l7 :: l8 :: l9 :: l10 :: l11 :: some (.long x) :: l) (.long x :: st) h := rfl
theorem s_M_frame_172 {x : Int32} {l0 l1 : Option Value} {l : eg_Lo} : wps rm K Q c_M_frame_172 kc ks (l0 :: l1 :: some (.int x) :: l) (st) h = wps rm K Q c_M_frame_173 kc ks (l0 :: l1 :: some (.int x) :: l) (.int x :: st) h := rfl
theorem s_M_frame_173 {x : Int32} : wps rm K Q c_M_frame_173 kc ks loc (.int x :: st) h = wps rm K Q c_M_frame_174 kc ks loc (.long (x.toInt64) :: st) h := rfl
theorem s_M_frame_174 {x y : Int64} : wps rm K Q c_M_frame_174 kc ks loc (.long y :: .long x :: st) h = wps rm K Q c_M_frame_175 kc ks loc (.long (x * y) :: st) h := rfl
theorem s_M_frame_175 {x : Int64} {l0 l1 l2 l3 l4 l5 l6 l7 : Option Value} {l : eg_Lo} : wps rm K Q c_M_frame_175 kc ks (l0 :: l1 :: l2 :: l3 :: l4 :: l5 :: l6 :: l7 :: some (.long x) :: l) (st) h = wps rm K Q c_M_frame_177 kc ks (l0 :: l1 :: l2 :: l3 :: l4 :: l5 :: l6 :: l7 :: some (.long x) :: l) (.long x :: st) h := rfl
theorem s_M_frame_177 {x : Int32} {l0 l1 l2 l3 : Option Value} {l : eg_Lo} : wps rm K Q c_M_frame_177 kc ks (l0 :: l1 :: l2 :: l3 :: some (.int x) :: l) (st) h = wps rm K Q c_M_frame_179 kc ks (l0 :: l1 :: l2 :: l3 :: some (.int x) :: l) (.int x :: st) h := rfl
theorem s_M_frame_179 {x : Int32} : wps rm K Q c_M_frame_179 kc ks loc (.int x :: st) h = wps rm K Q c_M_frame_180 kc ks loc (.long (x.toInt64) :: st) h := rfl
theorem s_M_frame_180 {x y : Int64} : wps rm K Q c_M_frame_180 kc ks loc (.long y :: .long x :: st) h = wps rm K Q c_M_frame_181 kc ks loc (.long (x * y) :: st) h := rfl
theorem s_M_frame_181 {x y : Int64} : wps rm K Q c_M_frame_181 kc ks loc (.long y :: .long x :: st) h = wps rm K Q c_M_frame_182 kc ks loc (.long (x - y) :: st) h := rfl
theorem s_M_frame_182 {x : Int64} : wps rm K Q c_M_frame_182 kc ks loc (.long x :: st) h = wps rm K Q c_M_frame_184 kc ks (eg_set2 loc 16 (.long x)) (st) h := rfl
theorem s_M_frame_184 {x : Int64} {l0 l1 l2 l3 l4 l5 l6 l7 : Option Value} {l : eg_Lo} : wps rm K Q c_M_frame_184 kc ks (l0 :: l1 :: l2 :: l3 :: l4 :: l5 :: l6 :: l7 :: some (.long x) :: l) (st) h = wps rm K Q c_M_frame_186 kc ks (l0 :: l1 :: l2 :: l3 :: l4 :: l5 :: l6 :: l7 :: some (.long x) :: l) (.long x :: st) h := rfl
theorem s_M_frame_186 {x : Int32} {l0 l1 l2 : Option Value} {l : eg_Lo} : wps rm K Q c_M_frame_186 kc ks (l0 :: l1 :: l2 :: some (.int x) :: l) (st) h = wps rm K Q c_M_frame_187 kc ks (l0 :: l1 :: l2 :: some (.int x) :: l) (.int x :: st) h := rfl
theorem s_M_frame_187 {x : Int32} : wps rm K Q c_M_frame_187 kc ks loc (.int x :: st) h = wps rm K Q c_M_frame_188 kc ks loc (.long (x.toInt64) :: st) h := rfl
theorem s_M_frame_188 {x y : Int64} : wps rm K Q c_M_frame_188 kc ks loc (.long y :: .long x :: st) h = wps rm K Q c_M_frame_189 kc ks loc (.long (x * y) :: st) h := rfl
theorem s_M_frame_189 {x : Int64} {l0 l1 l2 l3 l4 l5 l6 l7 l8 l9 : Option Value} {l : eg_Lo} : wps rm K Q c_M_frame_189 kc ks (l0 :: l1 :: l2 :: l3 :: l4 :: l5 :: l6 :: l7 :: l8 :: l9 :: some (.long x) :: l) (st) h = wps rm K Q c_M_frame_191 kc ks (l0 :: l1 :: l2 :: l3 :: l4 :: l5 :: l6 :: l7 :: l8 :: l9 :: some (.long x) :: l) (.long x :: st) h := rfl
theorem s_M_frame_191 {x : Int32} {l0 l1 : Option Value} {l : eg_Lo} : wps rm K Q c_M_frame_191 kc ks (l0 :: l1 :: some (.int x) :: l) (st) h = wps rm K Q c_M_frame_192 kc ks (l0 :: l1 :: some (.int x) :: l) (.int x :: st) h := rfl
theorem s_M_frame_192 {x : Int32} : wps rm K Q c_M_frame_192 kc ks loc (.int x :: st) h = wps rm K Q c_M_frame_193 kc ks loc (.long (x.toInt64) :: st) h := rfl
theorem s_M_frame_193 {x y : Int64} : wps rm K Q c_M_frame_193 kc ks loc (.long y :: .long x :: st) h = wps rm K Q c_M_frame_194 kc ks loc (.long (x * y) :: st) h := rfl
theorem s_M_frame_194 {x y : Int64} : wps rm K Q c_M_frame_194 kc ks loc (.long y :: .long x :: st) h = wps rm K Q c_M_frame_195 kc ks loc (.long (x - y) :: st) h := rfl
theorem s_M_frame_195 {x : Int64} : wps rm K Q c_M_frame_195 kc ks loc (.long x :: st) h = wps rm K Q c_M_frame_197 kc ks (eg_set2 loc 18 (.long x)) (st) h := rfl
theorem s_M_frame_197 {x : Int64} {l0 l1 l2 l3 l4 l5 l6 l7 l8 l9 l10 l11 l12 l13 : Option Value} {l : eg_Lo} : wps rm K Q c_M_frame_197 kc ks (l0 :: l1 :: l2 :: l3 :: l4 :: l5 :: l6 :: l7 :: l8 :: l9 :: l10 :: l11 :: l12 :: l13 :: some (.long x) :: l) (st) h = wps rm K Q c_M_frame_199 kc ks (l0 :: l1 :: l2 :: l3 :: l4 :: l5 :: l6 :: l7 :: l8 :: l9 :: l10 :: l11 :: l12 :: l13 :: some (.long x) :: l) (.long x :: st) h := rfl
theorem s_M_frame_199  : wps rm K Q c_M_frame_199 kc ks loc (st) h = wps rm K Q c_M_frame_200 kc ks loc (.long (0) :: st) h := rfl
theorem s_M_frame_200 {x y : Int64} : wps rm K Q c_M_frame_200 kc ks loc (.long y :: .long x :: st) h = wps rm K Q c_M_frame_201 kc ks loc (.int (lg_cmp x y) :: st) h := rfl
theorem s_M_frame_201 {x : Int32} : wps rm K Q c_M_frame_201 kc ks loc (.int x :: st) h = ((¬ x = 0 → K 226 kc ks loc st h) ∧ (x = 0 → wps rm K Q c_M_frame_204 kc ks loc (st) h)) := rfl
theorem s_M_frame_204 {x : Int64} {l0 l1 l2 l3 l4 l5 l6 l7 l8 l9 l10 l11 l12 l13 l14 l15 : Option Value} {l : eg_Lo} : wps rm K Q c_M_frame_204 kc ks (l0 :: l1 :: l2 :: l3 :: l4 :: l5 :: l6 :: l7 :: l8 :: l9 :: l10 :: l11 :: l12 :: l13 :: l14 :: l15 :: some (.long x) :: l) (st) h = wps rm K Q c_M_frame_206 kc ks (l0 :: l1 :: l2 :: l3 :: l4 :: l5 :: l6 :: l7 :: l8 :: l9 :: l10 :: l11 :: l12 :: l13 :: l14 :: l15 :: some (.long x) :: l) (.long x :: st) h := rfl
theorem s_M_frame_206  : wps rm K Q c_M_frame_206 kc ks loc (st) h = wps rm K Q c_M_frame_207 kc ks loc (.long (0) :: st) h := rfl
theorem s_M_frame_207 {x y : Int64} : wps rm K Q c_M_frame_207 kc ks loc (.long y :: .long x :: st) h = wps rm K Q c_M_frame_208 kc ks loc (.int (lg_cmp x y) :: st) h := rfl
theorem s_M_frame_208 {x : Int32} : wps rm K Q c_M_frame_208 kc ks loc (.int x :: st) h = ((¬ x = 0 → K 226 kc ks loc st h) ∧ (x = 0 → wps rm K Q c_M_frame_211 kc ks loc (st) h)) := rfl
theorem s_M_frame_211 {x : Int64} {l0 l1 l2 l3 l4 l5 l6 l7 l8 l9 l10 l11 l12 l13 l14 l15 l16 l17 : Option Value} {l : eg_Lo} : wps rm K Q c_M_frame_211 kc ks (l0 :: l1 :: l2 :: l3 :: l4 :: l5 :: l6 :: l7 :: l8 :: l9 :: l10 :: l11 :: l12 :: l13 :: l14 :: l15 :: l16 :: l17 :: some (.long x) :: l) (st) h = wps rm K Q c_M_frame_213 kc ks (l0 :: l1 :: l2 :: l3 :: l4 :: l5 :: l6 :: l7 :: l8 :: l9 :: l10 :: l11 :: l12 :: l13 :: l14 :: l15 :: l16 :: l17 :: some (.long x) :: l) (.long x :: st) h := rfl
theorem s_M_frame_213  : wps rm K Q c_M_frame_213 kc ks loc (st) h = wps rm K Q c_M_frame_214 kc ks loc (.long (0) :: st) h := rfl
theorem s_M_frame_214 {x y : Int64} : wps rm K Q c_M_frame_214 kc ks loc (.long y :: .long x :: st) h = wps rm K Q c_M_frame_215 kc ks loc (.int (lg_cmp x y) :: st) h := rfl
theorem s_M_frame_215 {x : Int32} : wps rm K Q c_M_frame_215 kc ks loc (.int x :: st) h = ((¬ x = 0 → K 226 kc ks loc st h) ∧ (x = 0 → wps rm K Q c_M_frame_218 kc ks loc (st) h)) := rfl
theorem s_M_frame_218 {x : Nat} {l : eg_Lo} : wps rm K Q c_M_frame_218 kc ks (some (.ref x) :: l) (st) h = wps rm K Q c_M_frame_219 kc ks (some (.ref x) :: l) (.ref x :: st) h := rfl
theorem s_M_frame_219  : wps rm K Q c_M_frame_219 kc ks loc (st) h = wps rm K Q c_M_frame_222 kc ks loc (.long (-1000000000000000003) :: st) h := rfl
theorem s_M_frame_222  {a1 : Value} {x : Nat} : wps rm K Q c_M_frame_222 kc ks loc (a1 :: .ref (x + 1) :: st) h = (eg_cls h x 12 ∧ st.length ≤ 4 ∧ eg_Cs n_M_finding (.ref (x + 1) :: [a1]) h (fun v h9 => wps rm K Q c_M_frame_225 kc ks loc (v.toList ++ st) h9)) := eg_c1_1
theorem s_M_frame_225 {x : Int64} : wps rm K Q c_M_frame_225 kc ks loc ([.long x]) h = (kc = rm.cells ∧ Q (some (.long x)) h) := rfl
theorem s_M_frame_226 {x : Int64} {l0 l1 l2 l3 l4 l5 l6 l7 : Option Value} {l : eg_Lo} : wps rm K Q c_M_frame_226 kc ks (l0 :: l1 :: l2 :: l3 :: l4 :: l5 :: l6 :: l7 :: some (.long x) :: l) (st) h = wps rm K Q c_M_frame_228 kc ks (l0 :: l1 :: l2 :: l3 :: l4 :: l5 :: l6 :: l7 :: some (.long x) :: l) (.long x :: st) h := rfl
theorem s_M_frame_228 {x : Int64} {l0 l1 l2 l3 l4 l5 l6 l7 : Option Value} {l : eg_Lo} : wps rm K Q c_M_frame_228 kc ks (l0 :: l1 :: l2 :: l3 :: l4 :: l5 :: l6 :: l7 :: some (.long x) :: l) (st) h = wps rm K Q c_M_frame_230 kc ks (l0 :: l1 :: l2 :: l3 :: l4 :: l5 :: l6 :: l7 :: some (.long x) :: l) (.long x :: st) h := rfl
theorem s_M_frame_230 {x y : Int64} : wps rm K Q c_M_frame_230 kc ks loc (.long y :: .long x :: st) h = wps rm K Q c_M_frame_231 kc ks loc (.long (x * y) :: st) h := rfl
theorem s_M_frame_231 {x : Int64} {l0 l1 l2 l3 l4 l5 l6 l7 l8 l9 : Option Value} {l : eg_Lo} : wps rm K Q c_M_frame_231 kc ks (l0 :: l1 :: l2 :: l3 :: l4 :: l5 :: l6 :: l7 :: l8 :: l9 :: some (.long x) :: l) (st) h = wps rm K Q c_M_frame_233 kc ks (l0 :: l1 :: l2 :: l3 :: l4 :: l5 :: l6 :: l7 :: l8 :: l9 :: some (.long x) :: l) (.long x :: st) h := rfl
theorem s_M_frame_233 {x : Int64} {l0 l1 l2 l3 l4 l5 l6 l7 l8 l9 : Option Value} {l : eg_Lo} : wps rm K Q c_M_frame_233 kc ks (l0 :: l1 :: l2 :: l3 :: l4 :: l5 :: l6 :: l7 :: l8 :: l9 :: some (.long x) :: l) (st) h = wps rm K Q c_M_frame_235 kc ks (l0 :: l1 :: l2 :: l3 :: l4 :: l5 :: l6 :: l7 :: l8 :: l9 :: some (.long x) :: l) (.long x :: st) h := rfl
theorem s_M_frame_235 {x y : Int64} : wps rm K Q c_M_frame_235 kc ks loc (.long y :: .long x :: st) h = wps rm K Q c_M_frame_236 kc ks loc (.long (x * y) :: st) h := rfl
theorem s_M_frame_236 {x y : Int64} : wps rm K Q c_M_frame_236 kc ks loc (.long y :: .long x :: st) h = wps rm K Q c_M_frame_237 kc ks loc (.long (x + y) :: st) h := rfl
theorem s_M_frame_237 {x : Int64} {l0 l1 l2 l3 l4 l5 l6 l7 l8 l9 l10 l11 : Option Value} {l : eg_Lo} : wps rm K Q c_M_frame_237 kc ks (l0 :: l1 :: l2 :: l3 :: l4 :: l5 :: l6 :: l7 :: l8 :: l9 :: l10 :: l11 :: some (.long x) :: l) (st) h = wps rm K Q c_M_frame_239 kc ks (l0 :: l1 :: l2 :: l3 :: l4 :: l5 :: l6 :: l7 :: l8 :: l9 :: l10 :: l11 :: some (.long x) :: l) (.long x :: st) h := rfl
theorem s_M_frame_239 {x : Int64} {l0 l1 l2 l3 l4 l5 l6 l7 l8 l9 l10 l11 : Option Value} {l : eg_Lo} : wps rm K Q c_M_frame_239 kc ks (l0 :: l1 :: l2 :: l3 :: l4 :: l5 :: l6 :: l7 :: l8 :: l9 :: l10 :: l11 :: some (.long x) :: l) (st) h = wps rm K Q c_M_frame_241 kc ks (l0 :: l1 :: l2 :: l3 :: l4 :: l5 :: l6 :: l7 :: l8 :: l9 :: l10 :: l11 :: some (.long x) :: l) (.long x :: st) h := rfl
theorem s_M_frame_241 {x y : Int64} : wps rm K Q c_M_frame_241 kc ks loc (.long y :: .long x :: st) h = wps rm K Q c_M_frame_242 kc ks loc (.long (x * y) :: st) h := rfl
theorem s_M_frame_242 {x y : Int64} : wps rm K Q c_M_frame_242 kc ks loc (.long y :: .long x :: st) h = wps rm K Q c_M_frame_243 kc ks loc (.long (x + y) :: st) h := rfl
theorem s_M_frame_243 {x : Int64} : wps rm K Q c_M_frame_243 kc ks loc (.long x :: st) h = wps rm K Q c_M_frame_245 kc ks (eg_set2 loc 20 (.long x)) (st) h := rfl
theorem s_M_frame_245 {x : Int64} {l0 l1 l2 l3 l4 l5 l6 l7 : Option Value} {l : eg_Lo} : wps rm K Q c_M_frame_245 kc ks (l0 :: l1 :: l2 :: l3 :: l4 :: l5 :: l6 :: l7 :: some (.long x) :: l) (st) h = wps rm K Q c_M_frame_247 kc ks (l0 :: l1 :: l2 :: l3 :: l4 :: l5 :: l6 :: l7 :: some (.long x) :: l) (.long x :: st) h := rfl
theorem s_M_frame_247 {x : Int32} {l0 l1 : Option Value} {l : eg_Lo} : wps rm K Q c_M_frame_247 kc ks (l0 :: l1 :: some (.int x) :: l) (st) h = wps rm K Q c_M_frame_248 kc ks (l0 :: l1 :: some (.int x) :: l) (.int x :: st) h := rfl
theorem s_M_frame_248 {x : Int32} : wps rm K Q c_M_frame_248 kc ks loc (.int x :: st) h = wps rm K Q c_M_frame_249 kc ks loc (.long (x.toInt64) :: st) h := rfl
theorem s_M_frame_249 {x y : Int64} : wps rm K Q c_M_frame_249 kc ks loc (.long y :: .long x :: st) h = wps rm K Q c_M_frame_250 kc ks loc (.long (x * y) :: st) h := rfl
theorem s_M_frame_250 {x : Int64} {l0 l1 l2 l3 l4 l5 l6 l7 l8 l9 : Option Value} {l : eg_Lo} : wps rm K Q c_M_frame_250 kc ks (l0 :: l1 :: l2 :: l3 :: l4 :: l5 :: l6 :: l7 :: l8 :: l9 :: some (.long x) :: l) (st) h = wps rm K Q c_M_frame_252 kc ks (l0 :: l1 :: l2 :: l3 :: l4 :: l5 :: l6 :: l7 :: l8 :: l9 :: some (.long x) :: l) (.long x :: st) h := rfl
theorem s_M_frame_252 {x : Int32} {l0 l1 l2 : Option Value} {l : eg_Lo} : wps rm K Q c_M_frame_252 kc ks (l0 :: l1 :: l2 :: some (.int x) :: l) (st) h = wps rm K Q c_M_frame_253 kc ks (l0 :: l1 :: l2 :: some (.int x) :: l) (.int x :: st) h := rfl
theorem s_M_frame_253 {x : Int32} : wps rm K Q c_M_frame_253 kc ks loc (.int x :: st) h = wps rm K Q c_M_frame_254 kc ks loc (.long (x.toInt64) :: st) h := rfl
theorem s_M_frame_254 {x y : Int64} : wps rm K Q c_M_frame_254 kc ks loc (.long y :: .long x :: st) h = wps rm K Q c_M_frame_255 kc ks loc (.long (x * y) :: st) h := rfl
theorem s_M_frame_255 {x y : Int64} : wps rm K Q c_M_frame_255 kc ks loc (.long y :: .long x :: st) h = wps rm K Q c_M_frame_256 kc ks loc (.long (x + y) :: st) h := rfl
theorem s_M_frame_256 {x : Int64} {l0 l1 l2 l3 l4 l5 l6 l7 l8 l9 l10 l11 : Option Value} {l : eg_Lo} : wps rm K Q c_M_frame_256 kc ks (l0 :: l1 :: l2 :: l3 :: l4 :: l5 :: l6 :: l7 :: l8 :: l9 :: l10 :: l11 :: some (.long x) :: l) (st) h = wps rm K Q c_M_frame_258 kc ks (l0 :: l1 :: l2 :: l3 :: l4 :: l5 :: l6 :: l7 :: l8 :: l9 :: l10 :: l11 :: some (.long x) :: l) (.long x :: st) h := rfl
theorem s_M_frame_258 {x : Int32} {l0 l1 l2 l3 : Option Value} {l : eg_Lo} : wps rm K Q c_M_frame_258 kc ks (l0 :: l1 :: l2 :: l3 :: some (.int x) :: l) (st) h = wps rm K Q c_M_frame_260 kc ks (l0 :: l1 :: l2 :: l3 :: some (.int x) :: l) (.int x :: st) h := rfl
theorem s_M_frame_260 {x : Int32} : wps rm K Q c_M_frame_260 kc ks loc (.int x :: st) h = wps rm K Q c_M_frame_261 kc ks loc (.long (x.toInt64) :: st) h := rfl
theorem s_M_frame_261 {x y : Int64} : wps rm K Q c_M_frame_261 kc ks loc (.long y :: .long x :: st) h = wps rm K Q c_M_frame_262 kc ks loc (.long (x * y) :: st) h := rfl
theorem s_M_frame_262 {x y : Int64} : wps rm K Q c_M_frame_262 kc ks loc (.long y :: .long x :: st) h = wps rm K Q c_M_frame_263 kc ks loc (.long (x + y) :: st) h := rfl
theorem s_M_frame_263 {x : Int64} : wps rm K Q c_M_frame_263 kc ks loc (.long x :: st) h = wps rm K Q c_M_frame_265 kc ks (eg_set2 loc 22 (.long x)) (st) h := rfl
theorem s_M_frame_265 {x : Int64} {l0 l1 l2 l3 l4 l5 l6 l7 : Option Value} {l : eg_Lo} : wps rm K Q c_M_frame_265 kc ks (l0 :: l1 :: l2 :: l3 :: l4 :: l5 :: l6 :: l7 :: some (.long x) :: l) (st) h = wps rm K Q c_M_frame_267 kc ks (l0 :: l1 :: l2 :: l3 :: l4 :: l5 :: l6 :: l7 :: some (.long x) :: l) (.long x :: st) h := rfl
theorem s_M_frame_267 {x : Int64} {l0 l1 l2 l3 l4 l5 l6 l7 l8 l9 : Option Value} {l : eg_Lo} : wps rm K Q c_M_frame_267 kc ks (l0 :: l1 :: l2 :: l3 :: l4 :: l5 :: l6 :: l7 :: l8 :: l9 :: some (.long x) :: l) (st) h = wps rm K Q c_M_frame_269 kc ks (l0 :: l1 :: l2 :: l3 :: l4 :: l5 :: l6 :: l7 :: l8 :: l9 :: some (.long x) :: l) (.long x :: st) h := rfl
theorem s_M_frame_269 {x : Int64} {l0 l1 l2 l3 l4 l5 l6 l7 l8 l9 l10 l11 : Option Value} {l : eg_Lo} : wps rm K Q c_M_frame_269 kc ks (l0 :: l1 :: l2 :: l3 :: l4 :: l5 :: l6 :: l7 :: l8 :: l9 :: l10 :: l11 :: some (.long x) :: l) (st) h = wps rm K Q c_M_frame_271 kc ks (l0 :: l1 :: l2 :: l3 :: l4 :: l5 :: l6 :: l7 :: l8 :: l9 :: l10 :: l11 :: some (.long x) :: l) (.long x :: st) h := rfl
theorem s_M_frame_271 {x : Nat} {l : eg_Lo} : wps rm K Q c_M_frame_271 kc ks (some (.ref x) :: l) (st) h = wps rm K Q c_M_frame_272 kc ks (some (.ref x) :: l) (.ref x :: st) h := rfl
theorem s_M_frame_272 {x : Nat} : wps rm K Q c_M_frame_272 kc ks loc (.ref (x + 1) :: st) h = eg_gf h x 12 15 (fun v => wps rm K Q c_M_frame_275 kc ks loc (v :: st) h) := rfl
theorem s_M_frame_275  : wps rm K Q c_M_frame_275 kc ks loc (st) h = wps rm K Q c_M_frame_276 kc ks loc (.int (0) :: st) h := rfl
theorem s_M_frame_276  : wps rm K Q c_M_frame_276 kc ks loc (st) h = wps rm K Q c_M_frame_277 kc ks loc (.int (0) :: st) h := rfl
theorem s_M_frame_277  {a1 : Value} {a2 : Value} {a3 : Value} {a4 : Value} {a5 : Value} {a6 : Value} : wps rm K Q c_M_frame_277 kc ks loc (a6 :: a5 :: a4 :: a3 :: a2 :: a1 :: st) h = (st.length ≤ 4 ∧ eg_Cs n_M_lowest [a1, a2, a3, a4, a5, a6] h (fun v h9 => wps rm K Q c_M_frame_280 kc ks loc (v.toList ++ st) h9)) := eg_c0_6
theorem s_M_frame_280 {x : Int32} {l0 l1 : Option Value} {l : eg_Lo} : wps rm K Q c_M_frame_280 kc ks (l0 :: l1 :: some (.int x) :: l) (st) h = wps rm K Q c_M_frame_281 kc ks (l0 :: l1 :: some (.int x) :: l) (.int x :: st) h := rfl
theorem s_M_frame_281 {x : Int32} : wps rm K Q c_M_frame_281 kc ks loc (.int x :: st) h = wps rm K Q c_M_frame_282 kc ks loc (.long (x.toInt64) :: st) h := rfl
theorem s_M_frame_282 {x : Int64} {l0 l1 l2 l3 l4 l5 l6 l7 l8 l9 l10 l11 l12 l13 l14 l15 l16 l17 l18 l19 : Option Value} {l : eg_Lo} : wps rm K Q c_M_frame_282 kc ks (l0 :: l1 :: l2 :: l3 :: l4 :: l5 :: l6 :: l7 :: l8 :: l9 :: l10 :: l11 :: l12 :: l13 :: l14 :: l15 :: l16 :: l17 :: l18 :: l19 :: some (.long x) :: l) (st) h = wps rm K Q c_M_frame_284 kc ks (l0 :: l1 :: l2 :: l3 :: l4 :: l5 :: l6 :: l7 :: l8 :: l9 :: l10 :: l11 :: l12 :: l13 :: l14 :: l15 :: l16 :: l17 :: l18 :: l19 :: some (.long x) :: l) (.long x :: st) h := rfl
theorem s_M_frame_284 {x y : Int64} : wps rm K Q c_M_frame_284 kc ks loc (.long y :: .long x :: st) h = wps rm K Q c_M_frame_285 kc ks loc (.long (x * y) :: st) h := rfl
theorem s_M_frame_285 {x : Int64} {l0 l1 l2 l3 l4 l5 l6 l7 : Option Value} {l : eg_Lo} : wps rm K Q c_M_frame_285 kc ks (l0 :: l1 :: l2 :: l3 :: l4 :: l5 :: l6 :: l7 :: some (.long x) :: l) (st) h = wps rm K Q c_M_frame_287 kc ks (l0 :: l1 :: l2 :: l3 :: l4 :: l5 :: l6 :: l7 :: some (.long x) :: l) (.long x :: st) h := rfl
theorem s_M_frame_287 {x : Int64} {l0 l1 l2 l3 l4 l5 l6 l7 l8 l9 l10 l11 l12 l13 l14 l15 l16 l17 l18 l19 l20 l21 : Option Value} {l : eg_Lo} : wps rm K Q c_M_frame_287 kc ks (l0 :: l1 :: l2 :: l3 :: l4 :: l5 :: l6 :: l7 :: l8 :: l9 :: l10 :: l11 :: l12 :: l13 :: l14 :: l15 :: l16 :: l17 :: l18 :: l19 :: l20 :: l21 :: some (.long x) :: l) (st) h = wps rm K Q c_M_frame_289 kc ks (l0 :: l1 :: l2 :: l3 :: l4 :: l5 :: l6 :: l7 :: l8 :: l9 :: l10 :: l11 :: l12 :: l13 :: l14 :: l15 :: l16 :: l17 :: l18 :: l19 :: l20 :: l21 :: some (.long x) :: l) (.long x :: st) h := rfl
theorem s_M_frame_289 {x y : Int64} : wps rm K Q c_M_frame_289 kc ks loc (.long y :: .long x :: st) h = wps rm K Q c_M_frame_290 kc ks loc (.long (x * y) :: st) h := rfl
theorem s_M_frame_290 {x y : Int64} : wps rm K Q c_M_frame_290 kc ks loc (.long y :: .long x :: st) h = wps rm K Q c_M_frame_291 kc ks loc (.long (x - y) :: st) h := rfl
theorem s_M_frame_291 {x : Int32} {l0 l1 l2 : Option Value} {l : eg_Lo} : wps rm K Q c_M_frame_291 kc ks (l0 :: l1 :: l2 :: some (.int x) :: l) (st) h = wps rm K Q c_M_frame_292 kc ks (l0 :: l1 :: l2 :: some (.int x) :: l) (.int x :: st) h := rfl
theorem s_M_frame_292 {x : Int32} : wps rm K Q c_M_frame_292 kc ks loc (.int x :: st) h = wps rm K Q c_M_frame_293 kc ks loc (.long (x.toInt64) :: st) h := rfl
theorem s_M_frame_293 {x : Int64} {l0 l1 l2 l3 l4 l5 l6 l7 l8 l9 l10 l11 l12 l13 l14 l15 l16 l17 l18 l19 : Option Value} {l : eg_Lo} : wps rm K Q c_M_frame_293 kc ks (l0 :: l1 :: l2 :: l3 :: l4 :: l5 :: l6 :: l7 :: l8 :: l9 :: l10 :: l11 :: l12 :: l13 :: l14 :: l15 :: l16 :: l17 :: l18 :: l19 :: some (.long x) :: l) (st) h = wps rm K Q c_M_frame_295 kc ks (l0 :: l1 :: l2 :: l3 :: l4 :: l5 :: l6 :: l7 :: l8 :: l9 :: l10 :: l11 :: l12 :: l13 :: l14 :: l15 :: l16 :: l17 :: l18 :: l19 :: some (.long x) :: l) (.long x :: st) h := rfl
theorem s_M_frame_295 {x y : Int64} : wps rm K Q c_M_frame_295 kc ks loc (.long y :: .long x :: st) h = wps rm K Q c_M_frame_296 kc ks loc (.long (x * y) :: st) h := rfl
theorem s_M_frame_296 {x : Int64} {l0 l1 l2 l3 l4 l5 l6 l7 l8 l9 : Option Value} {l : eg_Lo} : wps rm K Q c_M_frame_296 kc ks (l0 :: l1 :: l2 :: l3 :: l4 :: l5 :: l6 :: l7 :: l8 :: l9 :: some (.long x) :: l) (st) h = wps rm K Q c_M_frame_298 kc ks (l0 :: l1 :: l2 :: l3 :: l4 :: l5 :: l6 :: l7 :: l8 :: l9 :: some (.long x) :: l) (.long x :: st) h := rfl
theorem s_M_frame_298 {x : Int64} {l0 l1 l2 l3 l4 l5 l6 l7 l8 l9 l10 l11 l12 l13 l14 l15 l16 l17 l18 l19 l20 l21 : Option Value} {l : eg_Lo} : wps rm K Q c_M_frame_298 kc ks (l0 :: l1 :: l2 :: l3 :: l4 :: l5 :: l6 :: l7 :: l8 :: l9 :: l10 :: l11 :: l12 :: l13 :: l14 :: l15 :: l16 :: l17 :: l18 :: l19 :: l20 :: l21 :: some (.long x) :: l) (st) h = wps rm K Q c_M_frame_300 kc ks (l0 :: l1 :: l2 :: l3 :: l4 :: l5 :: l6 :: l7 :: l8 :: l9 :: l10 :: l11 :: l12 :: l13 :: l14 :: l15 :: l16 :: l17 :: l18 :: l19 :: l20 :: l21 :: some (.long x) :: l) (.long x :: st) h := rfl
theorem s_M_frame_300 {x y : Int64} : wps rm K Q c_M_frame_300 kc ks loc (.long y :: .long x :: st) h = wps rm K Q c_M_frame_301 kc ks loc (.long (x * y) :: st) h := rfl
theorem s_M_frame_301 {x y : Int64} : wps rm K Q c_M_frame_301 kc ks loc (.long y :: .long x :: st) h = wps rm K Q c_M_frame_302 kc ks loc (.long (x - y) :: st) h := rfl
theorem s_M_frame_302 {x : Int32} {l0 l1 l2 l3 : Option Value} {l : eg_Lo} : wps rm K Q c_M_frame_302 kc ks (l0 :: l1 :: l2 :: l3 :: some (.int x) :: l) (st) h = wps rm K Q c_M_frame_304 kc ks (l0 :: l1 :: l2 :: l3 :: some (.int x) :: l) (.int x :: st) h := rfl
theorem s_M_frame_304 {x : Int32} : wps rm K Q c_M_frame_304 kc ks loc (.int x :: st) h = wps rm K Q c_M_frame_305 kc ks loc (.long (x.toInt64) :: st) h := rfl
theorem s_M_frame_305 {x : Int64} {l0 l1 l2 l3 l4 l5 l6 l7 l8 l9 l10 l11 l12 l13 l14 l15 l16 l17 l18 l19 : Option Value} {l : eg_Lo} : wps rm K Q c_M_frame_305 kc ks (l0 :: l1 :: l2 :: l3 :: l4 :: l5 :: l6 :: l7 :: l8 :: l9 :: l10 :: l11 :: l12 :: l13 :: l14 :: l15 :: l16 :: l17 :: l18 :: l19 :: some (.long x) :: l) (st) h = wps rm K Q c_M_frame_307 kc ks (l0 :: l1 :: l2 :: l3 :: l4 :: l5 :: l6 :: l7 :: l8 :: l9 :: l10 :: l11 :: l12 :: l13 :: l14 :: l15 :: l16 :: l17 :: l18 :: l19 :: some (.long x) :: l) (.long x :: st) h := rfl
theorem s_M_frame_307 {x y : Int64} : wps rm K Q c_M_frame_307 kc ks loc (.long y :: .long x :: st) h = wps rm K Q c_M_frame_308 kc ks loc (.long (x * y) :: st) h := rfl
theorem s_M_frame_308 {x : Int64} {l0 l1 l2 l3 l4 l5 l6 l7 l8 l9 l10 l11 : Option Value} {l : eg_Lo} : wps rm K Q c_M_frame_308 kc ks (l0 :: l1 :: l2 :: l3 :: l4 :: l5 :: l6 :: l7 :: l8 :: l9 :: l10 :: l11 :: some (.long x) :: l) (st) h = wps rm K Q c_M_frame_310 kc ks (l0 :: l1 :: l2 :: l3 :: l4 :: l5 :: l6 :: l7 :: l8 :: l9 :: l10 :: l11 :: some (.long x) :: l) (.long x :: st) h := rfl
theorem s_M_frame_310 {x : Int64} {l0 l1 l2 l3 l4 l5 l6 l7 l8 l9 l10 l11 l12 l13 l14 l15 l16 l17 l18 l19 l20 l21 : Option Value} {l : eg_Lo} : wps rm K Q c_M_frame_310 kc ks (l0 :: l1 :: l2 :: l3 :: l4 :: l5 :: l6 :: l7 :: l8 :: l9 :: l10 :: l11 :: l12 :: l13 :: l14 :: l15 :: l16 :: l17 :: l18 :: l19 :: l20 :: l21 :: some (.long x) :: l) (st) h = wps rm K Q c_M_frame_312 kc ks (l0 :: l1 :: l2 :: l3 :: l4 :: l5 :: l6 :: l7 :: l8 :: l9 :: l10 :: l11 :: l12 :: l13 :: l14 :: l15 :: l16 :: l17 :: l18 :: l19 :: l20 :: l21 :: some (.long x) :: l) (.long x :: st) h := rfl
theorem s_M_frame_312 {x y : Int64} : wps rm K Q c_M_frame_312 kc ks loc (.long y :: .long x :: st) h = wps rm K Q c_M_frame_313 kc ks loc (.long (x * y) :: st) h := rfl
theorem s_M_frame_313 {x y : Int64} : wps rm K Q c_M_frame_313 kc ks loc (.long y :: .long x :: st) h = wps rm K Q c_M_frame_314 kc ks loc (.long (x - y) :: st) h := rfl
theorem s_M_frame_314 {x : Nat} {l : eg_Lo} : wps rm K Q c_M_frame_314 kc ks (some (.ref x) :: l) (st) h = wps rm K Q c_M_frame_315 kc ks (some (.ref x) :: l) (.ref x :: st) h := rfl
theorem s_M_frame_315 {x : Nat} : wps rm K Q c_M_frame_315 kc ks loc (.ref (x + 1) :: st) h = eg_gf h x 12 15 (fun v => wps rm K Q c_M_frame_318 kc ks loc (v :: st) h) := rfl
theorem s_M_frame_318  : wps rm K Q c_M_frame_318 kc ks loc (st) h = wps rm K Q c_M_frame_319 kc ks loc (.int (3) :: st) h := rfl
theorem s_M_frame_319  : wps rm K Q c_M_frame_319 kc ks loc (st) h = wps rm K Q c_M_frame_320 kc ks loc (.int (0) :: st) h := rfl
theorem s_M_frame_320  {a1 : Value} {a2 : Value} {a3 : Value} {a4 : Value} {a5 : Value} {a6 : Value} : wps rm K Q c_M_frame_320 kc ks loc (a6 :: a5 :: a4 :: a3 :: a2 :: a1 :: st) h = (st.length ≤ 4 ∧ eg_Cs n_M_lowest [a1, a2, a3, a4, a5, a6] h (fun v h9 => wps rm K Q c_M_frame_323 kc ks loc (v.toList ++ st) h9)) := eg_c0_6
theorem s_M_frame_323 {x : Int64} {l0 l1 l2 l3 l4 l5 l6 l7 l8 l9 l10 l11 l12 l13 : Option Value} {l : eg_Lo} : wps rm K Q c_M_frame_323 kc ks (l0 :: l1 :: l2 :: l3 :: l4 :: l5 :: l6 :: l7 :: l8 :: l9 :: l10 :: l11 :: l12 :: l13 :: some (.long x) :: l) (st) h = wps rm K Q c_M_frame_325 kc ks (l0 :: l1 :: l2 :: l3 :: l4 :: l5 :: l6 :: l7 :: l8 :: l9 :: l10 :: l11 :: l12 :: l13 :: some (.long x) :: l) (.long x :: st) h := rfl
theorem s_M_frame_325 {x : Int64} {l0 l1 l2 l3 l4 l5 l6 l7 l8 l9 l10 l11 l12 l13 l14 l15 : Option Value} {l : eg_Lo} : wps rm K Q c_M_frame_325 kc ks (l0 :: l1 :: l2 :: l3 :: l4 :: l5 :: l6 :: l7 :: l8 :: l9 :: l10 :: l11 :: l12 :: l13 :: l14 :: l15 :: some (.long x) :: l) (st) h = wps rm K Q c_M_frame_327 kc ks (l0 :: l1 :: l2 :: l3 :: l4 :: l5 :: l6 :: l7 :: l8 :: l9 :: l10 :: l11 :: l12 :: l13 :: l14 :: l15 :: some (.long x) :: l) (.long x :: st) h := rfl
theorem s_M_frame_327 {x : Int64} {l0 l1 l2 l3 l4 l5 l6 l7 l8 l9 l10 l11 l12 l13 l14 l15 l16 l17 : Option Value} {l : eg_Lo} : wps rm K Q c_M_frame_327 kc ks (l0 :: l1 :: l2 :: l3 :: l4 :: l5 :: l6 :: l7 :: l8 :: l9 :: l10 :: l11 :: l12 :: l13 :: l14 :: l15 :: l16 :: l17 :: some (.long x) :: l) (st) h = wps rm K Q c_M_frame_329 kc ks (l0 :: l1 :: l2 :: l3 :: l4 :: l5 :: l6 :: l7 :: l8 :: l9 :: l10 :: l11 :: l12 :: l13 :: l14 :: l15 :: l16 :: l17 :: some (.long x) :: l) (.long x :: st) h := rfl
theorem s_M_frame_329 {x : Nat} {l : eg_Lo} : wps rm K Q c_M_frame_329 kc ks (some (.ref x) :: l) (st) h = wps rm K Q c_M_frame_330 kc ks (some (.ref x) :: l) (.ref x :: st) h := rfl
theorem s_M_frame_330 {x : Nat} : wps rm K Q c_M_frame_330 kc ks loc (.ref (x + 1) :: st) h = eg_gf h x 12 15 (fun v => wps rm K Q c_M_frame_333 kc ks loc (v :: st) h) := rfl
theorem s_M_frame_333  : wps rm K Q c_M_frame_333 kc ks loc (st) h = wps rm K Q c_M_frame_335 kc ks loc (.int (6) :: st) h := rfl
theorem s_M_frame_335  : wps rm K Q c_M_frame_335 kc ks loc (st) h = wps rm K Q c_M_frame_336 kc ks loc (.int (0) :: st) h := rfl
theorem s_M_frame_336  {a1 : Value} {a2 : Value} {a3 : Value} {a4 : Value} {a5 : Value} {a6 : Value} : wps rm K Q c_M_frame_336 kc ks loc (a6 :: a5 :: a4 :: a3 :: a2 :: a1 :: st) h = (st.length ≤ 4 ∧ eg_Cs n_M_lowest [a1, a2, a3, a4, a5, a6] h (fun v h9 => wps rm K Q c_M_frame_339 kc ks loc (v.toList ++ st) h9)) := eg_c0_6
theorem s_M_frame_339 {x : Nat} {l : eg_Lo} : wps rm K Q c_M_frame_339 kc ks (some (.ref x) :: l) (st) h = wps rm K Q c_M_frame_340 kc ks (some (.ref x) :: l) (.ref x :: st) h := rfl
theorem s_M_frame_340 {x : Nat} : wps rm K Q c_M_frame_340 kc ks loc (.ref (x + 1) :: st) h = eg_gf h x 12 16 (fun v => wps rm K Q c_M_frame_343 kc ks loc (v :: st) h) := rfl
theorem s_M_frame_343  : wps rm K Q c_M_frame_343 kc ks loc (st) h = wps rm K Q c_M_frame_344 kc ks loc (.int (0) :: st) h := rfl
theorem s_M_frame_344 {x : Nat} {l : eg_Lo} : wps rm K Q c_M_frame_344 kc ks (some (.ref x) :: l) (st) h = wps rm K Q c_M_frame_345 kc ks (some (.ref x) :: l) (.ref x :: st) h := rfl
theorem s_M_frame_345 {x : Nat} : wps rm K Q c_M_frame_345 kc ks loc (.ref (x + 1) :: st) h = eg_gf h x 12 1 (fun v => wps rm K Q c_M_frame_348 kc ks loc (v :: st) h) := rfl
theorem s_M_frame_348 {x : Int32} {l0 l1 l2 l3 l4 l5 l6 : Option Value} {l : eg_Lo} : wps rm K Q c_M_frame_348 kc ks (l0 :: l1 :: l2 :: l3 :: l4 :: l5 :: l6 :: some (.int x) :: l) (st) h = wps rm K Q c_M_frame_350 kc ks (l0 :: l1 :: l2 :: l3 :: l4 :: l5 :: l6 :: some (.int x) :: l) (.int x :: st) h := rfl
theorem s_M_frame_350 {x : Nat} {i : Int32} : wps rm K Q c_M_frame_350 kc ks loc (.int i :: .ref (x + 1) :: st) h = eg_ia h x i (fun v => wps rm K Q c_M_frame_351 kc ks loc (.int v :: st) h) := rfl
theorem s_M_frame_351 {x : Nat} {i : Int32} {v : Int32} : wps rm K Q c_M_frame_351 kc ks loc (.int v :: .int i :: .ref (x + 1) :: st) h = eg_is h x i v (fun h9 => wps rm K Q c_M_frame_352 kc ks loc (st) h9) := rfl
theorem s_M_frame_352 {x : Nat} {l : eg_Lo} : wps rm K Q c_M_frame_352 kc ks (some (.ref x) :: l) (st) h = wps rm K Q c_M_frame_353 kc ks (some (.ref x) :: l) (.ref x :: st) h := rfl
theorem s_M_frame_353 {x : Nat} : wps rm K Q c_M_frame_353 kc ks loc (.ref (x + 1) :: st) h = eg_gf h x 12 16 (fun v => wps rm K Q c_M_frame_356 kc ks loc (v :: st) h) := rfl
theorem s_M_frame_356  : wps rm K Q c_M_frame_356 kc ks loc (st) h = wps rm K Q c_M_frame_357 kc ks loc (.int (1) :: st) h := rfl
theorem s_M_frame_357 {x : Nat} {l : eg_Lo} : wps rm K Q c_M_frame_357 kc ks (some (.ref x) :: l) (st) h = wps rm K Q c_M_frame_358 kc ks (some (.ref x) :: l) (.ref x :: st) h := rfl
theorem s_M_frame_358 {x : Nat} : wps rm K Q c_M_frame_358 kc ks loc (.ref (x + 1) :: st) h = eg_gf h x 12 2 (fun v => wps rm K Q c_M_frame_361 kc ks loc (v :: st) h) := rfl
theorem s_M_frame_361 {x : Int32} {l0 l1 l2 l3 l4 l5 l6 : Option Value} {l : eg_Lo} : wps rm K Q c_M_frame_361 kc ks (l0 :: l1 :: l2 :: l3 :: l4 :: l5 :: l6 :: some (.int x) :: l) (st) h = wps rm K Q c_M_frame_363 kc ks (l0 :: l1 :: l2 :: l3 :: l4 :: l5 :: l6 :: some (.int x) :: l) (.int x :: st) h := rfl
theorem s_M_frame_363 {x : Nat} {i : Int32} : wps rm K Q c_M_frame_363 kc ks loc (.int i :: .ref (x + 1) :: st) h = eg_ia h x i (fun v => wps rm K Q c_M_frame_364 kc ks loc (.int v :: st) h) := rfl
theorem s_M_frame_364 {x : Nat} {i : Int32} {v : Int32} : wps rm K Q c_M_frame_364 kc ks loc (.int v :: .int i :: .ref (x + 1) :: st) h = eg_is h x i v (fun h9 => wps rm K Q c_M_frame_365 kc ks loc (st) h9) := rfl
theorem s_M_frame_365 {x : Nat} {l : eg_Lo} : wps rm K Q c_M_frame_365 kc ks (some (.ref x) :: l) (st) h = wps rm K Q c_M_frame_366 kc ks (some (.ref x) :: l) (.ref x :: st) h := rfl
theorem s_M_frame_366 {x : Nat} : wps rm K Q c_M_frame_366 kc ks loc (.ref (x + 1) :: st) h = eg_gf h x 12 16 (fun v => wps rm K Q c_M_frame_369 kc ks loc (v :: st) h) := rfl
theorem s_M_frame_369  : wps rm K Q c_M_frame_369 kc ks loc (st) h = wps rm K Q c_M_frame_370 kc ks loc (.int (2) :: st) h := rfl
theorem s_M_frame_370 {x : Nat} {l : eg_Lo} : wps rm K Q c_M_frame_370 kc ks (some (.ref x) :: l) (st) h = wps rm K Q c_M_frame_371 kc ks (some (.ref x) :: l) (.ref x :: st) h := rfl
theorem s_M_frame_371 {x : Nat} : wps rm K Q c_M_frame_371 kc ks loc (.ref (x + 1) :: st) h = eg_gf h x 12 3 (fun v => wps rm K Q c_M_frame_374 kc ks loc (v :: st) h) := rfl
theorem s_M_frame_374 {x : Int32} {l0 l1 l2 l3 l4 l5 l6 : Option Value} {l : eg_Lo} : wps rm K Q c_M_frame_374 kc ks (l0 :: l1 :: l2 :: l3 :: l4 :: l5 :: l6 :: some (.int x) :: l) (st) h = wps rm K Q c_M_frame_376 kc ks (l0 :: l1 :: l2 :: l3 :: l4 :: l5 :: l6 :: some (.int x) :: l) (.int x :: st) h := rfl
theorem s_M_frame_376 {x : Nat} {i : Int32} : wps rm K Q c_M_frame_376 kc ks loc (.int i :: .ref (x + 1) :: st) h = eg_ia h x i (fun v => wps rm K Q c_M_frame_377 kc ks loc (.int v :: st) h) := rfl
theorem s_M_frame_377 {x : Nat} {i : Int32} {v : Int32} : wps rm K Q c_M_frame_377 kc ks loc (.int v :: .int i :: .ref (x + 1) :: st) h = eg_is h x i v (fun h9 => wps rm K Q c_M_frame_378 kc ks loc (st) h9) := rfl
theorem s_M_frame_378 {x : Nat} {l : eg_Lo} : wps rm K Q c_M_frame_378 kc ks (some (.ref x) :: l) (st) h = wps rm K Q c_M_frame_379 kc ks (some (.ref x) :: l) (.ref x :: st) h := rfl
theorem s_M_frame_379  : wps rm K Q c_M_frame_379 kc ks loc (st) h = wps rm K Q c_M_frame_380 kc ks loc (.int (1) :: st) h := rfl
theorem s_M_frame_380 {x : Nat} {v : Int32} : wps rm K Q c_M_frame_380 kc ks loc (.int v :: .ref (x + 1) :: st) h = eg_pb h x 12 14 v (fun h9 => wps rm K Q c_M_frame_383 kc ks loc (st) h9) := rfl
theorem s_M_frame_383  : wps rm K Q c_M_frame_383 kc ks loc (st) h = wps rm K Q c_M_frame_384 kc ks loc (.long (1) :: st) h := rfl
theorem s_M_frame_384 {x : Int64} : wps rm K Q c_M_frame_384 kc ks loc ([.long x]) h = (kc = rm.cells ∧ Q (some (.long x)) h) := rfl
def T_M_frame : List (Nat × List eg_I) := [(52, c_M_frame_52), (60, c_M_frame_60), (77, c_M_frame_77), (95, c_M_frame_95), (122, c_M_frame_122), (226, c_M_frame_226)]
theorem j_M_frame_52 {R : Nat → Nat → Nat → eg_Lo → List Value → List eg_E → Prop} {f pc0 : Nat} : eg_run rm R Q T_M_frame (f + 1) 52 kc ks loc st h = wps rm (eg_run rm R Q T_M_frame f) Q c_M_frame_52 kc ks loc st h := rfl
theorem j_M_frame_60 {R : Nat → Nat → Nat → eg_Lo → List Value → List eg_E → Prop} {f pc0 : Nat} : eg_run rm R Q T_M_frame (f + 1) 60 kc ks loc st h = wps rm (eg_run rm R Q T_M_frame f) Q c_M_frame_60 kc ks loc st h := rfl
theorem j_M_frame_77 {R : Nat → Nat → Nat → eg_Lo → List Value → List eg_E → Prop} {f pc0 : Nat} : eg_run rm R Q T_M_frame (f + 1) 77 kc ks loc st h = wps rm (eg_run rm R Q T_M_frame f) Q c_M_frame_77 kc ks loc st h := rfl
theorem j_M_frame_95 {R : Nat → Nat → Nat → eg_Lo → List Value → List eg_E → Prop} {f pc0 : Nat} : eg_run rm R Q T_M_frame (f + 1) 95 kc ks loc st h = wps rm (eg_run rm R Q T_M_frame f) Q c_M_frame_95 kc ks loc st h := rfl
theorem j_M_frame_122 {R : Nat → Nat → Nat → eg_Lo → List Value → List eg_E → Prop} {f pc0 : Nat} : eg_run rm R Q T_M_frame (f + 1) 122 kc ks loc st h = wps rm (eg_run rm R Q T_M_frame f) Q c_M_frame_122 kc ks loc st h := rfl
theorem j_M_frame_226 {R : Nat → Nat → Nat → eg_Lo → List Value → List eg_E → Prop} {f pc0 : Nat} : eg_run rm R Q T_M_frame (f + 1) 226 kc ks loc st h = wps rm (eg_run rm R Q T_M_frame f) Q c_M_frame_226 kc ks loc st h := rfl
end
theorem q_M_frame : (T_M_frame.all fun q => eg_seq m_M_frame q.1 q.2) = true := by decide +kernel
theorem b_M_frame {as : List Value} {h : List eg_E} {Q : Option Value → List eg_E → Prop} (hf : (eg_fl as).length ≤ 24) (hw : wps (eg_rm m_M_frame) (eg_run (eg_rm m_M_frame) (eg_R m_M_frame Q (h.length + 0)) Q T_M_frame 8) Q c_M_frame_0 0 0 (eg_entry 24 as) [] h) : eg_Runs n_M_frame as h Q := eg_begin (d := m_M_frame) rfl (by decide) (by decide +kernel) q_M_frame hf hw
/-! ===== M_axis ===== -/
def c_M_axis_53 : List eg_I := .inl (53, 1, .lreturn, 0, 0) :: []
def c_M_axis_50 : List eg_I := .inr (50, 1, 112, n_M_finding, 1, 12, 0, 0) :: c_M_axis_53
def c_M_axis_47 : List eg_I := .inl (47, 3, .sipush (-1000000000000000006), 138, 0) :: c_M_axis_50
def c_M_axis_46 : List eg_I := .inl (46, 1, .aload 0, 0, 0) :: c_M_axis_47
def c_M_axis_43 : List eg_I := .inl (43, 3, .goto (10), 53, 0) :: []
def c_M_axis_42 : List eg_I := .inl (42, 1, .laload, 0, 0) :: c_M_axis_43
def c_M_axis_41 : List eg_I := .inl (41, 1, .iadd, 0, 0) :: c_M_axis_42
def c_M_axis_40 : List eg_I := .inl (40, 1, .iload 2, 0, 0) :: c_M_axis_41
def c_M_axis_39 : List eg_I := .inl (39, 1, .imul, 0, 0) :: c_M_axis_40
def c_M_axis_38 : List eg_I := .inl (38, 1, .iload 1, 0, 0) :: c_M_axis_39
def c_M_axis_37 : List eg_I := .inl (37, 1, .iconst (3), 0, 0) :: c_M_axis_38
def c_M_axis_34 : List eg_I := .inl (34, 3, .getfield 54, 12, 15) :: c_M_axis_37
def c_M_axis_33 : List eg_I := .inl (33, 1, .aload 0, 0, 0) :: c_M_axis_34
def c_M_axis_30 : List eg_I := .inl (30, 3, .ifCond .eq (16), 46, 0) :: c_M_axis_33
def c_M_axis_27 : List eg_I := .inl (27, 3, .getfield 273, 12, 14) :: c_M_axis_30
def c_M_axis_26 : List eg_I := .inl (26, 1, .aload 0, 0, 0) :: c_M_axis_27
def c_M_axis_25 : List eg_I := .inl (25, 1, .lreturn, 0, 0) :: []
def c_M_axis_22 : List eg_I := .inr (22, 1, 112, n_M_finding, 1, 12, 0, 0) :: c_M_axis_25
def c_M_axis_19 : List eg_I := .inl (19, 3, .sipush (-1000000000000000001), 110, 0) :: c_M_axis_22
def c_M_axis_18 : List eg_I := .inl (18, 1, .aload 0, 0, 0) :: c_M_axis_19
def c_M_axis_15 : List eg_I := .inl (15, 3, .ifCond .ne (11), 26, 0) :: c_M_axis_18
def c_M_axis_12 : List eg_I := .inr (12, 0, 95, n_M_isIn, 3, 12, 0, 0) :: c_M_axis_15
def c_M_axis_11 : List eg_I := .inl (11, 1, .iconst (2), 0, 0) :: c_M_axis_12
def c_M_axis_10 : List eg_I := .inl (10, 1, .iconst (0), 0, 0) :: c_M_axis_11
def c_M_axis_9 : List eg_I := .inl (9, 1, .iload 2, 0, 0) :: c_M_axis_10
def c_M_axis_6 : List eg_I := .inl (6, 3, .ifCond .eq (12), 18, 0) :: c_M_axis_9
def c_M_axis_3 : List eg_I := .inr (3, 0, 95, n_M_isIn, 3, 12, 0, 0) :: c_M_axis_6
def c_M_axis_2 : List eg_I := .inl (2, 1, .iconst (2), 0, 0) :: c_M_axis_3
def c_M_axis_1 : List eg_I := .inl (1, 1, .iconst (0), 0, 0) :: c_M_axis_2
def c_M_axis_0 : List eg_I := .inl (0, 1, .iload 1, 0, 0) :: c_M_axis_1
section
variable {rm : Room} {K : Nat → Nat → Nat → eg_Lo → List Value → List eg_E → Prop} {Q : Option Value → List eg_E → Prop} {kc ks : Nat} {loc : eg_Lo} {st : List Value} {h : List eg_E}
theorem s_M_axis_0 {x : Int32} {l0 : Option Value} {l : eg_Lo} : wps rm K Q c_M_axis_0 kc ks (l0 :: some (.int x) :: l) (st) h = wps rm K Q c_M_axis_1 kc ks (l0 :: some (.int x) :: l) (.int x :: st) h := rfl
theorem s_M_axis_1  : wps rm K Q c_M_axis_1 kc ks loc (st) h = wps rm K Q c_M_axis_2 kc ks loc (.int (0) :: st) h := rfl
theorem s_M_axis_2  : wps rm K Q c_M_axis_2 kc ks loc (st) h = wps rm K Q c_M_axis_3 kc ks loc (.int (2) :: st) h := rfl
theorem s_M_axis_3  {a1 : Value} {a2 : Value} {a3 : Value} : wps rm K Q c_M_axis_3 kc ks loc (a3 :: a2 :: a1 :: st) h = (st.length ≤ 4 ∧ eg_Cs n_M_isIn [a1, a2, a3] h (fun v h9 => wps rm K Q c_M_axis_6 kc ks loc (v.toList ++ st) h9)) := eg_c0_3
theorem s_M_axis_6 {x : Int32} : wps rm K Q c_M_axis_6 kc ks loc (.int x :: st) h = ((x = 0 → K 18 kc ks loc st h) ∧ (¬ x = 0 → wps rm K Q c_M_axis_9 kc ks loc (st) h)) := rfl
theorem s_M_axis_9 {x : Int32} {l0 l1 : Option Value} {l : eg_Lo} : wps rm K Q c_M_axis_9 kc ks (l0 :: l1 :: some (.int x) :: l) (st) h = wps rm K Q c_M_axis_10 kc ks (l0 :: l1 :: some (.int x) :: l) (.int x :: st) h := rfl
theorem s_M_axis_10  : wps rm K Q c_M_axis_10 kc ks loc (st) h = wps rm K Q c_M_axis_11 kc ks loc (.int (0) :: st) h := rfl
theorem s_M_axis_11  : wps rm K Q c_M_axis_11 kc ks loc (st) h = wps rm K Q c_M_axis_12 kc ks loc (.int (2) :: st) h := rfl
theorem s_M_axis_12  {a1 : Value} {a2 : Value} {a3 : Value} : wps rm K Q c_M_axis_12 kc ks loc (a3 :: a2 :: a1 :: st) h = (st.length ≤ 4 ∧ eg_Cs n_M_isIn [a1, a2, a3] h (fun v h9 => wps rm K Q c_M_axis_15 kc ks loc (v.toList ++ st) h9)) := eg_c0_3
theorem s_M_axis_15 {x : Int32} : wps rm K Q c_M_axis_15 kc ks loc (.int x :: st) h = ((¬ x = 0 → K 26 kc ks loc st h) ∧ (x = 0 → wps rm K Q c_M_axis_18 kc ks loc (st) h)) := rfl
theorem s_M_axis_18 {x : Nat} {l : eg_Lo} : wps rm K Q c_M_axis_18 kc ks (some (.ref x) :: l) (st) h = wps rm K Q c_M_axis_19 kc ks (some (.ref x) :: l) (.ref x :: st) h := rfl
theorem s_M_axis_19  : wps rm K Q c_M_axis_19 kc ks loc (st) h = wps rm K Q c_M_axis_22 kc ks loc (.long (-1000000000000000001) :: st) h := rfl
theorem s_M_axis_22  {a1 : Value} {x : Nat} : wps rm K Q c_M_axis_22 kc ks loc (a1 :: .ref (x + 1) :: st) h = (eg_cls h x 12 ∧ st.length ≤ 4 ∧ eg_Cs n_M_finding (.ref (x + 1) :: [a1]) h (fun v h9 => wps rm K Q c_M_axis_25 kc ks loc (v.toList ++ st) h9)) := eg_c1_1
theorem s_M_axis_25 {x : Int64} : wps rm K Q c_M_axis_25 kc ks loc ([.long x]) h = (kc = rm.cells ∧ Q (some (.long x)) h) := rfl
theorem s_M_axis_26 {x : Nat} {l : eg_Lo} : wps rm K Q c_M_axis_26 kc ks (some (.ref x) :: l) (st) h = wps rm K Q c_M_axis_27 kc ks (some (.ref x) :: l) (.ref x :: st) h := rfl
theorem s_M_axis_27 {x : Nat} : wps rm K Q c_M_axis_27 kc ks loc (.ref (x + 1) :: st) h = eg_gf h x 12 14 (fun v => wps rm K Q c_M_axis_30 kc ks loc (v :: st) h) := rfl
theorem s_M_axis_30 {x : Int32} : wps rm K Q c_M_axis_30 kc ks loc (.int x :: st) h = ((x = 0 → K 46 kc ks loc st h) ∧ (¬ x = 0 → wps rm K Q c_M_axis_33 kc ks loc (st) h)) := rfl
theorem s_M_axis_33 {x : Nat} {l : eg_Lo} : wps rm K Q c_M_axis_33 kc ks (some (.ref x) :: l) (st) h = wps rm K Q c_M_axis_34 kc ks (some (.ref x) :: l) (.ref x :: st) h := rfl
theorem s_M_axis_34 {x : Nat} : wps rm K Q c_M_axis_34 kc ks loc (.ref (x + 1) :: st) h = eg_gf h x 12 15 (fun v => wps rm K Q c_M_axis_37 kc ks loc (v :: st) h) := rfl
theorem s_M_axis_37  : wps rm K Q c_M_axis_37 kc ks loc (st) h = wps rm K Q c_M_axis_38 kc ks loc (.int (3) :: st) h := rfl
theorem s_M_axis_38 {x : Int32} {l0 : Option Value} {l : eg_Lo} : wps rm K Q c_M_axis_38 kc ks (l0 :: some (.int x) :: l) (st) h = wps rm K Q c_M_axis_39 kc ks (l0 :: some (.int x) :: l) (.int x :: st) h := rfl
theorem s_M_axis_39 {x y : Int32} : wps rm K Q c_M_axis_39 kc ks loc (.int y :: .int x :: st) h = wps rm K Q c_M_axis_40 kc ks loc (.int (x * y) :: st) h := rfl
theorem s_M_axis_40 {x : Int32} {l0 l1 : Option Value} {l : eg_Lo} : wps rm K Q c_M_axis_40 kc ks (l0 :: l1 :: some (.int x) :: l) (st) h = wps rm K Q c_M_axis_41 kc ks (l0 :: l1 :: some (.int x) :: l) (.int x :: st) h := rfl
theorem s_M_axis_41 {x y : Int32} : wps rm K Q c_M_axis_41 kc ks loc (.int y :: .int x :: st) h = wps rm K Q c_M_axis_42 kc ks loc (.int (x + y) :: st) h := rfl
theorem s_M_axis_42 {x : Nat} {i : Int32} : wps rm K Q c_M_axis_42 kc ks loc (.int i :: .ref (x + 1) :: st) h = eg_la h x i (fun v => wps rm K Q c_M_axis_43 kc ks loc (.long v :: st) h) := rfl
theorem s_M_axis_43  : wps rm K Q c_M_axis_43 kc ks loc (st) h = K 53 kc ks loc st h := rfl
theorem s_M_axis_46 {x : Nat} {l : eg_Lo} : wps rm K Q c_M_axis_46 kc ks (some (.ref x) :: l) (st) h = wps rm K Q c_M_axis_47 kc ks (some (.ref x) :: l) (.ref x :: st) h := rfl
theorem s_M_axis_47  : wps rm K Q c_M_axis_47 kc ks loc (st) h = wps rm K Q c_M_axis_50 kc ks loc (.long (-1000000000000000006) :: st) h := rfl
theorem s_M_axis_50  {a1 : Value} {x : Nat} : wps rm K Q c_M_axis_50 kc ks loc (a1 :: .ref (x + 1) :: st) h = (eg_cls h x 12 ∧ st.length ≤ 4 ∧ eg_Cs n_M_finding (.ref (x + 1) :: [a1]) h (fun v h9 => wps rm K Q c_M_axis_53 kc ks loc (v.toList ++ st) h9)) := eg_c1_1
theorem s_M_axis_53 {x : Int64} : wps rm K Q c_M_axis_53 kc ks loc ([.long x]) h = (kc = rm.cells ∧ Q (some (.long x)) h) := rfl
def T_M_axis : List (Nat × List eg_I) := [(18, c_M_axis_18), (26, c_M_axis_26), (46, c_M_axis_46), (53, c_M_axis_53)]
theorem j_M_axis_18 {R : Nat → Nat → Nat → eg_Lo → List Value → List eg_E → Prop} {f pc0 : Nat} : eg_run rm R Q T_M_axis (f + 1) 18 kc ks loc st h = wps rm (eg_run rm R Q T_M_axis f) Q c_M_axis_18 kc ks loc st h := rfl
theorem j_M_axis_26 {R : Nat → Nat → Nat → eg_Lo → List Value → List eg_E → Prop} {f pc0 : Nat} : eg_run rm R Q T_M_axis (f + 1) 26 kc ks loc st h = wps rm (eg_run rm R Q T_M_axis f) Q c_M_axis_26 kc ks loc st h := rfl
theorem j_M_axis_46 {R : Nat → Nat → Nat → eg_Lo → List Value → List eg_E → Prop} {f pc0 : Nat} : eg_run rm R Q T_M_axis (f + 1) 46 kc ks loc st h = wps rm (eg_run rm R Q T_M_axis f) Q c_M_axis_46 kc ks loc st h := rfl
theorem j_M_axis_53 {R : Nat → Nat → Nat → eg_Lo → List Value → List eg_E → Prop} {f pc0 : Nat} : eg_run rm R Q T_M_axis (f + 1) 53 kc ks loc st h = wps rm (eg_run rm R Q T_M_axis f) Q c_M_axis_53 kc ks loc st h := rfl
end
theorem q_M_axis : (T_M_axis.all fun q => eg_seq m_M_axis q.1 q.2) = true := by decide +kernel
theorem b_M_axis {as : List Value} {h : List eg_E} {Q : Option Value → List eg_E → Prop} (hf : (eg_fl as).length ≤ 3) (hw : wps (eg_rm m_M_axis) (eg_run (eg_rm m_M_axis) (eg_R m_M_axis Q (h.length + 0)) Q T_M_axis 6) Q c_M_axis_0 0 0 (eg_entry 3 as) [] h) : eg_Runs n_M_axis as h Q := eg_begin (d := m_M_axis) rfl (by decide) (by decide +kernel) q_M_axis hf hw
/-! ===== M_inFrame ===== -/
def c_M_inFrame_144 : List eg_I := .inl (144, 1, .lreturn, 0, 0) :: []
def c_M_inFrame_143 : List eg_I := .inl (143, 1, .ladd, 0, 0) :: c_M_inFrame_144
def c_M_inFrame_142 : List eg_I := .inl (142, 1, .lmul, 0, 0) :: c_M_inFrame_143
def c_M_inFrame_141 : List eg_I := .inl (141, 1, .i2l, 0, 0) :: c_M_inFrame_142
def c_M_inFrame_140 : List eg_I := .inl (140, 1, .isub, 0, 0) :: c_M_inFrame_141
def c_M_inFrame_139 : List eg_I := .inl (139, 1, .iaload, 0, 0) :: c_M_inFrame_140
def c_M_inFrame_138 : List eg_I := .inl (138, 1, .iconst (2), 0, 0) :: c_M_inFrame_139
def c_M_inFrame_135 : List eg_I := .inl (135, 3, .getfield 57, 12, 16) :: c_M_inFrame_138
def c_M_inFrame_134 : List eg_I := .inl (134, 1, .aload 0, 0, 0) :: c_M_inFrame_135
def c_M_inFrame_133 : List eg_I := .inl (133, 1, .iaload, 0, 0) :: c_M_inFrame_134
def c_M_inFrame_131 : List eg_I := .inl (131, 2, .iload 4, 0, 0) :: c_M_inFrame_133
def c_M_inFrame_128 : List eg_I := .inl (128, 3, .getfield 19, 12, 3) :: c_M_inFrame_131
def c_M_inFrame_127 : List eg_I := .inl (127, 1, .aload 0, 0, 0) :: c_M_inFrame_128
def c_M_inFrame_126 : List eg_I := .inl (126, 1, .laload, 0, 0) :: c_M_inFrame_127
def c_M_inFrame_125 : List eg_I := .inl (125, 1, .iadd, 0, 0) :: c_M_inFrame_126
def c_M_inFrame_124 : List eg_I := .inl (124, 1, .iconst (2), 0, 0) :: c_M_inFrame_125
def c_M_inFrame_123 : List eg_I := .inl (123, 1, .imul, 0, 0) :: c_M_inFrame_124
def c_M_inFrame_122 : List eg_I := .inl (122, 1, .iload 3, 0, 0) :: c_M_inFrame_123
def c_M_inFrame_121 : List eg_I := .inl (121, 1, .iconst (3), 0, 0) :: c_M_inFrame_122
def c_M_inFrame_118 : List eg_I := .inl (118, 3, .getfield 54, 12, 15) :: c_M_inFrame_121
def c_M_inFrame_117 : List eg_I := .inl (117, 1, .aload 0, 0, 0) :: c_M_inFrame_118
def c_M_inFrame_116 : List eg_I := .inl (116, 1, .ladd, 0, 0) :: c_M_inFrame_117
def c_M_inFrame_115 : List eg_I := .inl (115, 1, .lmul, 0, 0) :: c_M_inFrame_116
def c_M_inFrame_114 : List eg_I := .inl (114, 1, .i2l, 0, 0) :: c_M_inFrame_115
def c_M_inFrame_113 : List eg_I := .inl (113, 1, .isub, 0, 0) :: c_M_inFrame_114
def c_M_inFrame_112 : List eg_I := .inl (112, 1, .iaload, 0, 0) :: c_M_inFrame_113
def c_M_inFrame_111 : List eg_I := .inl (111, 1, .iconst (1), 0, 0) :: c_M_inFrame_112
def c_M_inFrame_108 : List eg_I := .inl (108, 3, .getfield 57, 12, 16) :: c_M_inFrame_111
def c_M_inFrame_107 : List eg_I := .inl (107, 1, .aload 0, 0, 0) :: c_M_inFrame_108
def c_M_inFrame_106 : List eg_I := .inl (106, 1, .iaload, 0, 0) :: c_M_inFrame_107
def c_M_inFrame_104 : List eg_I := .inl (104, 2, .iload 4, 0, 0) :: c_M_inFrame_106
def c_M_inFrame_101 : List eg_I := .inl (101, 3, .getfield 16, 12, 2) :: c_M_inFrame_104
def c_M_inFrame_100 : List eg_I := .inl (100, 1, .aload 0, 0, 0) :: c_M_inFrame_101
def c_M_inFrame_99 : List eg_I := .inl (99, 1, .laload, 0, 0) :: c_M_inFrame_100
def c_M_inFrame_98 : List eg_I := .inl (98, 1, .iadd, 0, 0) :: c_M_inFrame_99
def c_M_inFrame_97 : List eg_I := .inl (97, 1, .iconst (1), 0, 0) :: c_M_inFrame_98
def c_M_inFrame_96 : List eg_I := .inl (96, 1, .imul, 0, 0) :: c_M_inFrame_97
def c_M_inFrame_95 : List eg_I := .inl (95, 1, .iload 3, 0, 0) :: c_M_inFrame_96
def c_M_inFrame_94 : List eg_I := .inl (94, 1, .iconst (3), 0, 0) :: c_M_inFrame_95
def c_M_inFrame_91 : List eg_I := .inl (91, 3, .getfield 54, 12, 15) :: c_M_inFrame_94
def c_M_inFrame_90 : List eg_I := .inl (90, 1, .aload 0, 0, 0) :: c_M_inFrame_91
def c_M_inFrame_89 : List eg_I := .inl (89, 1, .lmul, 0, 0) :: c_M_inFrame_90
def c_M_inFrame_88 : List eg_I := .inl (88, 1, .i2l, 0, 0) :: c_M_inFrame_89
def c_M_inFrame_87 : List eg_I := .inl (87, 1, .isub, 0, 0) :: c_M_inFrame_88
def c_M_inFrame_86 : List eg_I := .inl (86, 1, .iaload, 0, 0) :: c_M_inFrame_87
def c_M_inFrame_85 : List eg_I := .inl (85, 1, .iconst (0), 0, 0) :: c_M_inFrame_86
def c_M_inFrame_82 : List eg_I := .inl (82, 3, .getfield 57, 12, 16) :: c_M_inFrame_85
def c_M_inFrame_81 : List eg_I := .inl (81, 1, .aload 0, 0, 0) :: c_M_inFrame_82
def c_M_inFrame_80 : List eg_I := .inl (80, 1, .iaload, 0, 0) :: c_M_inFrame_81
def c_M_inFrame_78 : List eg_I := .inl (78, 2, .iload 4, 0, 0) :: c_M_inFrame_80
def c_M_inFrame_75 : List eg_I := .inl (75, 3, .getfield 13, 12, 1) :: c_M_inFrame_78
def c_M_inFrame_74 : List eg_I := .inl (74, 1, .aload 0, 0, 0) :: c_M_inFrame_75
def c_M_inFrame_73 : List eg_I := .inl (73, 1, .laload, 0, 0) :: c_M_inFrame_74
def c_M_inFrame_72 : List eg_I := .inl (72, 1, .imul, 0, 0) :: c_M_inFrame_73
def c_M_inFrame_71 : List eg_I := .inl (71, 1, .iload 3, 0, 0) :: c_M_inFrame_72
def c_M_inFrame_70 : List eg_I := .inl (70, 1, .iconst (3), 0, 0) :: c_M_inFrame_71
def c_M_inFrame_67 : List eg_I := .inl (67, 3, .getfield 54, 12, 15) :: c_M_inFrame_70
def c_M_inFrame_66 : List eg_I := .inl (66, 1, .aload 0, 0, 0) :: c_M_inFrame_67
def c_M_inFrame_65 : List eg_I := .inl (65, 1, .lreturn, 0, 0) :: []
def c_M_inFrame_62 : List eg_I := .inr (62, 1, 112, n_M_finding, 1, 12, 0, 0) :: c_M_inFrame_65
def c_M_inFrame_59 : List eg_I := .inl (59, 3, .sipush (-1000000000000000006), 138, 0) :: c_M_inFrame_62
def c_M_inFrame_58 : List eg_I := .inl (58, 1, .aload 0, 0, 0) :: c_M_inFrame_59
def c_M_inFrame_55 : List eg_I := .inl (55, 3, .ifCond .ne (11), 66, 0) :: c_M_inFrame_58
def c_M_inFrame_52 : List eg_I := .inl (52, 3, .getfield 273, 12, 14) :: c_M_inFrame_55
def c_M_inFrame_51 : List eg_I := .inl (51, 1, .aload 0, 0, 0) :: c_M_inFrame_52
def c_M_inFrame_50 : List eg_I := .inl (50, 1, .lreturn, 0, 0) :: []
def c_M_inFrame_47 : List eg_I := .inr (47, 1, 112, n_M_finding, 1, 12, 0, 0) :: c_M_inFrame_50
def c_M_inFrame_44 : List eg_I := .inl (44, 3, .sipush (-1000000000000000007), 126, 0) :: c_M_inFrame_47
def c_M_inFrame_43 : List eg_I := .inl (43, 1, .aload 0, 0, 0) :: c_M_inFrame_44
def c_M_inFrame_40 : List eg_I := .inl (40, 3, .ifCond .eq (11), 51, 0) :: c_M_inFrame_43
def c_M_inFrame_39 : List eg_I := .inl (39, 1, .baload, 0, 0) :: c_M_inFrame_40
def c_M_inFrame_37 : List eg_I := .inl (37, 2, .iload 4, 0, 0) :: c_M_inFrame_39
def c_M_inFrame_34 : List eg_I := .inl (34, 3, .getfield 22, 12, 4) :: c_M_inFrame_37
def c_M_inFrame_33 : List eg_I := .inl (33, 1, .aload 0, 0, 0) :: c_M_inFrame_34
def c_M_inFrame_31 : List eg_I := .inl (31, 2, .istore 4, 0, 0) :: c_M_inFrame_33
def c_M_inFrame_28 : List eg_I := .inr (28, 0, 103, n_M_at_II, 2, 12, 0, 0) :: c_M_inFrame_31
def c_M_inFrame_27 : List eg_I := .inl (27, 1, .iload 2, 0, 0) :: c_M_inFrame_28
def c_M_inFrame_26 : List eg_I := .inl (26, 1, .iload 1, 0, 0) :: c_M_inFrame_27
def c_M_inFrame_25 : List eg_I := .inl (25, 1, .lreturn, 0, 0) :: []
def c_M_inFrame_22 : List eg_I := .inr (22, 1, 112, n_M_finding, 1, 12, 0, 0) :: c_M_inFrame_25
def c_M_inFrame_19 : List eg_I := .inl (19, 3, .sipush (-1000000000000000001), 110, 0) :: c_M_inFrame_22
def c_M_inFrame_18 : List eg_I := .inl (18, 1, .aload 0, 0, 0) :: c_M_inFrame_19
def c_M_inFrame_15 : List eg_I := .inl (15, 3, .ifCond .ne (11), 26, 0) :: c_M_inFrame_18
def c_M_inFrame_12 : List eg_I := .inr (12, 0, 95, n_M_isIn, 3, 12, 0, 0) :: c_M_inFrame_15
def c_M_inFrame_11 : List eg_I := .inl (11, 1, .iconst (2), 0, 0) :: c_M_inFrame_12
def c_M_inFrame_10 : List eg_I := .inl (10, 1, .iconst (0), 0, 0) :: c_M_inFrame_11
def c_M_inFrame_9 : List eg_I := .inl (9, 1, .iload 3, 0, 0) :: c_M_inFrame_10
def c_M_inFrame_6 : List eg_I := .inl (6, 3, .ifCond .eq (12), 18, 0) :: c_M_inFrame_9
def c_M_inFrame_3 : List eg_I := .inr (3, 1, 122, n_M_isPoint, 2, 12, 0, 0) :: c_M_inFrame_6
def c_M_inFrame_2 : List eg_I := .inl (2, 1, .iload 2, 0, 0) :: c_M_inFrame_3
def c_M_inFrame_1 : List eg_I := .inl (1, 1, .iload 1, 0, 0) :: c_M_inFrame_2
def c_M_inFrame_0 : List eg_I := .inl (0, 1, .aload 0, 0, 0) :: c_M_inFrame_1
section
variable {rm : Room} {K : Nat → Nat → Nat → eg_Lo → List Value → List eg_E → Prop} {Q : Option Value → List eg_E → Prop} {kc ks : Nat} {loc : eg_Lo} {st : List Value} {h : List eg_E}
theorem s_M_inFrame_0 {x : Nat} {l : eg_Lo} : wps rm K Q c_M_inFrame_0 kc ks (some (.ref x) :: l) (st) h = wps rm K Q c_M_inFrame_1 kc ks (some (.ref x) :: l) (.ref x :: st) h := rfl
theorem s_M_inFrame_1 {x : Int32} {l0 : Option Value} {l : eg_Lo} : wps rm K Q c_M_inFrame_1 kc ks (l0 :: some (.int x) :: l) (st) h = wps rm K Q c_M_inFrame_2 kc ks (l0 :: some (.int x) :: l) (.int x :: st) h := rfl
theorem s_M_inFrame_2 {x : Int32} {l0 l1 : Option Value} {l : eg_Lo} : wps rm K Q c_M_inFrame_2 kc ks (l0 :: l1 :: some (.int x) :: l) (st) h = wps rm K Q c_M_inFrame_3 kc ks (l0 :: l1 :: some (.int x) :: l) (.int x :: st) h := rfl
theorem s_M_inFrame_3  {a1 : Value} {a2 : Value} {x : Nat} : wps rm K Q c_M_inFrame_3 kc ks loc (a2 :: a1 :: .ref (x + 1) :: st) h = (eg_cls h x 12 ∧ st.length ≤ 4 ∧ eg_Cs n_M_isPoint (.ref (x + 1) :: [a1, a2]) h (fun v h9 => wps rm K Q c_M_inFrame_6 kc ks loc (v.toList ++ st) h9)) := eg_c1_2
theorem s_M_inFrame_6 {x : Int32} : wps rm K Q c_M_inFrame_6 kc ks loc (.int x :: st) h = ((x = 0 → K 18 kc ks loc st h) ∧ (¬ x = 0 → wps rm K Q c_M_inFrame_9 kc ks loc (st) h)) := rfl
theorem s_M_inFrame_9 {x : Int32} {l0 l1 l2 : Option Value} {l : eg_Lo} : wps rm K Q c_M_inFrame_9 kc ks (l0 :: l1 :: l2 :: some (.int x) :: l) (st) h = wps rm K Q c_M_inFrame_10 kc ks (l0 :: l1 :: l2 :: some (.int x) :: l) (.int x :: st) h := rfl
theorem s_M_inFrame_10  : wps rm K Q c_M_inFrame_10 kc ks loc (st) h = wps rm K Q c_M_inFrame_11 kc ks loc (.int (0) :: st) h := rfl
theorem s_M_inFrame_11  : wps rm K Q c_M_inFrame_11 kc ks loc (st) h = wps rm K Q c_M_inFrame_12 kc ks loc (.int (2) :: st) h := rfl
theorem s_M_inFrame_12  {a1 : Value} {a2 : Value} {a3 : Value} : wps rm K Q c_M_inFrame_12 kc ks loc (a3 :: a2 :: a1 :: st) h = (st.length ≤ 4 ∧ eg_Cs n_M_isIn [a1, a2, a3] h (fun v h9 => wps rm K Q c_M_inFrame_15 kc ks loc (v.toList ++ st) h9)) := eg_c0_3
theorem s_M_inFrame_15 {x : Int32} : wps rm K Q c_M_inFrame_15 kc ks loc (.int x :: st) h = ((¬ x = 0 → K 26 kc ks loc st h) ∧ (x = 0 → wps rm K Q c_M_inFrame_18 kc ks loc (st) h)) := rfl
theorem s_M_inFrame_18 {x : Nat} {l : eg_Lo} : wps rm K Q c_M_inFrame_18 kc ks (some (.ref x) :: l) (st) h = wps rm K Q c_M_inFrame_19 kc ks (some (.ref x) :: l) (.ref x :: st) h := rfl
theorem s_M_inFrame_19  : wps rm K Q c_M_inFrame_19 kc ks loc (st) h = wps rm K Q c_M_inFrame_22 kc ks loc (.long (-1000000000000000001) :: st) h := rfl
theorem s_M_inFrame_22  {a1 : Value} {x : Nat} : wps rm K Q c_M_inFrame_22 kc ks loc (a1 :: .ref (x + 1) :: st) h = (eg_cls h x 12 ∧ st.length ≤ 4 ∧ eg_Cs n_M_finding (.ref (x + 1) :: [a1]) h (fun v h9 => wps rm K Q c_M_inFrame_25 kc ks loc (v.toList ++ st) h9)) := eg_c1_1
theorem s_M_inFrame_25 {x : Int64} : wps rm K Q c_M_inFrame_25 kc ks loc ([.long x]) h = (kc = rm.cells ∧ Q (some (.long x)) h) := rfl
theorem s_M_inFrame_26 {x : Int32} {l0 : Option Value} {l : eg_Lo} : wps rm K Q c_M_inFrame_26 kc ks (l0 :: some (.int x) :: l) (st) h = wps rm K Q c_M_inFrame_27 kc ks (l0 :: some (.int x) :: l) (.int x :: st) h := rfl
theorem s_M_inFrame_27 {x : Int32} {l0 l1 : Option Value} {l : eg_Lo} : wps rm K Q c_M_inFrame_27 kc ks (l0 :: l1 :: some (.int x) :: l) (st) h = wps rm K Q c_M_inFrame_28 kc ks (l0 :: l1 :: some (.int x) :: l) (.int x :: st) h := rfl
theorem s_M_inFrame_28  {a1 : Value} {a2 : Value} : wps rm K Q c_M_inFrame_28 kc ks loc (a2 :: a1 :: st) h = (st.length ≤ 4 ∧ eg_Cs n_M_at_II [a1, a2] h (fun v h9 => wps rm K Q c_M_inFrame_31 kc ks loc (v.toList ++ st) h9)) := eg_c0_2
theorem s_M_inFrame_31 {x : Int32} : wps rm K Q c_M_inFrame_31 kc ks loc (.int x :: st) h = wps rm K Q c_M_inFrame_33 kc ks (eg_set1 loc 4 (.int x)) (st) h := rfl
theorem s_M_inFrame_33 {x : Nat} {l : eg_Lo} : wps rm K Q c_M_inFrame_33 kc ks (some (.ref x) :: l) (st) h = wps rm K Q c_M_inFrame_34 kc ks (some (.ref x) :: l) (.ref x :: st) h := rfl
theorem s_M_inFrame_34 {x : Nat} : wps rm K Q c_M_inFrame_34 kc ks loc (.ref (x + 1) :: st) h = eg_gf h x 12 4 (fun v => wps rm K Q c_M_inFrame_37 kc ks loc (v :: st) h) := rfl
theorem s_M_inFrame_37 {x : Int32} {l0 l1 l2 l3 : Option Value} {l : eg_Lo} : wps rm K Q c_M_inFrame_37 kc ks (l0 :: l1 :: l2 :: l3 :: some (.int x) :: l) (st) h = wps rm K Q c_M_inFrame_39 kc ks (l0 :: l1 :: l2 :: l3 :: some (.int x) :: l) (.int x :: st) h := rfl
theorem s_M_inFrame_39 {x : Nat} {i : Int32} : wps rm K Q c_M_inFrame_39 kc ks loc (.int i :: .ref (x + 1) :: st) h = eg_ba h x i (fun v => wps rm K Q c_M_inFrame_40 kc ks loc (.int v :: st) h) := rfl
theorem s_M_inFrame_40 {x : Int32} : wps rm K Q c_M_inFrame_40 kc ks loc (.int x :: st) h = ((x = 0 → K 51 kc ks loc st h) ∧ (¬ x = 0 → wps rm K Q c_M_inFrame_43 kc ks loc (st) h)) := rfl
theorem s_M_inFrame_43 {x : Nat} {l : eg_Lo} : wps rm K Q c_M_inFrame_43 kc ks (some (.ref x) :: l) (st) h = wps rm K Q c_M_inFrame_44 kc ks (some (.ref x) :: l) (.ref x :: st) h := rfl
theorem s_M_inFrame_44  : wps rm K Q c_M_inFrame_44 kc ks loc (st) h = wps rm K Q c_M_inFrame_47 kc ks loc (.long (-1000000000000000007) :: st) h := rfl
theorem s_M_inFrame_47  {a1 : Value} {x : Nat} : wps rm K Q c_M_inFrame_47 kc ks loc (a1 :: .ref (x + 1) :: st) h = (eg_cls h x 12 ∧ st.length ≤ 4 ∧ eg_Cs n_M_finding (.ref (x + 1) :: [a1]) h (fun v h9 => wps rm K Q c_M_inFrame_50 kc ks loc (v.toList ++ st) h9)) := eg_c1_1
theorem s_M_inFrame_50 {x : Int64} : wps rm K Q c_M_inFrame_50 kc ks loc ([.long x]) h = (kc = rm.cells ∧ Q (some (.long x)) h) := rfl
theorem s_M_inFrame_51 {x : Nat} {l : eg_Lo} : wps rm K Q c_M_inFrame_51 kc ks (some (.ref x) :: l) (st) h = wps rm K Q c_M_inFrame_52 kc ks (some (.ref x) :: l) (.ref x :: st) h := rfl
theorem s_M_inFrame_52 {x : Nat} : wps rm K Q c_M_inFrame_52 kc ks loc (.ref (x + 1) :: st) h = eg_gf h x 12 14 (fun v => wps rm K Q c_M_inFrame_55 kc ks loc (v :: st) h) := rfl
theorem s_M_inFrame_55 {x : Int32} : wps rm K Q c_M_inFrame_55 kc ks loc (.int x :: st) h = ((¬ x = 0 → K 66 kc ks loc st h) ∧ (x = 0 → wps rm K Q c_M_inFrame_58 kc ks loc (st) h)) := rfl
theorem s_M_inFrame_58 {x : Nat} {l : eg_Lo} : wps rm K Q c_M_inFrame_58 kc ks (some (.ref x) :: l) (st) h = wps rm K Q c_M_inFrame_59 kc ks (some (.ref x) :: l) (.ref x :: st) h := rfl
theorem s_M_inFrame_59  : wps rm K Q c_M_inFrame_59 kc ks loc (st) h = wps rm K Q c_M_inFrame_62 kc ks loc (.long (-1000000000000000006) :: st) h := rfl
theorem s_M_inFrame_62  {a1 : Value} {x : Nat} : wps rm K Q c_M_inFrame_62 kc ks loc (a1 :: .ref (x + 1) :: st) h = (eg_cls h x 12 ∧ st.length ≤ 4 ∧ eg_Cs n_M_finding (.ref (x + 1) :: [a1]) h (fun v h9 => wps rm K Q c_M_inFrame_65 kc ks loc (v.toList ++ st) h9)) := eg_c1_1
theorem s_M_inFrame_65 {x : Int64} : wps rm K Q c_M_inFrame_65 kc ks loc ([.long x]) h = (kc = rm.cells ∧ Q (some (.long x)) h) := rfl
theorem s_M_inFrame_66 {x : Nat} {l : eg_Lo} : wps rm K Q c_M_inFrame_66 kc ks (some (.ref x) :: l) (st) h = wps rm K Q c_M_inFrame_67 kc ks (some (.ref x) :: l) (.ref x :: st) h := rfl
theorem s_M_inFrame_67 {x : Nat} : wps rm K Q c_M_inFrame_67 kc ks loc (.ref (x + 1) :: st) h = eg_gf h x 12 15 (fun v => wps rm K Q c_M_inFrame_70 kc ks loc (v :: st) h) := rfl
theorem s_M_inFrame_70  : wps rm K Q c_M_inFrame_70 kc ks loc (st) h = wps rm K Q c_M_inFrame_71 kc ks loc (.int (3) :: st) h := rfl
theorem s_M_inFrame_71 {x : Int32} {l0 l1 l2 : Option Value} {l : eg_Lo} : wps rm K Q c_M_inFrame_71 kc ks (l0 :: l1 :: l2 :: some (.int x) :: l) (st) h = wps rm K Q c_M_inFrame_72 kc ks (l0 :: l1 :: l2 :: some (.int x) :: l) (.int x :: st) h := rfl
theorem s_M_inFrame_72 {x y : Int32} : wps rm K Q c_M_inFrame_72 kc ks loc (.int y :: .int x :: st) h = wps rm K Q c_M_inFrame_73 kc ks loc (.int (x * y) :: st) h := rfl
theorem s_M_inFrame_73 {x : Nat} {i : Int32} : wps rm K Q c_M_inFrame_73 kc ks loc (.int i :: .ref (x + 1) :: st) h = eg_la h x i (fun v => wps rm K Q c_M_inFrame_74 kc ks loc (.long v :: st) h) := rfl
theorem s_M_inFrame_74 {x : Nat} {l : eg_Lo} : wps rm K Q c_M_inFrame_74 kc ks (some (.ref x) :: l) (st) h = wps rm K Q c_M_inFrame_75 kc ks (some (.ref x) :: l) (.ref x :: st) h := rfl
theorem s_M_inFrame_75 {x : Nat} : wps rm K Q c_M_inFrame_75 kc ks loc (.ref (x + 1) :: st) h = eg_gf h x 12 1 (fun v => wps rm K Q c_M_inFrame_78 kc ks loc (v :: st) h) := rfl
theorem s_M_inFrame_78 {x : Int32} {l0 l1 l2 l3 : Option Value} {l : eg_Lo} : wps rm K Q c_M_inFrame_78 kc ks (l0 :: l1 :: l2 :: l3 :: some (.int x) :: l) (st) h = wps rm K Q c_M_inFrame_80 kc ks (l0 :: l1 :: l2 :: l3 :: some (.int x) :: l) (.int x :: st) h := rfl
theorem s_M_inFrame_80 {x : Nat} {i : Int32} : wps rm K Q c_M_inFrame_80 kc ks loc (.int i :: .ref (x + 1) :: st) h = eg_ia h x i (fun v => wps rm K Q c_M_inFrame_81 kc ks loc (.int v :: st) h) := rfl
theorem s_M_inFrame_81 {x : Nat} {l : eg_Lo} : wps rm K Q c_M_inFrame_81 kc ks (some (.ref x) :: l) (st) h = wps rm K Q c_M_inFrame_82 kc ks (some (.ref x) :: l) (.ref x :: st) h := rfl
theorem s_M_inFrame_82 {x : Nat} : wps rm K Q c_M_inFrame_82 kc ks loc (.ref (x + 1) :: st) h = eg_gf h x 12 16 (fun v => wps rm K Q c_M_inFrame_85 kc ks loc (v :: st) h) := rfl
theorem s_M_inFrame_85  : wps rm K Q c_M_inFrame_85 kc ks loc (st) h = wps rm K Q c_M_inFrame_86 kc ks loc (.int (0) :: st) h := rfl
theorem s_M_inFrame_86 {x : Nat} {i : Int32} : wps rm K Q c_M_inFrame_86 kc ks loc (.int i :: .ref (x + 1) :: st) h = eg_ia h x i (fun v => wps rm K Q c_M_inFrame_87 kc ks loc (.int v :: st) h) := rfl
theorem s_M_inFrame_87 {x y : Int32} : wps rm K Q c_M_inFrame_87 kc ks loc (.int y :: .int x :: st) h = wps rm K Q c_M_inFrame_88 kc ks loc (.int (x - y) :: st) h := rfl
theorem s_M_inFrame_88 {x : Int32} : wps rm K Q c_M_inFrame_88 kc ks loc (.int x :: st) h = wps rm K Q c_M_inFrame_89 kc ks loc (.long (x.toInt64) :: st) h := rfl
theorem s_M_inFrame_89 {x y : Int64} : wps rm K Q c_M_inFrame_89 kc ks loc (.long y :: .long x :: st) h = wps rm K Q c_M_inFrame_90 kc ks loc (.long (x * y) :: st) h := rfl
theorem s_M_inFrame_90 {x : Nat} {l : eg_Lo} : wps rm K Q c_M_inFrame_90 kc ks (some (.ref x) :: l) (st) h = wps rm K Q c_M_inFrame_91 kc ks (some (.ref x) :: l) (.ref x :: st) h := rfl
theorem s_M_inFrame_91 {x : Nat} : wps rm K Q c_M_inFrame_91 kc ks loc (.ref (x + 1) :: st) h = eg_gf h x 12 15 (fun v => wps rm K Q c_M_inFrame_94 kc ks loc (v :: st) h) := rfl
theorem s_M_inFrame_94  : wps rm K Q c_M_inFrame_94 kc ks loc (st) h = wps rm K Q c_M_inFrame_95 kc ks loc (.int (3) :: st) h := rfl
theorem s_M_inFrame_95 {x : Int32} {l0 l1 l2 : Option Value} {l : eg_Lo} : wps rm K Q c_M_inFrame_95 kc ks (l0 :: l1 :: l2 :: some (.int x) :: l) (st) h = wps rm K Q c_M_inFrame_96 kc ks (l0 :: l1 :: l2 :: some (.int x) :: l) (.int x :: st) h := rfl
theorem s_M_inFrame_96 {x y : Int32} : wps rm K Q c_M_inFrame_96 kc ks loc (.int y :: .int x :: st) h = wps rm K Q c_M_inFrame_97 kc ks loc (.int (x * y) :: st) h := rfl
theorem s_M_inFrame_97  : wps rm K Q c_M_inFrame_97 kc ks loc (st) h = wps rm K Q c_M_inFrame_98 kc ks loc (.int (1) :: st) h := rfl
theorem s_M_inFrame_98 {x y : Int32} : wps rm K Q c_M_inFrame_98 kc ks loc (.int y :: .int x :: st) h = wps rm K Q c_M_inFrame_99 kc ks loc (.int (x + y) :: st) h := rfl
theorem s_M_inFrame_99 {x : Nat} {i : Int32} : wps rm K Q c_M_inFrame_99 kc ks loc (.int i :: .ref (x + 1) :: st) h = eg_la h x i (fun v => wps rm K Q c_M_inFrame_100 kc ks loc (.long v :: st) h) := rfl
theorem s_M_inFrame_100 {x : Nat} {l : eg_Lo} : wps rm K Q c_M_inFrame_100 kc ks (some (.ref x) :: l) (st) h = wps rm K Q c_M_inFrame_101 kc ks (some (.ref x) :: l) (.ref x :: st) h := rfl
theorem s_M_inFrame_101 {x : Nat} : wps rm K Q c_M_inFrame_101 kc ks loc (.ref (x + 1) :: st) h = eg_gf h x 12 2 (fun v => wps rm K Q c_M_inFrame_104 kc ks loc (v :: st) h) := rfl
theorem s_M_inFrame_104 {x : Int32} {l0 l1 l2 l3 : Option Value} {l : eg_Lo} : wps rm K Q c_M_inFrame_104 kc ks (l0 :: l1 :: l2 :: l3 :: some (.int x) :: l) (st) h = wps rm K Q c_M_inFrame_106 kc ks (l0 :: l1 :: l2 :: l3 :: some (.int x) :: l) (.int x :: st) h := rfl
theorem s_M_inFrame_106 {x : Nat} {i : Int32} : wps rm K Q c_M_inFrame_106 kc ks loc (.int i :: .ref (x + 1) :: st) h = eg_ia h x i (fun v => wps rm K Q c_M_inFrame_107 kc ks loc (.int v :: st) h) := rfl
theorem s_M_inFrame_107 {x : Nat} {l : eg_Lo} : wps rm K Q c_M_inFrame_107 kc ks (some (.ref x) :: l) (st) h = wps rm K Q c_M_inFrame_108 kc ks (some (.ref x) :: l) (.ref x :: st) h := rfl
theorem s_M_inFrame_108 {x : Nat} : wps rm K Q c_M_inFrame_108 kc ks loc (.ref (x + 1) :: st) h = eg_gf h x 12 16 (fun v => wps rm K Q c_M_inFrame_111 kc ks loc (v :: st) h) := rfl
theorem s_M_inFrame_111  : wps rm K Q c_M_inFrame_111 kc ks loc (st) h = wps rm K Q c_M_inFrame_112 kc ks loc (.int (1) :: st) h := rfl
theorem s_M_inFrame_112 {x : Nat} {i : Int32} : wps rm K Q c_M_inFrame_112 kc ks loc (.int i :: .ref (x + 1) :: st) h = eg_ia h x i (fun v => wps rm K Q c_M_inFrame_113 kc ks loc (.int v :: st) h) := rfl
theorem s_M_inFrame_113 {x y : Int32} : wps rm K Q c_M_inFrame_113 kc ks loc (.int y :: .int x :: st) h = wps rm K Q c_M_inFrame_114 kc ks loc (.int (x - y) :: st) h := rfl
theorem s_M_inFrame_114 {x : Int32} : wps rm K Q c_M_inFrame_114 kc ks loc (.int x :: st) h = wps rm K Q c_M_inFrame_115 kc ks loc (.long (x.toInt64) :: st) h := rfl
theorem s_M_inFrame_115 {x y : Int64} : wps rm K Q c_M_inFrame_115 kc ks loc (.long y :: .long x :: st) h = wps rm K Q c_M_inFrame_116 kc ks loc (.long (x * y) :: st) h := rfl
theorem s_M_inFrame_116 {x y : Int64} : wps rm K Q c_M_inFrame_116 kc ks loc (.long y :: .long x :: st) h = wps rm K Q c_M_inFrame_117 kc ks loc (.long (x + y) :: st) h := rfl
theorem s_M_inFrame_117 {x : Nat} {l : eg_Lo} : wps rm K Q c_M_inFrame_117 kc ks (some (.ref x) :: l) (st) h = wps rm K Q c_M_inFrame_118 kc ks (some (.ref x) :: l) (.ref x :: st) h := rfl
theorem s_M_inFrame_118 {x : Nat} : wps rm K Q c_M_inFrame_118 kc ks loc (.ref (x + 1) :: st) h = eg_gf h x 12 15 (fun v => wps rm K Q c_M_inFrame_121 kc ks loc (v :: st) h) := rfl
theorem s_M_inFrame_121  : wps rm K Q c_M_inFrame_121 kc ks loc (st) h = wps rm K Q c_M_inFrame_122 kc ks loc (.int (3) :: st) h := rfl
theorem s_M_inFrame_122 {x : Int32} {l0 l1 l2 : Option Value} {l : eg_Lo} : wps rm K Q c_M_inFrame_122 kc ks (l0 :: l1 :: l2 :: some (.int x) :: l) (st) h = wps rm K Q c_M_inFrame_123 kc ks (l0 :: l1 :: l2 :: some (.int x) :: l) (.int x :: st) h := rfl
theorem s_M_inFrame_123 {x y : Int32} : wps rm K Q c_M_inFrame_123 kc ks loc (.int y :: .int x :: st) h = wps rm K Q c_M_inFrame_124 kc ks loc (.int (x * y) :: st) h := rfl
theorem s_M_inFrame_124  : wps rm K Q c_M_inFrame_124 kc ks loc (st) h = wps rm K Q c_M_inFrame_125 kc ks loc (.int (2) :: st) h := rfl
theorem s_M_inFrame_125 {x y : Int32} : wps rm K Q c_M_inFrame_125 kc ks loc (.int y :: .int x :: st) h = wps rm K Q c_M_inFrame_126 kc ks loc (.int (x + y) :: st) h := rfl
theorem s_M_inFrame_126 {x : Nat} {i : Int32} : wps rm K Q c_M_inFrame_126 kc ks loc (.int i :: .ref (x + 1) :: st) h = eg_la h x i (fun v => wps rm K Q c_M_inFrame_127 kc ks loc (.long v :: st) h) := rfl
theorem s_M_inFrame_127 {x : Nat} {l : eg_Lo} : wps rm K Q c_M_inFrame_127 kc ks (some (.ref x) :: l) (st) h = wps rm K Q c_M_inFrame_128 kc ks (some (.ref x) :: l) (.ref x :: st) h := rfl
theorem s_M_inFrame_128 {x : Nat} : wps rm K Q c_M_inFrame_128 kc ks loc (.ref (x + 1) :: st) h = eg_gf h x 12 3 (fun v => wps rm K Q c_M_inFrame_131 kc ks loc (v :: st) h) := rfl
theorem s_M_inFrame_131 {x : Int32} {l0 l1 l2 l3 : Option Value} {l : eg_Lo} : wps rm K Q c_M_inFrame_131 kc ks (l0 :: l1 :: l2 :: l3 :: some (.int x) :: l) (st) h = wps rm K Q c_M_inFrame_133 kc ks (l0 :: l1 :: l2 :: l3 :: some (.int x) :: l) (.int x :: st) h := rfl
theorem s_M_inFrame_133 {x : Nat} {i : Int32} : wps rm K Q c_M_inFrame_133 kc ks loc (.int i :: .ref (x + 1) :: st) h = eg_ia h x i (fun v => wps rm K Q c_M_inFrame_134 kc ks loc (.int v :: st) h) := rfl
theorem s_M_inFrame_134 {x : Nat} {l : eg_Lo} : wps rm K Q c_M_inFrame_134 kc ks (some (.ref x) :: l) (st) h = wps rm K Q c_M_inFrame_135 kc ks (some (.ref x) :: l) (.ref x :: st) h := rfl
theorem s_M_inFrame_135 {x : Nat} : wps rm K Q c_M_inFrame_135 kc ks loc (.ref (x + 1) :: st) h = eg_gf h x 12 16 (fun v => wps rm K Q c_M_inFrame_138 kc ks loc (v :: st) h) := rfl
theorem s_M_inFrame_138  : wps rm K Q c_M_inFrame_138 kc ks loc (st) h = wps rm K Q c_M_inFrame_139 kc ks loc (.int (2) :: st) h := rfl
theorem s_M_inFrame_139 {x : Nat} {i : Int32} : wps rm K Q c_M_inFrame_139 kc ks loc (.int i :: .ref (x + 1) :: st) h = eg_ia h x i (fun v => wps rm K Q c_M_inFrame_140 kc ks loc (.int v :: st) h) := rfl
theorem s_M_inFrame_140 {x y : Int32} : wps rm K Q c_M_inFrame_140 kc ks loc (.int y :: .int x :: st) h = wps rm K Q c_M_inFrame_141 kc ks loc (.int (x - y) :: st) h := rfl
theorem s_M_inFrame_141 {x : Int32} : wps rm K Q c_M_inFrame_141 kc ks loc (.int x :: st) h = wps rm K Q c_M_inFrame_142 kc ks loc (.long (x.toInt64) :: st) h := rfl
theorem s_M_inFrame_142 {x y : Int64} : wps rm K Q c_M_inFrame_142 kc ks loc (.long y :: .long x :: st) h = wps rm K Q c_M_inFrame_143 kc ks loc (.long (x * y) :: st) h := rfl
theorem s_M_inFrame_143 {x y : Int64} : wps rm K Q c_M_inFrame_143 kc ks loc (.long y :: .long x :: st) h = wps rm K Q c_M_inFrame_144 kc ks loc (.long (x + y) :: st) h := rfl
theorem s_M_inFrame_144 {x : Int64} : wps rm K Q c_M_inFrame_144 kc ks loc ([.long x]) h = (kc = rm.cells ∧ Q (some (.long x)) h) := rfl
def T_M_inFrame : List (Nat × List eg_I) := [(18, c_M_inFrame_18), (26, c_M_inFrame_26), (51, c_M_inFrame_51), (66, c_M_inFrame_66)]
theorem j_M_inFrame_18 {R : Nat → Nat → Nat → eg_Lo → List Value → List eg_E → Prop} {f pc0 : Nat} : eg_run rm R Q T_M_inFrame (f + 1) 18 kc ks loc st h = wps rm (eg_run rm R Q T_M_inFrame f) Q c_M_inFrame_18 kc ks loc st h := rfl
theorem j_M_inFrame_26 {R : Nat → Nat → Nat → eg_Lo → List Value → List eg_E → Prop} {f pc0 : Nat} : eg_run rm R Q T_M_inFrame (f + 1) 26 kc ks loc st h = wps rm (eg_run rm R Q T_M_inFrame f) Q c_M_inFrame_26 kc ks loc st h := rfl
theorem j_M_inFrame_51 {R : Nat → Nat → Nat → eg_Lo → List Value → List eg_E → Prop} {f pc0 : Nat} : eg_run rm R Q T_M_inFrame (f + 1) 51 kc ks loc st h = wps rm (eg_run rm R Q T_M_inFrame f) Q c_M_inFrame_51 kc ks loc st h := rfl
theorem j_M_inFrame_66 {R : Nat → Nat → Nat → eg_Lo → List Value → List eg_E → Prop} {f pc0 : Nat} : eg_run rm R Q T_M_inFrame (f + 1) 66 kc ks loc st h = wps rm (eg_run rm R Q T_M_inFrame f) Q c_M_inFrame_66 kc ks loc st h := rfl
end
theorem q_M_inFrame : (T_M_inFrame.all fun q => eg_seq m_M_inFrame q.1 q.2) = true := by decide +kernel
theorem b_M_inFrame {as : List Value} {h : List eg_E} {Q : Option Value → List eg_E → Prop} (hf : (eg_fl as).length ≤ 5) (hw : wps (eg_rm m_M_inFrame) (eg_run (eg_rm m_M_inFrame) (eg_R m_M_inFrame Q (h.length + 0)) Q T_M_inFrame 6) Q c_M_inFrame_0 0 0 (eg_entry 5 as) [] h) : eg_Runs n_M_inFrame as h Q := eg_begin (d := m_M_inFrame) rfl (by decide) (by decide +kernel) q_M_inFrame hf hw
/-! ===== M_corner ===== -/
def c_M_corner_119 : List eg_I := .inl (119, 1, .lreturn, 0, 0) :: []
def c_M_corner_118 : List eg_I := .inl (118, 1, .i2l, 0, 0) :: c_M_corner_119
def c_M_corner_115 : List eg_I := .inl (115, 3, .getfield 277, 12, 17) :: c_M_corner_118
def c_M_corner_114 : List eg_I := .inl (114, 1, .aload 0, 0, 0) :: c_M_corner_115
def c_M_corner_111 : List eg_I := .inl (111, 3, .putfield 277, 12, 17) :: c_M_corner_114
def c_M_corner_110 : List eg_I := .inl (110, 1, .iadd, 0, 0) :: c_M_corner_111
def c_M_corner_109 : List eg_I := .inl (109, 1, .iconst (1), 0, 0) :: c_M_corner_110
def c_M_corner_106 : List eg_I := .inl (106, 3, .getfield 277, 12, 17) :: c_M_corner_109
def c_M_corner_105 : List eg_I := .inl (105, 1, .dup, 0, 0) :: c_M_corner_106
def c_M_corner_104 : List eg_I := .inl (104, 1, .aload 0, 0, 0) :: c_M_corner_105
def c_M_corner_103 : List eg_I := .inl (103, 1, .iastore, 0, 0) :: c_M_corner_104
def c_M_corner_102 : List eg_I := .inl (102, 1, .iload 2, 0, 0) :: c_M_corner_103
def c_M_corner_99 : List eg_I := .inl (99, 3, .getfield 277, 12, 17) :: c_M_corner_102
def c_M_corner_98 : List eg_I := .inl (98, 1, .aload 0, 0, 0) :: c_M_corner_99
def c_M_corner_95 : List eg_I := .inl (95, 3, .getfield 63, 12, 19) :: c_M_corner_98
def c_M_corner_94 : List eg_I := .inl (94, 1, .aload 0, 0, 0) :: c_M_corner_95
def c_M_corner_93 : List eg_I := .inl (93, 1, .iastore, 0, 0) :: c_M_corner_94
def c_M_corner_92 : List eg_I := .inl (92, 1, .iload 1, 0, 0) :: c_M_corner_93
def c_M_corner_89 : List eg_I := .inl (89, 3, .getfield 277, 12, 17) :: c_M_corner_92
def c_M_corner_88 : List eg_I := .inl (88, 1, .aload 0, 0, 0) :: c_M_corner_89
def c_M_corner_85 : List eg_I := .inl (85, 3, .getfield 60, 12, 18) :: c_M_corner_88
def c_M_corner_84 : List eg_I := .inl (84, 1, .aload 0, 0, 0) :: c_M_corner_85
def c_M_corner_83 : List eg_I := .inl (83, 1, .lreturn, 0, 0) :: []
def c_M_corner_80 : List eg_I := .inr (80, 1, 112, n_M_finding, 1, 12, 0, 0) :: c_M_corner_83
def c_M_corner_77 : List eg_I := .inl (77, 3, .sipush (-1000000000000000005), 116, 0) :: c_M_corner_80
def c_M_corner_76 : List eg_I := .inl (76, 1, .aload 0, 0, 0) :: c_M_corner_77
def c_M_corner_73 : List eg_I := .inl (73, 3, .if_icmp .ne (11), 84, 0) :: c_M_corner_76
def c_M_corner_71 : List eg_I := .inl (71, 2, .iconst (10), 0, 0) :: c_M_corner_73
def c_M_corner_68 : List eg_I := .inl (68, 3, .getfield 277, 12, 17) :: c_M_corner_71
def c_M_corner_67 : List eg_I := .inl (67, 1, .aload 0, 0, 0) :: c_M_corner_68
def c_M_corner_66 : List eg_I := .inl (66, 1, .lreturn, 0, 0) :: []
def c_M_corner_63 : List eg_I := .inr (63, 1, 112, n_M_finding, 1, 12, 0, 0) :: c_M_corner_66
def c_M_corner_60 : List eg_I := .inl (60, 3, .sipush (-1000000000000000003), 143, 0) :: c_M_corner_63
def c_M_corner_59 : List eg_I := .inl (59, 1, .aload 0, 0, 0) :: c_M_corner_60
def c_M_corner_56 : List eg_I := .inl (56, 3, .if_icmp .ne (11), 67, 0) :: c_M_corner_59
def c_M_corner_55 : List eg_I := .inl (55, 1, .iload 2, 0, 0) :: c_M_corner_56
def c_M_corner_54 : List eg_I := .inl (54, 1, .iaload, 0, 0) :: c_M_corner_55
def c_M_corner_53 : List eg_I := .inl (53, 1, .isub, 0, 0) :: c_M_corner_54
def c_M_corner_52 : List eg_I := .inl (52, 1, .iconst (1), 0, 0) :: c_M_corner_53
def c_M_corner_49 : List eg_I := .inl (49, 3, .getfield 277, 12, 17) :: c_M_corner_52
def c_M_corner_48 : List eg_I := .inl (48, 1, .aload 0, 0, 0) :: c_M_corner_49
def c_M_corner_45 : List eg_I := .inl (45, 3, .getfield 63, 12, 19) :: c_M_corner_48
def c_M_corner_44 : List eg_I := .inl (44, 1, .aload 0, 0, 0) :: c_M_corner_45
def c_M_corner_41 : List eg_I := .inl (41, 3, .if_icmp .ne (26), 67, 0) :: c_M_corner_44
def c_M_corner_40 : List eg_I := .inl (40, 1, .iload 1, 0, 0) :: c_M_corner_41
def c_M_corner_39 : List eg_I := .inl (39, 1, .iaload, 0, 0) :: c_M_corner_40
def c_M_corner_38 : List eg_I := .inl (38, 1, .isub, 0, 0) :: c_M_corner_39
def c_M_corner_37 : List eg_I := .inl (37, 1, .iconst (1), 0, 0) :: c_M_corner_38
def c_M_corner_34 : List eg_I := .inl (34, 3, .getfield 277, 12, 17) :: c_M_corner_37
def c_M_corner_33 : List eg_I := .inl (33, 1, .aload 0, 0, 0) :: c_M_corner_34
def c_M_corner_30 : List eg_I := .inl (30, 3, .getfield 60, 12, 18) :: c_M_corner_33
def c_M_corner_29 : List eg_I := .inl (29, 1, .aload 0, 0, 0) :: c_M_corner_30
def c_M_corner_26 : List eg_I := .inl (26, 3, .ifCond .le (41), 67, 0) :: c_M_corner_29
def c_M_corner_23 : List eg_I := .inl (23, 3, .getfield 277, 12, 17) :: c_M_corner_26
def c_M_corner_22 : List eg_I := .inl (22, 1, .aload 0, 0, 0) :: c_M_corner_23
def c_M_corner_21 : List eg_I := .inl (21, 1, .lreturn, 0, 0) :: []
def c_M_corner_18 : List eg_I := .inr (18, 1, 112, n_M_finding, 1, 12, 0, 0) :: c_M_corner_21
def c_M_corner_15 : List eg_I := .inl (15, 3, .sipush (-1000000000000000001), 110, 0) :: c_M_corner_18
def c_M_corner_14 : List eg_I := .inl (14, 1, .aload 0, 0, 0) :: c_M_corner_15
def c_M_corner_11 : List eg_I := .inl (11, 3, .ifCond .ne (11), 22, 0) :: c_M_corner_14
def c_M_corner_8 : List eg_I := .inr (8, 0, 107, n_M_isNear, 1, 12, 0, 0) :: c_M_corner_11
def c_M_corner_7 : List eg_I := .inl (7, 1, .iload 2, 0, 0) :: c_M_corner_8
def c_M_corner_4 : List eg_I := .inl (4, 3, .ifCond .eq (10), 14, 0) :: c_M_corner_7
def c_M_corner_1 : List eg_I := .inr (1, 0, 107, n_M_isNear, 1, 12, 0, 0) :: c_M_corner_4
def c_M_corner_0 : List eg_I := .inl (0, 1, .iload 1, 0, 0) :: c_M_corner_1
section
variable {rm : Room} {K : Nat → Nat → Nat → eg_Lo → List Value → List eg_E → Prop} {Q : Option Value → List eg_E → Prop} {kc ks : Nat} {loc : eg_Lo} {st : List Value} {h : List eg_E}
theorem s_M_corner_0 {x : Int32} {l0 : Option Value} {l : eg_Lo} : wps rm K Q c_M_corner_0 kc ks (l0 :: some (.int x) :: l) (st) h = wps rm K Q c_M_corner_1 kc ks (l0 :: some (.int x) :: l) (.int x :: st) h := rfl
theorem s_M_corner_1  {a1 : Value} : wps rm K Q c_M_corner_1 kc ks loc (a1 :: st) h = (st.length ≤ 4 ∧ eg_Cs n_M_isNear [a1] h (fun v h9 => wps rm K Q c_M_corner_4 kc ks loc (v.toList ++ st) h9)) := eg_c0_1
theorem s_M_corner_4 {x : Int32} : wps rm K Q c_M_corner_4 kc ks loc (.int x :: st) h = ((x = 0 → K 14 kc ks loc st h) ∧ (¬ x = 0 → wps rm K Q c_M_corner_7 kc ks loc (st) h)) := rfl
theorem s_M_corner_7 {x : Int32} {l0 l1 : Option Value} {l : eg_Lo} : wps rm K Q c_M_corner_7 kc ks (l0 :: l1 :: some (.int x) :: l) (st) h = wps rm K Q c_M_corner_8 kc ks (l0 :: l1 :: some (.int x) :: l) (.int x :: st) h := rfl
theorem s_M_corner_8  {a1 : Value} : wps rm K Q c_M_corner_8 kc ks loc (a1 :: st) h = (st.length ≤ 4 ∧ eg_Cs n_M_isNear [a1] h (fun v h9 => wps rm K Q c_M_corner_11 kc ks loc (v.toList ++ st) h9)) := eg_c0_1
theorem s_M_corner_11 {x : Int32} : wps rm K Q c_M_corner_11 kc ks loc (.int x :: st) h = ((¬ x = 0 → K 22 kc ks loc st h) ∧ (x = 0 → wps rm K Q c_M_corner_14 kc ks loc (st) h)) := rfl
theorem s_M_corner_14 {x : Nat} {l : eg_Lo} : wps rm K Q c_M_corner_14 kc ks (some (.ref x) :: l) (st) h = wps rm K Q c_M_corner_15 kc ks (some (.ref x) :: l) (.ref x :: st) h := rfl
theorem s_M_corner_15  : wps rm K Q c_M_corner_15 kc ks loc (st) h = wps rm K Q c_M_corner_18 kc ks loc (.long (-1000000000000000001) :: st) h := rfl
theorem s_M_corner_18  {a1 : Value} {x : Nat} : wps rm K Q c_M_corner_18 kc ks loc (a1 :: .ref (x + 1) :: st) h = (eg_cls h x 12 ∧ st.length ≤ 4 ∧ eg_Cs n_M_finding (.ref (x + 1) :: [a1]) h (fun v h9 => wps rm K Q c_M_corner_21 kc ks loc (v.toList ++ st) h9)) := eg_c1_1
theorem s_M_corner_21 {x : Int64} : wps rm K Q c_M_corner_21 kc ks loc ([.long x]) h = (kc = rm.cells ∧ Q (some (.long x)) h) := rfl
theorem s_M_corner_22 {x : Nat} {l : eg_Lo} : wps rm K Q c_M_corner_22 kc ks (some (.ref x) :: l) (st) h = wps rm K Q c_M_corner_23 kc ks (some (.ref x) :: l) (.ref x :: st) h := rfl
theorem s_M_corner_23 {x : Nat} : wps rm K Q c_M_corner_23 kc ks loc (.ref (x + 1) :: st) h = eg_gf h x 12 17 (fun v => wps rm K Q c_M_corner_26 kc ks loc (v :: st) h) := rfl
theorem s_M_corner_26 {x : Int32} : wps rm K Q c_M_corner_26 kc ks loc (.int x :: st) h = ((x ≤ 0 → K 67 kc ks loc st h) ∧ (¬ x ≤ 0 → wps rm K Q c_M_corner_29 kc ks loc (st) h)) := rfl
theorem s_M_corner_29 {x : Nat} {l : eg_Lo} : wps rm K Q c_M_corner_29 kc ks (some (.ref x) :: l) (st) h = wps rm K Q c_M_corner_30 kc ks (some (.ref x) :: l) (.ref x :: st) h := rfl
theorem s_M_corner_30 {x : Nat} : wps rm K Q c_M_corner_30 kc ks loc (.ref (x + 1) :: st) h = eg_gf h x 12 18 (fun v => wps rm K Q c_M_corner_33 kc ks loc (v :: st) h) := rfl
theorem s_M_corner_33 {x : Nat} {l : eg_Lo} : wps rm K Q c_M_corner_33 kc ks (some (.ref x) :: l) (st) h = wps rm K Q c_M_corner_34 kc ks (some (.ref x) :: l) (.ref x :: st) h := rfl
theorem s_M_corner_34 {x : Nat} : wps rm K Q c_M_corner_34 kc ks loc (.ref (x + 1) :: st) h = eg_gf h x 12 17 (fun v => wps rm K Q c_M_corner_37 kc ks loc (v :: st) h) := rfl
theorem s_M_corner_37  : wps rm K Q c_M_corner_37 kc ks loc (st) h = wps rm K Q c_M_corner_38 kc ks loc (.int (1) :: st) h := rfl
theorem s_M_corner_38 {x y : Int32} : wps rm K Q c_M_corner_38 kc ks loc (.int y :: .int x :: st) h = wps rm K Q c_M_corner_39 kc ks loc (.int (x - y) :: st) h := rfl
theorem s_M_corner_39 {x : Nat} {i : Int32} : wps rm K Q c_M_corner_39 kc ks loc (.int i :: .ref (x + 1) :: st) h = eg_ia h x i (fun v => wps rm K Q c_M_corner_40 kc ks loc (.int v :: st) h) := rfl
theorem s_M_corner_40 {x : Int32} {l0 : Option Value} {l : eg_Lo} : wps rm K Q c_M_corner_40 kc ks (l0 :: some (.int x) :: l) (st) h = wps rm K Q c_M_corner_41 kc ks (l0 :: some (.int x) :: l) (.int x :: st) h := rfl
theorem s_M_corner_41 {x y : Int32} : wps rm K Q c_M_corner_41 kc ks loc (.int y :: .int x :: st) h = ((¬ x = y → K 67 kc ks loc st h) ∧ (x = y → wps rm K Q c_M_corner_44 kc ks loc (st) h)) := rfl
theorem s_M_corner_44 {x : Nat} {l : eg_Lo} : wps rm K Q c_M_corner_44 kc ks (some (.ref x) :: l) (st) h = wps rm K Q c_M_corner_45 kc ks (some (.ref x) :: l) (.ref x :: st) h := rfl
theorem s_M_corner_45 {x : Nat} : wps rm K Q c_M_corner_45 kc ks loc (.ref (x + 1) :: st) h = eg_gf h x 12 19 (fun v => wps rm K Q c_M_corner_48 kc ks loc (v :: st) h) := rfl
theorem s_M_corner_48 {x : Nat} {l : eg_Lo} : wps rm K Q c_M_corner_48 kc ks (some (.ref x) :: l) (st) h = wps rm K Q c_M_corner_49 kc ks (some (.ref x) :: l) (.ref x :: st) h := rfl
theorem s_M_corner_49 {x : Nat} : wps rm K Q c_M_corner_49 kc ks loc (.ref (x + 1) :: st) h = eg_gf h x 12 17 (fun v => wps rm K Q c_M_corner_52 kc ks loc (v :: st) h) := rfl
theorem s_M_corner_52  : wps rm K Q c_M_corner_52 kc ks loc (st) h = wps rm K Q c_M_corner_53 kc ks loc (.int (1) :: st) h := rfl
theorem s_M_corner_53 {x y : Int32} : wps rm K Q c_M_corner_53 kc ks loc (.int y :: .int x :: st) h = wps rm K Q c_M_corner_54 kc ks loc (.int (x - y) :: st) h := rfl
theorem s_M_corner_54 {x : Nat} {i : Int32} : wps rm K Q c_M_corner_54 kc ks loc (.int i :: .ref (x + 1) :: st) h = eg_ia h x i (fun v => wps rm K Q c_M_corner_55 kc ks loc (.int v :: st) h) := rfl
theorem s_M_corner_55 {x : Int32} {l0 l1 : Option Value} {l : eg_Lo} : wps rm K Q c_M_corner_55 kc ks (l0 :: l1 :: some (.int x) :: l) (st) h = wps rm K Q c_M_corner_56 kc ks (l0 :: l1 :: some (.int x) :: l) (.int x :: st) h := rfl
theorem s_M_corner_56 {x y : Int32} : wps rm K Q c_M_corner_56 kc ks loc (.int y :: .int x :: st) h = ((¬ x = y → K 67 kc ks loc st h) ∧ (x = y → wps rm K Q c_M_corner_59 kc ks loc (st) h)) := rfl
theorem s_M_corner_59 {x : Nat} {l : eg_Lo} : wps rm K Q c_M_corner_59 kc ks (some (.ref x) :: l) (st) h = wps rm K Q c_M_corner_60 kc ks (some (.ref x) :: l) (.ref x :: st) h := rfl
theorem s_M_corner_60  : wps rm K Q c_M_corner_60 kc ks loc (st) h = wps rm K Q c_M_corner_63 kc ks loc (.long (-1000000000000000003) :: st) h := rfl
theorem s_M_corner_63  {a1 : Value} {x : Nat} : wps rm K Q c_M_corner_63 kc ks loc (a1 :: .ref (x + 1) :: st) h = (eg_cls h x 12 ∧ st.length ≤ 4 ∧ eg_Cs n_M_finding (.ref (x + 1) :: [a1]) h (fun v h9 => wps rm K Q c_M_corner_66 kc ks loc (v.toList ++ st) h9)) := eg_c1_1
theorem s_M_corner_66 {x : Int64} : wps rm K Q c_M_corner_66 kc ks loc ([.long x]) h = (kc = rm.cells ∧ Q (some (.long x)) h) := rfl
theorem s_M_corner_67 {x : Nat} {l : eg_Lo} : wps rm K Q c_M_corner_67 kc ks (some (.ref x) :: l) (st) h = wps rm K Q c_M_corner_68 kc ks (some (.ref x) :: l) (.ref x :: st) h := rfl
theorem s_M_corner_68 {x : Nat} : wps rm K Q c_M_corner_68 kc ks loc (.ref (x + 1) :: st) h = eg_gf h x 12 17 (fun v => wps rm K Q c_M_corner_71 kc ks loc (v :: st) h) := rfl
theorem s_M_corner_71  : wps rm K Q c_M_corner_71 kc ks loc (st) h = wps rm K Q c_M_corner_73 kc ks loc (.int (10) :: st) h := rfl
theorem s_M_corner_73 {x y : Int32} : wps rm K Q c_M_corner_73 kc ks loc (.int y :: .int x :: st) h = ((¬ x = y → K 84 kc ks loc st h) ∧ (x = y → wps rm K Q c_M_corner_76 kc ks loc (st) h)) := rfl
theorem s_M_corner_76 {x : Nat} {l : eg_Lo} : wps rm K Q c_M_corner_76 kc ks (some (.ref x) :: l) (st) h = wps rm K Q c_M_corner_77 kc ks (some (.ref x) :: l) (.ref x :: st) h := rfl
theorem s_M_corner_77  : wps rm K Q c_M_corner_77 kc ks loc (st) h = wps rm K Q c_M_corner_80 kc ks loc (.long (-1000000000000000005) :: st) h := rfl
theorem s_M_corner_80  {a1 : Value} {x : Nat} : wps rm K Q c_M_corner_80 kc ks loc (a1 :: .ref (x + 1) :: st) h = (eg_cls h x 12 ∧ st.length ≤ 4 ∧ eg_Cs n_M_finding (.ref (x + 1) :: [a1]) h (fun v h9 => wps rm K Q c_M_corner_83 kc ks loc (v.toList ++ st) h9)) := eg_c1_1
theorem s_M_corner_83 {x : Int64} : wps rm K Q c_M_corner_83 kc ks loc ([.long x]) h = (kc = rm.cells ∧ Q (some (.long x)) h) := rfl
theorem s_M_corner_84 {x : Nat} {l : eg_Lo} : wps rm K Q c_M_corner_84 kc ks (some (.ref x) :: l) (st) h = wps rm K Q c_M_corner_85 kc ks (some (.ref x) :: l) (.ref x :: st) h := rfl
theorem s_M_corner_85 {x : Nat} : wps rm K Q c_M_corner_85 kc ks loc (.ref (x + 1) :: st) h = eg_gf h x 12 18 (fun v => wps rm K Q c_M_corner_88 kc ks loc (v :: st) h) := rfl
theorem s_M_corner_88 {x : Nat} {l : eg_Lo} : wps rm K Q c_M_corner_88 kc ks (some (.ref x) :: l) (st) h = wps rm K Q c_M_corner_89 kc ks (some (.ref x) :: l) (.ref x :: st) h := rfl
theorem s_M_corner_89 {x : Nat} : wps rm K Q c_M_corner_89 kc ks loc (.ref (x + 1) :: st) h = eg_gf h x 12 17 (fun v => wps rm K Q c_M_corner_92 kc ks loc (v :: st) h) := rfl
theorem s_M_corner_92 {x : Int32} {l0 : Option Value} {l : eg_Lo} : wps rm K Q c_M_corner_92 kc ks (l0 :: some (.int x) :: l) (st) h = wps rm K Q c_M_corner_93 kc ks (l0 :: some (.int x) :: l) (.int x :: st) h := rfl
theorem s_M_corner_93 {x : Nat} {i : Int32} {v : Int32} : wps rm K Q c_M_corner_93 kc ks loc (.int v :: .int i :: .ref (x + 1) :: st) h = eg_is h x i v (fun h9 => wps rm K Q c_M_corner_94 kc ks loc (st) h9) := rfl
theorem s_M_corner_94 {x : Nat} {l : eg_Lo} : wps rm K Q c_M_corner_94 kc ks (some (.ref x) :: l) (st) h = wps rm K Q c_M_corner_95 kc ks (some (.ref x) :: l) (.ref x :: st) h := rfl
theorem s_M_corner_95 {x : Nat} : wps rm K Q c_M_corner_95 kc ks loc (.ref (x + 1) :: st) h = eg_gf h x 12 19 (fun v => wps rm K Q c_M_corner_98 kc ks loc (v :: st) h) := rfl
theorem s_M_corner_98 {x : Nat} {l : eg_Lo} : wps rm K Q c_M_corner_98 kc ks (some (.ref x) :: l) (st) h = wps rm K Q c_M_corner_99 kc ks (some (.ref x) :: l) (.ref x :: st) h := rfl
theorem s_M_corner_99 {x : Nat} : wps rm K Q c_M_corner_99 kc ks loc (.ref (x + 1) :: st) h = eg_gf h x 12 17 (fun v => wps rm K Q c_M_corner_102 kc ks loc (v :: st) h) := rfl
theorem s_M_corner_102 {x : Int32} {l0 l1 : Option Value} {l : eg_Lo} : wps rm K Q c_M_corner_102 kc ks (l0 :: l1 :: some (.int x) :: l) (st) h = wps rm K Q c_M_corner_103 kc ks (l0 :: l1 :: some (.int x) :: l) (.int x :: st) h := rfl
theorem s_M_corner_103 {x : Nat} {i : Int32} {v : Int32} : wps rm K Q c_M_corner_103 kc ks loc (.int v :: .int i :: .ref (x + 1) :: st) h = eg_is h x i v (fun h9 => wps rm K Q c_M_corner_104 kc ks loc (st) h9) := rfl
theorem s_M_corner_104 {x : Nat} {l : eg_Lo} : wps rm K Q c_M_corner_104 kc ks (some (.ref x) :: l) (st) h = wps rm K Q c_M_corner_105 kc ks (some (.ref x) :: l) (.ref x :: st) h := rfl
theorem s_M_corner_105 {x : Nat} : wps rm K Q c_M_corner_105 kc ks loc (.ref x :: st) h = wps rm K Q c_M_corner_106 kc ks loc (.ref x :: .ref x :: st) h := rfl
theorem s_M_corner_106 {x : Nat} : wps rm K Q c_M_corner_106 kc ks loc (.ref (x + 1) :: st) h = eg_gf h x 12 17 (fun v => wps rm K Q c_M_corner_109 kc ks loc (v :: st) h) := rfl
theorem s_M_corner_109  : wps rm K Q c_M_corner_109 kc ks loc (st) h = wps rm K Q c_M_corner_110 kc ks loc (.int (1) :: st) h := rfl
theorem s_M_corner_110 {x y : Int32} : wps rm K Q c_M_corner_110 kc ks loc (.int y :: .int x :: st) h = wps rm K Q c_M_corner_111 kc ks loc (.int (x + y) :: st) h := rfl
theorem s_M_corner_111 {x : Nat} {v : Value} : wps rm K Q c_M_corner_111 kc ks loc (v :: .ref (x + 1) :: st) h = eg_pf h x 12 17 v (fun h9 => wps rm K Q c_M_corner_114 kc ks loc (st) h9) := rfl
theorem s_M_corner_114 {x : Nat} {l : eg_Lo} : wps rm K Q c_M_corner_114 kc ks (some (.ref x) :: l) (st) h = wps rm K Q c_M_corner_115 kc ks (some (.ref x) :: l) (.ref x :: st) h := rfl
theorem s_M_corner_115 {x : Nat} : wps rm K Q c_M_corner_115 kc ks loc (.ref (x + 1) :: st) h = eg_gf h x 12 17 (fun v => wps rm K Q c_M_corner_118 kc ks loc (v :: st) h) := rfl
theorem s_M_corner_118 {x : Int32} : wps rm K Q c_M_corner_118 kc ks loc (.int x :: st) h = wps rm K Q c_M_corner_119 kc ks loc (.long (x.toInt64) :: st) h := rfl
theorem s_M_corner_119 {x : Int64} : wps rm K Q c_M_corner_119 kc ks loc ([.long x]) h = (kc = rm.cells ∧ Q (some (.long x)) h) := rfl
def T_M_corner : List (Nat × List eg_I) := [(14, c_M_corner_14), (22, c_M_corner_22), (67, c_M_corner_67), (84, c_M_corner_84)]
theorem j_M_corner_14 {R : Nat → Nat → Nat → eg_Lo → List Value → List eg_E → Prop} {f pc0 : Nat} : eg_run rm R Q T_M_corner (f + 1) 14 kc ks loc st h = wps rm (eg_run rm R Q T_M_corner f) Q c_M_corner_14 kc ks loc st h := rfl
theorem j_M_corner_22 {R : Nat → Nat → Nat → eg_Lo → List Value → List eg_E → Prop} {f pc0 : Nat} : eg_run rm R Q T_M_corner (f + 1) 22 kc ks loc st h = wps rm (eg_run rm R Q T_M_corner f) Q c_M_corner_22 kc ks loc st h := rfl
theorem j_M_corner_67 {R : Nat → Nat → Nat → eg_Lo → List Value → List eg_E → Prop} {f pc0 : Nat} : eg_run rm R Q T_M_corner (f + 1) 67 kc ks loc st h = wps rm (eg_run rm R Q T_M_corner f) Q c_M_corner_67 kc ks loc st h := rfl
theorem j_M_corner_84 {R : Nat → Nat → Nat → eg_Lo → List Value → List eg_E → Prop} {f pc0 : Nat} : eg_run rm R Q T_M_corner (f + 1) 84 kc ks loc st h = wps rm (eg_run rm R Q T_M_corner f) Q c_M_corner_84 kc ks loc st h := rfl
end
theorem q_M_corner : (T_M_corner.all fun q => eg_seq m_M_corner q.1 q.2) = true := by decide +kernel
theorem b_M_corner {as : List Value} {h : List eg_E} {Q : Option Value → List eg_E → Prop} (hf : (eg_fl as).length ≤ 3) (hw : wps (eg_rm m_M_corner) (eg_run (eg_rm m_M_corner) (eg_R m_M_corner Q (h.length + 0)) Q T_M_corner 6) Q c_M_corner_0 0 0 (eg_entry 3 as) [] h) : eg_Runs n_M_corner as h Q := eg_begin (d := m_M_corner) rfl (by decide) (by decide +kernel) q_M_corner hf hw
/-! ===== M_open ===== -/
def c_M_open_12 : List eg_I := .inl (12, 1, .lreturn, 0, 0) :: []
def c_M_open_11 : List eg_I := .inl (11, 1, .i2l, 0, 0) :: c_M_open_12
def c_M_open_10 : List eg_I := .inl (10, 1, .iload 1, 0, 0) :: c_M_open_11
def c_M_open_7 : List eg_I := .inl (7, 3, .putfield 277, 12, 17) :: c_M_open_10
def c_M_open_6 : List eg_I := .inl (6, 1, .iconst (0), 0, 0) :: c_M_open_7
def c_M_open_5 : List eg_I := .inl (5, 1, .aload 0, 0, 0) :: c_M_open_6
def c_M_open_4 : List eg_I := .inl (4, 1, .istore 1, 0, 0) :: c_M_open_5
def c_M_open_1 : List eg_I := .inl (1, 3, .getfield 277, 12, 17) :: c_M_open_4
def c_M_open_0 : List eg_I := .inl (0, 1, .aload 0, 0, 0) :: c_M_open_1
section
variable {rm : Room} {K : Nat → Nat → Nat → eg_Lo → List Value → List eg_E → Prop} {Q : Option Value → List eg_E → Prop} {kc ks : Nat} {loc : eg_Lo} {st : List Value} {h : List eg_E}
theorem s_M_open_0 {x : Nat} {l : eg_Lo} : wps rm K Q c_M_open_0 kc ks (some (.ref x) :: l) (st) h = wps rm K Q c_M_open_1 kc ks (some (.ref x) :: l) (.ref x :: st) h := rfl
theorem s_M_open_1 {x : Nat} : wps rm K Q c_M_open_1 kc ks loc (.ref (x + 1) :: st) h = eg_gf h x 12 17 (fun v => wps rm K Q c_M_open_4 kc ks loc (v :: st) h) := rfl
theorem s_M_open_4 {x : Int32} : wps rm K Q c_M_open_4 kc ks loc (.int x :: st) h = wps rm K Q c_M_open_5 kc ks (eg_set1 loc 1 (.int x)) (st) h := rfl
theorem s_M_open_5 {x : Nat} {l : eg_Lo} : wps rm K Q c_M_open_5 kc ks (some (.ref x) :: l) (st) h = wps rm K Q c_M_open_6 kc ks (some (.ref x) :: l) (.ref x :: st) h := rfl
theorem s_M_open_6  : wps rm K Q c_M_open_6 kc ks loc (st) h = wps rm K Q c_M_open_7 kc ks loc (.int (0) :: st) h := rfl
theorem s_M_open_7 {x : Nat} {v : Value} : wps rm K Q c_M_open_7 kc ks loc (v :: .ref (x + 1) :: st) h = eg_pf h x 12 17 v (fun h9 => wps rm K Q c_M_open_10 kc ks loc (st) h9) := rfl
theorem s_M_open_10 {x : Int32} {l0 : Option Value} {l : eg_Lo} : wps rm K Q c_M_open_10 kc ks (l0 :: some (.int x) :: l) (st) h = wps rm K Q c_M_open_11 kc ks (l0 :: some (.int x) :: l) (.int x :: st) h := rfl
theorem s_M_open_11 {x : Int32} : wps rm K Q c_M_open_11 kc ks loc (.int x :: st) h = wps rm K Q c_M_open_12 kc ks loc (.long (x.toInt64) :: st) h := rfl
theorem s_M_open_12 {x : Int64} : wps rm K Q c_M_open_12 kc ks loc ([.long x]) h = (kc = rm.cells ∧ Q (some (.long x)) h) := rfl
def T_M_open : List (Nat × List eg_I) := []
end
theorem q_M_open : (T_M_open.all fun q => eg_seq m_M_open q.1 q.2) = true := by decide +kernel
theorem b_M_open {as : List Value} {h : List eg_E} {Q : Option Value → List eg_E → Prop} (hf : (eg_fl as).length ≤ 2) (hw : wps (eg_rm m_M_open) (eg_run (eg_rm m_M_open) (eg_R m_M_open Q (h.length + 0)) Q T_M_open 2) Q c_M_open_0 0 0 (eg_entry 2 as) [] h) : eg_Runs n_M_open as h Q := eg_begin (d := m_M_open) rfl (by decide) (by decide +kernel) q_M_open hf hw
/-! ===== M_tellFar ===== -/
def c_M_tellFar_195 : List eg_I := .inl (195, 1, .return_, 0, 0) :: []
def c_M_tellFar_192 : List eg_I := .inl (192, 3, .putfield 280, 12, 38) :: c_M_tellFar_195
def c_M_tellFar_190 : List eg_I := .inl (190, 2, .lload 12, 0, 0) :: c_M_tellFar_192
def c_M_tellFar_189 : List eg_I := .inl (189, 1, .aload 0, 0, 0) :: c_M_tellFar_190
def c_M_tellFar_186 : List eg_I := .inl (186, 3, .putfield 283, 12, 37) :: c_M_tellFar_189
def c_M_tellFar_185 : List eg_I := .inl (185, 1, .lmul, 0, 0) :: c_M_tellFar_186
def c_M_tellFar_183 : List eg_I := .inl (183, 2, .lload 16, 0, 0) :: c_M_tellFar_185
def c_M_tellFar_181 : List eg_I := .inl (181, 2, .lload 16, 0, 0) :: c_M_tellFar_183
def c_M_tellFar_180 : List eg_I := .inl (180, 1, .aload 0, 0, 0) :: c_M_tellFar_181
def c_M_tellFar_178 : List eg_I := .inl (178, 2, .lstore 16, 0, 0) :: c_M_tellFar_180
def c_M_tellFar_177 : List eg_I := .inl (177, 1, .lsub, 0, 0) :: c_M_tellFar_178
def c_M_tellFar_176 : List eg_I := .inl (176, 1, .lmul, 0, 0) :: c_M_tellFar_177
def c_M_tellFar_174 : List eg_I := .inl (174, 2, .lload 8, 0, 0) :: c_M_tellFar_176
def c_M_tellFar_172 : List eg_I := .inl (172, 2, .lload 6, 0, 0) :: c_M_tellFar_174
def c_M_tellFar_171 : List eg_I := .inl (171, 1, .lmul, 0, 0) :: c_M_tellFar_172
def c_M_tellFar_169 : List eg_I := .inl (169, 2, .lload 10, 0, 0) :: c_M_tellFar_171
def c_M_tellFar_167 : List eg_I := .inl (167, 2, .lload 4, 0, 0) :: c_M_tellFar_169
def c_M_tellFar_164 : List eg_I := .inl (164, 3, .goto (31), 195, 0) :: []
def c_M_tellFar_161 : List eg_I := .inl (161, 3, .putfield 283, 12, 37) :: c_M_tellFar_164
def c_M_tellFar_160 : List eg_I := .inl (160, 1, .ladd, 0, 0) :: c_M_tellFar_161
def c_M_tellFar_159 : List eg_I := .inl (159, 1, .lmul, 0, 0) :: c_M_tellFar_160
def c_M_tellFar_158 : List eg_I := .inl (158, 1, .lsub, 0, 0) :: c_M_tellFar_159
def c_M_tellFar_156 : List eg_I := .inl (156, 2, .lload 6, 0, 0) :: c_M_tellFar_158
def c_M_tellFar_154 : List eg_I := .inl (154, 2, .lload 10, 0, 0) :: c_M_tellFar_156
def c_M_tellFar_153 : List eg_I := .inl (153, 1, .lsub, 0, 0) :: c_M_tellFar_154
def c_M_tellFar_151 : List eg_I := .inl (151, 2, .lload 6, 0, 0) :: c_M_tellFar_153
def c_M_tellFar_149 : List eg_I := .inl (149, 2, .lload 10, 0, 0) :: c_M_tellFar_151
def c_M_tellFar_148 : List eg_I := .inl (148, 1, .lmul, 0, 0) :: c_M_tellFar_149
def c_M_tellFar_147 : List eg_I := .inl (147, 1, .lsub, 0, 0) :: c_M_tellFar_148
def c_M_tellFar_145 : List eg_I := .inl (145, 2, .lload 4, 0, 0) :: c_M_tellFar_147
def c_M_tellFar_143 : List eg_I := .inl (143, 2, .lload 8, 0, 0) :: c_M_tellFar_145
def c_M_tellFar_142 : List eg_I := .inl (142, 1, .lsub, 0, 0) :: c_M_tellFar_143
def c_M_tellFar_140 : List eg_I := .inl (140, 2, .lload 4, 0, 0) :: c_M_tellFar_142
def c_M_tellFar_138 : List eg_I := .inl (138, 2, .lload 8, 0, 0) :: c_M_tellFar_140
def c_M_tellFar_137 : List eg_I := .inl (137, 1, .aload 0, 0, 0) :: c_M_tellFar_138
def c_M_tellFar_134 : List eg_I := .inl (134, 3, .ifCond .lt (33), 167, 0) :: c_M_tellFar_137
def c_M_tellFar_133 : List eg_I := .inl (133, 1, .lcmp, 0, 0) :: c_M_tellFar_134
def c_M_tellFar_131 : List eg_I := .inl (131, 2, .lload 12, 0, 0) :: c_M_tellFar_133
def c_M_tellFar_129 : List eg_I := .inl (129, 2, .lload 14, 0, 0) :: c_M_tellFar_131
def c_M_tellFar_126 : List eg_I := .inl (126, 3, .goto (69), 195, 0) :: []
def c_M_tellFar_123 : List eg_I := .inl (123, 3, .putfield 283, 12, 37) :: c_M_tellFar_126
def c_M_tellFar_122 : List eg_I := .inl (122, 1, .ladd, 0, 0) :: c_M_tellFar_123
def c_M_tellFar_121 : List eg_I := .inl (121, 1, .lmul, 0, 0) :: c_M_tellFar_122
def c_M_tellFar_119 : List eg_I := .inl (119, 2, .lload 10, 0, 0) :: c_M_tellFar_121
def c_M_tellFar_117 : List eg_I := .inl (117, 2, .lload 10, 0, 0) :: c_M_tellFar_119
def c_M_tellFar_116 : List eg_I := .inl (116, 1, .lmul, 0, 0) :: c_M_tellFar_117
def c_M_tellFar_114 : List eg_I := .inl (114, 2, .lload 8, 0, 0) :: c_M_tellFar_116
def c_M_tellFar_112 : List eg_I := .inl (112, 2, .lload 8, 0, 0) :: c_M_tellFar_114
def c_M_tellFar_111 : List eg_I := .inl (111, 1, .aload 0, 0, 0) :: c_M_tellFar_112
def c_M_tellFar_108 : List eg_I := .inl (108, 3, .ifCond .gt (21), 129, 0) :: c_M_tellFar_111
def c_M_tellFar_107 : List eg_I := .inl (107, 1, .lcmp, 0, 0) :: c_M_tellFar_108
def c_M_tellFar_106 : List eg_I := .inl (106, 1, .sipush (0), 0, 0) :: c_M_tellFar_107
def c_M_tellFar_104 : List eg_I := .inl (104, 2, .lload 14, 0, 0) :: c_M_tellFar_106
def c_M_tellFar_101 : List eg_I := .inl (101, 3, .putfield 280, 12, 38) :: c_M_tellFar_104
def c_M_tellFar_100 : List eg_I := .inl (100, 1, .sipush (1), 0, 0) :: c_M_tellFar_101
def c_M_tellFar_99 : List eg_I := .inl (99, 1, .aload 0, 0, 0) :: c_M_tellFar_100
def c_M_tellFar_97 : List eg_I := .inl (97, 2, .lstore 14, 0, 0) :: c_M_tellFar_99
def c_M_tellFar_96 : List eg_I := .inl (96, 1, .ladd, 0, 0) :: c_M_tellFar_97
def c_M_tellFar_95 : List eg_I := .inl (95, 1, .lmul, 0, 0) :: c_M_tellFar_96
def c_M_tellFar_93 : List eg_I := .inl (93, 2, .lload 10, 0, 0) :: c_M_tellFar_95
def c_M_tellFar_91 : List eg_I := .inl (91, 2, .lload 6, 0, 0) :: c_M_tellFar_93
def c_M_tellFar_90 : List eg_I := .inl (90, 1, .lmul, 0, 0) :: c_M_tellFar_91
def c_M_tellFar_88 : List eg_I := .inl (88, 2, .lload 8, 0, 0) :: c_M_tellFar_90
def c_M_tellFar_86 : List eg_I := .inl (86, 2, .lload 4, 0, 0) :: c_M_tellFar_88
def c_M_tellFar_84 : List eg_I := .inl (84, 2, .lstore 12, 0, 0) :: c_M_tellFar_86
def c_M_tellFar_83 : List eg_I := .inl (83, 1, .ladd, 0, 0) :: c_M_tellFar_84
def c_M_tellFar_82 : List eg_I := .inl (82, 1, .lmul, 0, 0) :: c_M_tellFar_83
def c_M_tellFar_80 : List eg_I := .inl (80, 2, .lload 6, 0, 0) :: c_M_tellFar_82
def c_M_tellFar_78 : List eg_I := .inl (78, 2, .lload 6, 0, 0) :: c_M_tellFar_80
def c_M_tellFar_77 : List eg_I := .inl (77, 1, .lmul, 0, 0) :: c_M_tellFar_78
def c_M_tellFar_75 : List eg_I := .inl (75, 2, .lload 4, 0, 0) :: c_M_tellFar_77
def c_M_tellFar_73 : List eg_I := .inl (73, 2, .lload 4, 0, 0) :: c_M_tellFar_75
def c_M_tellFar_71 : List eg_I := .inl (71, 2, .lstore 10, 0, 0) :: c_M_tellFar_73
def c_M_tellFar_70 : List eg_I := .inl (70, 1, .i2l, 0, 0) :: c_M_tellFar_71
def c_M_tellFar_69 : List eg_I := .inl (69, 1, .isub, 0, 0) :: c_M_tellFar_70
def c_M_tellFar_68 : List eg_I := .inl (68, 1, .iaload, 0, 0) :: c_M_tellFar_69
def c_M_tellFar_67 : List eg_I := .inl (67, 1, .iload 2, 0, 0) :: c_M_tellFar_68
def c_M_tellFar_64 : List eg_I := .inl (64, 3, .getfield 63, 12, 19) :: c_M_tellFar_67
def c_M_tellFar_63 : List eg_I := .inl (63, 1, .aload 0, 0, 0) :: c_M_tellFar_64
def c_M_tellFar_62 : List eg_I := .inl (62, 1, .iaload, 0, 0) :: c_M_tellFar_63
def c_M_tellFar_61 : List eg_I := .inl (61, 1, .iload 1, 0, 0) :: c_M_tellFar_62
def c_M_tellFar_58 : List eg_I := .inl (58, 3, .getfield 16, 12, 2) :: c_M_tellFar_61
def c_M_tellFar_57 : List eg_I := .inl (57, 1, .aload 0, 0, 0) :: c_M_tellFar_58
def c_M_tellFar_55 : List eg_I := .inl (55, 2, .lstore 8, 0, 0) :: c_M_tellFar_57
def c_M_tellFar_54 : List eg_I := .inl (54, 1, .i2l, 0, 0) :: c_M_tellFar_55
def c_M_tellFar_53 : List eg_I := .inl (53, 1, .isub, 0, 0) :: c_M_tellFar_54
def c_M_tellFar_52 : List eg_I := .inl (52, 1, .iaload, 0, 0) :: c_M_tellFar_53
def c_M_tellFar_51 : List eg_I := .inl (51, 1, .iload 2, 0, 0) :: c_M_tellFar_52
def c_M_tellFar_48 : List eg_I := .inl (48, 3, .getfield 60, 12, 18) :: c_M_tellFar_51
def c_M_tellFar_47 : List eg_I := .inl (47, 1, .aload 0, 0, 0) :: c_M_tellFar_48
def c_M_tellFar_46 : List eg_I := .inl (46, 1, .iaload, 0, 0) :: c_M_tellFar_47
def c_M_tellFar_45 : List eg_I := .inl (45, 1, .iload 1, 0, 0) :: c_M_tellFar_46
def c_M_tellFar_42 : List eg_I := .inl (42, 3, .getfield 13, 12, 1) :: c_M_tellFar_45
def c_M_tellFar_41 : List eg_I := .inl (41, 1, .aload 0, 0, 0) :: c_M_tellFar_42
def c_M_tellFar_39 : List eg_I := .inl (39, 2, .lstore 6, 0, 0) :: c_M_tellFar_41
def c_M_tellFar_38 : List eg_I := .inl (38, 1, .i2l, 0, 0) :: c_M_tellFar_39
def c_M_tellFar_37 : List eg_I := .inl (37, 1, .isub, 0, 0) :: c_M_tellFar_38
def c_M_tellFar_36 : List eg_I := .inl (36, 1, .iaload, 0, 0) :: c_M_tellFar_37
def c_M_tellFar_35 : List eg_I := .inl (35, 1, .iload 2, 0, 0) :: c_M_tellFar_36
def c_M_tellFar_32 : List eg_I := .inl (32, 3, .getfield 63, 12, 19) :: c_M_tellFar_35
def c_M_tellFar_31 : List eg_I := .inl (31, 1, .aload 0, 0, 0) :: c_M_tellFar_32
def c_M_tellFar_30 : List eg_I := .inl (30, 1, .iaload, 0, 0) :: c_M_tellFar_31
def c_M_tellFar_29 : List eg_I := .inl (29, 1, .iload 3, 0, 0) :: c_M_tellFar_30
def c_M_tellFar_26 : List eg_I := .inl (26, 3, .getfield 63, 12, 19) :: c_M_tellFar_29
def c_M_tellFar_25 : List eg_I := .inl (25, 1, .aload 0, 0, 0) :: c_M_tellFar_26
def c_M_tellFar_23 : List eg_I := .inl (23, 2, .lstore 4, 0, 0) :: c_M_tellFar_25
def c_M_tellFar_22 : List eg_I := .inl (22, 1, .i2l, 0, 0) :: c_M_tellFar_23
def c_M_tellFar_21 : List eg_I := .inl (21, 1, .isub, 0, 0) :: c_M_tellFar_22
def c_M_tellFar_20 : List eg_I := .inl (20, 1, .iaload, 0, 0) :: c_M_tellFar_21
def c_M_tellFar_19 : List eg_I := .inl (19, 1, .iload 2, 0, 0) :: c_M_tellFar_20
def c_M_tellFar_16 : List eg_I := .inl (16, 3, .getfield 60, 12, 18) :: c_M_tellFar_19
def c_M_tellFar_15 : List eg_I := .inl (15, 1, .aload 0, 0, 0) :: c_M_tellFar_16
def c_M_tellFar_14 : List eg_I := .inl (14, 1, .iaload, 0, 0) :: c_M_tellFar_15
def c_M_tellFar_13 : List eg_I := .inl (13, 1, .iload 3, 0, 0) :: c_M_tellFar_14
def c_M_tellFar_10 : List eg_I := .inl (10, 3, .getfield 60, 12, 18) :: c_M_tellFar_13
def c_M_tellFar_9 : List eg_I := .inl (9, 1, .aload 0, 0, 0) :: c_M_tellFar_10
def c_M_tellFar_8 : List eg_I := .inl (8, 1, .istore 3, 0, 0) :: c_M_tellFar_9
def c_M_tellFar_7 : List eg_I := .inl (7, 1, .irem, 0, 0) :: c_M_tellFar_8
def c_M_tellFar_4 : List eg_I := .inl (4, 3, .getfield 277, 12, 17) :: c_M_tellFar_7
def c_M_tellFar_3 : List eg_I := .inl (3, 1, .aload 0, 0, 0) :: c_M_tellFar_4
def c_M_tellFar_2 : List eg_I := .inl (2, 1, .iadd, 0, 0) :: c_M_tellFar_3
def c_M_tellFar_1 : List eg_I := .inl (1, 1, .iconst (1), 0, 0) :: c_M_tellFar_2
def c_M_tellFar_0 : List eg_I := .inl (0, 1, .iload 2, 0, 0) :: c_M_tellFar_1
section
variable {rm : Room} {K : Nat → Nat → Nat → eg_Lo → List Value → List eg_E → Prop} {Q : Option Value → List eg_E → Prop} {kc ks : Nat} {loc : eg_Lo} {st : List Value} {h : List eg_E}
theorem s_M_tellFar_0 {x : Int32} {l0 l1 : Option Value} {l : eg_Lo} : wps rm K Q c_M_tellFar_0 kc ks (l0 :: l1 :: some (.int x) :: l) (st) h = wps rm K Q c_M_tellFar_1 kc ks (l0 :: l1 :: some (.int x) :: l) (.int x :: st) h := rfl
theorem s_M_tellFar_1  : wps rm K Q c_M_tellFar_1 kc ks loc (st) h = wps rm K Q c_M_tellFar_2 kc ks loc (.int (1) :: st) h := rfl
theorem s_M_tellFar_2 {x y : Int32} : wps rm K Q c_M_tellFar_2 kc ks loc (.int y :: .int x :: st) h = wps rm K Q c_M_tellFar_3 kc ks loc (.int (x + y) :: st) h := rfl
theorem s_M_tellFar_3 {x : Nat} {l : eg_Lo} : wps rm K Q c_M_tellFar_3 kc ks (some (.ref x) :: l) (st) h = wps rm K Q c_M_tellFar_4 kc ks (some (.ref x) :: l) (.ref x :: st) h := rfl
theorem s_M_tellFar_4 {x : Nat} : wps rm K Q c_M_tellFar_4 kc ks loc (.ref (x + 1) :: st) h = eg_gf h x 12 17 (fun v => wps rm K Q c_M_tellFar_7 kc ks loc (v :: st) h) := rfl
theorem s_M_tellFar_7 {x y : Int32} : wps rm K Q c_M_tellFar_7 kc ks loc (.int y :: .int x :: st) h = (¬ y = 0 ∧ wps rm K Q c_M_tellFar_8 kc ks loc (.int (x - x / y * y) :: st) h) := rfl
theorem s_M_tellFar_8 {x : Int32} : wps rm K Q c_M_tellFar_8 kc ks loc (.int x :: st) h = wps rm K Q c_M_tellFar_9 kc ks (eg_set1 loc 3 (.int x)) (st) h := rfl
theorem s_M_tellFar_9 {x : Nat} {l : eg_Lo} : wps rm K Q c_M_tellFar_9 kc ks (some (.ref x) :: l) (st) h = wps rm K Q c_M_tellFar_10 kc ks (some (.ref x) :: l) (.ref x :: st) h := rfl
theorem s_M_tellFar_10 {x : Nat} : wps rm K Q c_M_tellFar_10 kc ks loc (.ref (x + 1) :: st) h = eg_gf h x 12 18 (fun v => wps rm K Q c_M_tellFar_13 kc ks loc (v :: st) h) := rfl
theorem s_M_tellFar_13 {x : Int32} {l0 l1 l2 : Option Value} {l : eg_Lo} : wps rm K Q c_M_tellFar_13 kc ks (l0 :: l1 :: l2 :: some (.int x) :: l) (st) h = wps rm K Q c_M_tellFar_14 kc ks (l0 :: l1 :: l2 :: some (.int x) :: l) (.int x :: st) h := rfl
theorem s_M_tellFar_14 {x : Nat} {i : Int32} : wps rm K Q c_M_tellFar_14 kc ks loc (.int i :: .ref (x + 1) :: st) h = eg_ia h x i (fun v => wps rm K Q c_M_tellFar_15 kc ks loc (.int v :: st) h) := rfl
theorem s_M_tellFar_15 {x : Nat} {l : eg_Lo} : wps rm K Q c_M_tellFar_15 kc ks (some (.ref x) :: l) (st) h = wps rm K Q c_M_tellFar_16 kc ks (some (.ref x) :: l) (.ref x :: st) h := rfl
theorem s_M_tellFar_16 {x : Nat} : wps rm K Q c_M_tellFar_16 kc ks loc (.ref (x + 1) :: st) h = eg_gf h x 12 18 (fun v => wps rm K Q c_M_tellFar_19 kc ks loc (v :: st) h) := rfl
theorem s_M_tellFar_19 {x : Int32} {l0 l1 : Option Value} {l : eg_Lo} : wps rm K Q c_M_tellFar_19 kc ks (l0 :: l1 :: some (.int x) :: l) (st) h = wps rm K Q c_M_tellFar_20 kc ks (l0 :: l1 :: some (.int x) :: l) (.int x :: st) h := rfl
theorem s_M_tellFar_20 {x : Nat} {i : Int32} : wps rm K Q c_M_tellFar_20 kc ks loc (.int i :: .ref (x + 1) :: st) h = eg_ia h x i (fun v => wps rm K Q c_M_tellFar_21 kc ks loc (.int v :: st) h) := rfl
theorem s_M_tellFar_21 {x y : Int32} : wps rm K Q c_M_tellFar_21 kc ks loc (.int y :: .int x :: st) h = wps rm K Q c_M_tellFar_22 kc ks loc (.int (x - y) :: st) h := rfl
theorem s_M_tellFar_22 {x : Int32} : wps rm K Q c_M_tellFar_22 kc ks loc (.int x :: st) h = wps rm K Q c_M_tellFar_23 kc ks loc (.long (x.toInt64) :: st) h := rfl
theorem s_M_tellFar_23 {x : Int64} : wps rm K Q c_M_tellFar_23 kc ks loc (.long x :: st) h = wps rm K Q c_M_tellFar_25 kc ks (eg_set2 loc 4 (.long x)) (st) h := rfl
theorem s_M_tellFar_25 {x : Nat} {l : eg_Lo} : wps rm K Q c_M_tellFar_25 kc ks (some (.ref x) :: l) (st) h = wps rm K Q c_M_tellFar_26 kc ks (some (.ref x) :: l) (.ref x :: st) h := rfl
theorem s_M_tellFar_26 {x : Nat} : wps rm K Q c_M_tellFar_26 kc ks loc (.ref (x + 1) :: st) h = eg_gf h x 12 19 (fun v => wps rm K Q c_M_tellFar_29 kc ks loc (v :: st) h) := rfl
theorem s_M_tellFar_29 {x : Int32} {l0 l1 l2 : Option Value} {l : eg_Lo} : wps rm K Q c_M_tellFar_29 kc ks (l0 :: l1 :: l2 :: some (.int x) :: l) (st) h = wps rm K Q c_M_tellFar_30 kc ks (l0 :: l1 :: l2 :: some (.int x) :: l) (.int x :: st) h := rfl
theorem s_M_tellFar_30 {x : Nat} {i : Int32} : wps rm K Q c_M_tellFar_30 kc ks loc (.int i :: .ref (x + 1) :: st) h = eg_ia h x i (fun v => wps rm K Q c_M_tellFar_31 kc ks loc (.int v :: st) h) := rfl
theorem s_M_tellFar_31 {x : Nat} {l : eg_Lo} : wps rm K Q c_M_tellFar_31 kc ks (some (.ref x) :: l) (st) h = wps rm K Q c_M_tellFar_32 kc ks (some (.ref x) :: l) (.ref x :: st) h := rfl
theorem s_M_tellFar_32 {x : Nat} : wps rm K Q c_M_tellFar_32 kc ks loc (.ref (x + 1) :: st) h = eg_gf h x 12 19 (fun v => wps rm K Q c_M_tellFar_35 kc ks loc (v :: st) h) := rfl
theorem s_M_tellFar_35 {x : Int32} {l0 l1 : Option Value} {l : eg_Lo} : wps rm K Q c_M_tellFar_35 kc ks (l0 :: l1 :: some (.int x) :: l) (st) h = wps rm K Q c_M_tellFar_36 kc ks (l0 :: l1 :: some (.int x) :: l) (.int x :: st) h := rfl
theorem s_M_tellFar_36 {x : Nat} {i : Int32} : wps rm K Q c_M_tellFar_36 kc ks loc (.int i :: .ref (x + 1) :: st) h = eg_ia h x i (fun v => wps rm K Q c_M_tellFar_37 kc ks loc (.int v :: st) h) := rfl
theorem s_M_tellFar_37 {x y : Int32} : wps rm K Q c_M_tellFar_37 kc ks loc (.int y :: .int x :: st) h = wps rm K Q c_M_tellFar_38 kc ks loc (.int (x - y) :: st) h := rfl
theorem s_M_tellFar_38 {x : Int32} : wps rm K Q c_M_tellFar_38 kc ks loc (.int x :: st) h = wps rm K Q c_M_tellFar_39 kc ks loc (.long (x.toInt64) :: st) h := rfl
theorem s_M_tellFar_39 {x : Int64} : wps rm K Q c_M_tellFar_39 kc ks loc (.long x :: st) h = wps rm K Q c_M_tellFar_41 kc ks (eg_set2 loc 6 (.long x)) (st) h := rfl
theorem s_M_tellFar_41 {x : Nat} {l : eg_Lo} : wps rm K Q c_M_tellFar_41 kc ks (some (.ref x) :: l) (st) h = wps rm K Q c_M_tellFar_42 kc ks (some (.ref x) :: l) (.ref x :: st) h := rfl
theorem s_M_tellFar_42 {x : Nat} : wps rm K Q c_M_tellFar_42 kc ks loc (.ref (x + 1) :: st) h = eg_gf h x 12 1 (fun v => wps rm K Q c_M_tellFar_45 kc ks loc (v :: st) h) := rfl
theorem s_M_tellFar_45 {x : Int32} {l0 : Option Value} {l : eg_Lo} : wps rm K Q c_M_tellFar_45 kc ks (l0 :: some (.int x) :: l) (st) h = wps rm K Q c_M_tellFar_46 kc ks (l0 :: some (.int x) :: l) (.int x :: st) h := rfl
theorem s_M_tellFar_46 {x : Nat} {i : Int32} : wps rm K Q c_M_tellFar_46 kc ks loc (.int i :: .ref (x + 1) :: st) h = eg_ia h x i (fun v => wps rm K Q c_M_tellFar_47 kc ks loc (.int v :: st) h) := rfl
theorem s_M_tellFar_47 {x : Nat} {l : eg_Lo} : wps rm K Q c_M_tellFar_47 kc ks (some (.ref x) :: l) (st) h = wps rm K Q c_M_tellFar_48 kc ks (some (.ref x) :: l) (.ref x :: st) h := rfl
theorem s_M_tellFar_48 {x : Nat} : wps rm K Q c_M_tellFar_48 kc ks loc (.ref (x + 1) :: st) h = eg_gf h x 12 18 (fun v => wps rm K Q c_M_tellFar_51 kc ks loc (v :: st) h) := rfl
theorem s_M_tellFar_51 {x : Int32} {l0 l1 : Option Value} {l : eg_Lo} : wps rm K Q c_M_tellFar_51 kc ks (l0 :: l1 :: some (.int x) :: l) (st) h = wps rm K Q c_M_tellFar_52 kc ks (l0 :: l1 :: some (.int x) :: l) (.int x :: st) h := rfl
theorem s_M_tellFar_52 {x : Nat} {i : Int32} : wps rm K Q c_M_tellFar_52 kc ks loc (.int i :: .ref (x + 1) :: st) h = eg_ia h x i (fun v => wps rm K Q c_M_tellFar_53 kc ks loc (.int v :: st) h) := rfl
theorem s_M_tellFar_53 {x y : Int32} : wps rm K Q c_M_tellFar_53 kc ks loc (.int y :: .int x :: st) h = wps rm K Q c_M_tellFar_54 kc ks loc (.int (x - y) :: st) h := rfl
theorem s_M_tellFar_54 {x : Int32} : wps rm K Q c_M_tellFar_54 kc ks loc (.int x :: st) h = wps rm K Q c_M_tellFar_55 kc ks loc (.long (x.toInt64) :: st) h := rfl
theorem s_M_tellFar_55 {x : Int64} : wps rm K Q c_M_tellFar_55 kc ks loc (.long x :: st) h = wps rm K Q c_M_tellFar_57 kc ks (eg_set2 loc 8 (.long x)) (st) h := rfl
theorem s_M_tellFar_57 {x : Nat} {l : eg_Lo} : wps rm K Q c_M_tellFar_57 kc ks (some (.ref x) :: l) (st) h = wps rm K Q c_M_tellFar_58 kc ks (some (.ref x) :: l) (.ref x :: st) h := rfl
theorem s_M_tellFar_58 {x : Nat} : wps rm K Q c_M_tellFar_58 kc ks loc (.ref (x + 1) :: st) h = eg_gf h x 12 2 (fun v => wps rm K Q c_M_tellFar_61 kc ks loc (v :: st) h) := rfl
theorem s_M_tellFar_61 {x : Int32} {l0 : Option Value} {l : eg_Lo} : wps rm K Q c_M_tellFar_61 kc ks (l0 :: some (.int x) :: l) (st) h = wps rm K Q c_M_tellFar_62 kc ks (l0 :: some (.int x) :: l) (.int x :: st) h := rfl
theorem s_M_tellFar_62 {x : Nat} {i : Int32} : wps rm K Q c_M_tellFar_62 kc ks loc (.int i :: .ref (x + 1) :: st) h = eg_ia h x i (fun v => wps rm K Q c_M_tellFar_63 kc ks loc (.int v :: st) h) := rfl
theorem s_M_tellFar_63 {x : Nat} {l : eg_Lo} : wps rm K Q c_M_tellFar_63 kc ks (some (.ref x) :: l) (st) h = wps rm K Q c_M_tellFar_64 kc ks (some (.ref x) :: l) (.ref x :: st) h := rfl
theorem s_M_tellFar_64 {x : Nat} : wps rm K Q c_M_tellFar_64 kc ks loc (.ref (x + 1) :: st) h = eg_gf h x 12 19 (fun v => wps rm K Q c_M_tellFar_67 kc ks loc (v :: st) h) := rfl
theorem s_M_tellFar_67 {x : Int32} {l0 l1 : Option Value} {l : eg_Lo} : wps rm K Q c_M_tellFar_67 kc ks (l0 :: l1 :: some (.int x) :: l) (st) h = wps rm K Q c_M_tellFar_68 kc ks (l0 :: l1 :: some (.int x) :: l) (.int x :: st) h := rfl
theorem s_M_tellFar_68 {x : Nat} {i : Int32} : wps rm K Q c_M_tellFar_68 kc ks loc (.int i :: .ref (x + 1) :: st) h = eg_ia h x i (fun v => wps rm K Q c_M_tellFar_69 kc ks loc (.int v :: st) h) := rfl
theorem s_M_tellFar_69 {x y : Int32} : wps rm K Q c_M_tellFar_69 kc ks loc (.int y :: .int x :: st) h = wps rm K Q c_M_tellFar_70 kc ks loc (.int (x - y) :: st) h := rfl
theorem s_M_tellFar_70 {x : Int32} : wps rm K Q c_M_tellFar_70 kc ks loc (.int x :: st) h = wps rm K Q c_M_tellFar_71 kc ks loc (.long (x.toInt64) :: st) h := rfl
theorem s_M_tellFar_71 {x : Int64} : wps rm K Q c_M_tellFar_71 kc ks loc (.long x :: st) h = wps rm K Q c_M_tellFar_73 kc ks (eg_set2 loc 10 (.long x)) (st) h := rfl
theorem s_M_tellFar_73 {x : Int64} {l0 l1 l2 l3 : Option Value} {l : eg_Lo} : wps rm K Q c_M_tellFar_73 kc ks (l0 :: l1 :: l2 :: l3 :: some (.long x) :: l) (st) h = wps rm K Q c_M_tellFar_75 kc ks (l0 :: l1 :: l2 :: l3 :: some (.long x) :: l) (.long x :: st) h := rfl
theorem s_M_tellFar_75 {x : Int64} {l0 l1 l2 l3 : Option Value} {l : eg_Lo} : wps rm K Q c_M_tellFar_75 kc ks (l0 :: l1 :: l2 :: l3 :: some (.long x) :: l) (st) h = wps rm K Q c_M_tellFar_77 kc ks (l0 :: l1 :: l2 :: l3 :: some (.long x) :: l) (.long x :: st) h := rfl
theorem s_M_tellFar_77 {x y : Int64} : wps rm K Q c_M_tellFar_77 kc ks loc (.long y :: .long x :: st) h = wps rm K Q c_M_tellFar_78 kc ks loc (.long (x * y) :: st) h := rfl
theorem s_M_tellFar_78 {x : Int64} {l0 l1 l2 l3 l4 l5 : Option Value} {l : eg_Lo} : wps rm K Q c_M_tellFar_78 kc ks (l0 :: l1 :: l2 :: l3 :: l4 :: l5 :: some (.long x) :: l) (st) h = wps rm K Q c_M_tellFar_80 kc ks (l0 :: l1 :: l2 :: l3 :: l4 :: l5 :: some (.long x) :: l) (.long x :: st) h := rfl
theorem s_M_tellFar_80 {x : Int64} {l0 l1 l2 l3 l4 l5 : Option Value} {l : eg_Lo} : wps rm K Q c_M_tellFar_80 kc ks (l0 :: l1 :: l2 :: l3 :: l4 :: l5 :: some (.long x) :: l) (st) h = wps rm K Q c_M_tellFar_82 kc ks (l0 :: l1 :: l2 :: l3 :: l4 :: l5 :: some (.long x) :: l) (.long x :: st) h := rfl
theorem s_M_tellFar_82 {x y : Int64} : wps rm K Q c_M_tellFar_82 kc ks loc (.long y :: .long x :: st) h = wps rm K Q c_M_tellFar_83 kc ks loc (.long (x * y) :: st) h := rfl
theorem s_M_tellFar_83 {x y : Int64} : wps rm K Q c_M_tellFar_83 kc ks loc (.long y :: .long x :: st) h = wps rm K Q c_M_tellFar_84 kc ks loc (.long (x + y) :: st) h := rfl
theorem s_M_tellFar_84 {x : Int64} : wps rm K Q c_M_tellFar_84 kc ks loc (.long x :: st) h = wps rm K Q c_M_tellFar_86 kc ks (eg_set2 loc 12 (.long x)) (st) h := rfl
theorem s_M_tellFar_86 {x : Int64} {l0 l1 l2 l3 : Option Value} {l : eg_Lo} : wps rm K Q c_M_tellFar_86 kc ks (l0 :: l1 :: l2 :: l3 :: some (.long x) :: l) (st) h = wps rm K Q c_M_tellFar_88 kc ks (l0 :: l1 :: l2 :: l3 :: some (.long x) :: l) (.long x :: st) h := rfl
theorem s_M_tellFar_88 {x : Int64} {l0 l1 l2 l3 l4 l5 l6 l7 : Option Value} {l : eg_Lo} : wps rm K Q c_M_tellFar_88 kc ks (l0 :: l1 :: l2 :: l3 :: l4 :: l5 :: l6 :: l7 :: some (.long x) :: l) (st) h = wps rm K Q c_M_tellFar_90 kc ks (l0 :: l1 :: l2 :: l3 :: l4 :: l5 :: l6 :: l7 :: some (.long x) :: l) (.long x :: st) h := rfl
theorem s_M_tellFar_90 {x y : Int64} : wps rm K Q c_M_tellFar_90 kc ks loc (.long y :: .long x :: st) h = wps rm K Q c_M_tellFar_91 kc ks loc (.long (x * y) :: st) h := rfl
theorem s_M_tellFar_91 {x : Int64} {l0 l1 l2 l3 l4 l5 : Option Value} {l : eg_Lo} : wps rm K Q c_M_tellFar_91 kc ks (l0 :: l1 :: l2 :: l3 :: l4 :: l5 :: some (.long x) :: l) (st) h = wps rm K Q c_M_tellFar_93 kc ks (l0 :: l1 :: l2 :: l3 :: l4 :: l5 :: some (.long x) :: l) (.long x :: st) h := rfl
theorem s_M_tellFar_93 {x : Int64} {l0 l1 l2 l3 l4 l5 l6 l7 l8 l9 : Option Value} {l : eg_Lo} : wps rm K Q c_M_tellFar_93 kc ks (l0 :: l1 :: l2 :: l3 :: l4 :: l5 :: l6 :: l7 :: l8 :: l9 :: some (.long x) :: l) (st) h = wps rm K Q c_M_tellFar_95 kc ks (l0 :: l1 :: l2 :: l3 :: l4 :: l5 :: l6 :: l7 :: l8 :: l9 :: some (.long x) :: l) (.long x :: st) h := rfl
theorem s_M_tellFar_95 {x y : Int64} : wps rm K Q c_M_tellFar_95 kc ks loc (.long y :: .long x :: st) h = wps rm K Q c_M_tellFar_96 kc ks loc (.long (x * y) :: st) h := rfl
theorem s_M_tellFar_96 {x y : Int64} : wps rm K Q c_M_tellFar_96 kc ks loc (.long y :: .long x :: st) h = wps rm K Q c_M_tellFar_97 kc ks loc (.long (x + y) :: st) h := rfl
theorem s_M_tellFar_97 {x : Int64} : wps rm K Q c_M_tellFar_97 kc ks loc (.long x :: st) h = wps rm K Q c_M_tellFar_99 kc ks (eg_set2 loc 14 (.long x)) (st) h := rfl
theorem s_M_tellFar_99 {x : Nat} {l : eg_Lo} : wps rm K Q c_M_tellFar_99 kc ks (some (.ref x) :: l) (st) h = wps rm K Q c_M_tellFar_100 kc ks (some (.ref x) :: l) (.ref x :: st) h := rfl
theorem s_M_tellFar_100  : wps rm K Q c_M_tellFar_100 kc ks loc (st) h = wps rm K Q c_M_tellFar_101 kc ks loc (.long (1) :: st) h := rfl
theorem s_M_tellFar_101 {x : Nat} {v : Value} : wps rm K Q c_M_tellFar_101 kc ks loc (v :: .ref (x + 1) :: st) h = eg_pf h x 12 38 v (fun h9 => wps rm K Q c_M_tellFar_104 kc ks loc (st) h9) := rfl
theorem s_M_tellFar_104 {x : Int64} {l0 l1 l2 l3 l4 l5 l6 l7 l8 l9 l10 l11 l12 l13 : Option Value} {l : eg_Lo} : wps rm K Q c_M_tellFar_104 kc ks (l0 :: l1 :: l2 :: l3 :: l4 :: l5 :: l6 :: l7 :: l8 :: l9 :: l10 :: l11 :: l12 :: l13 :: some (.long x) :: l) (st) h = wps rm K Q c_M_tellFar_106 kc ks (l0 :: l1 :: l2 :: l3 :: l4 :: l5 :: l6 :: l7 :: l8 :: l9 :: l10 :: l11 :: l12 :: l13 :: some (.long x) :: l) (.long x :: st) h := rfl
theorem s_M_tellFar_106  : wps rm K Q c_M_tellFar_106 kc ks loc (st) h = wps rm K Q c_M_tellFar_107 kc ks loc (.long (0) :: st) h := rfl
theorem s_M_tellFar_107 {x y : Int64} : wps rm K Q c_M_tellFar_107 kc ks loc (.long y :: .long x :: st) h = wps rm K Q c_M_tellFar_108 kc ks loc (.int (lg_cmp x y) :: st) h := rfl
theorem s_M_tellFar_108 {x : Int32} : wps rm K Q c_M_tellFar_108 kc ks loc (.int x :: st) h = ((0 < x → K 129 kc ks loc st h) ∧ (¬ 0 < x → wps rm K Q c_M_tellFar_111 kc ks loc (st) h)) := rfl
theorem s_M_tellFar_111 {x : Nat} {l : eg_Lo} : wps rm K Q c_M_tellFar_111 kc ks (some (.ref x) :: l) (st) h = wps rm K Q c_M_tellFar_112 kc ks (some (.ref x) :: l) (.ref x :: st) h := rfl
theorem s_M_tellFar_112 {x : Int64} {l0 l1 l2 l3 l4 l5 l6 l7 : Option Value} {l : eg_Lo} : wps rm K Q c_M_tellFar_112 kc ks (l0 :: l1 :: l2 :: l3 :: l4 :: l5 :: l6 :: l7 :: some (.long x) :: l) (st) h = wps rm K Q c_M_tellFar_114 kc ks (l0 :: l1 :: l2 :: l3 :: l4 :: l5 :: l6 :: l7 :: some (.long x) :: l) (.long x :: st) h := rfl
theorem s_M_tellFar_114 {x : Int64} {l0 l1 l2 l3 l4 l5 l6 l7 : Option Value} {l : eg_Lo} : wps rm K Q c_M_tellFar_114 kc ks (l0 :: l1 :: l2 :: l3 :: l4 :: l5 :: l6 :: l7 :: some (.long x) :: l) (st) h = wps rm K Q c_M_tellFar_116 kc ks (l0 :: l1 :: l2 :: l3 :: l4 :: l5 :: l6 :: l7 :: some (.long x) :: l) (.long x :: st) h := rfl
theorem s_M_tellFar_116 {x y : Int64} : wps rm K Q c_M_tellFar_116 kc ks loc (.long y :: .long x :: st) h = wps rm K Q c_M_tellFar_117 kc ks loc (.long (x * y) :: st) h := rfl
theorem s_M_tellFar_117 {x : Int64} {l0 l1 l2 l3 l4 l5 l6 l7 l8 l9 : Option Value} {l : eg_Lo} : wps rm K Q c_M_tellFar_117 kc ks (l0 :: l1 :: l2 :: l3 :: l4 :: l5 :: l6 :: l7 :: l8 :: l9 :: some (.long x) :: l) (st) h = wps rm K Q c_M_tellFar_119 kc ks (l0 :: l1 :: l2 :: l3 :: l4 :: l5 :: l6 :: l7 :: l8 :: l9 :: some (.long x) :: l) (.long x :: st) h := rfl
theorem s_M_tellFar_119 {x : Int64} {l0 l1 l2 l3 l4 l5 l6 l7 l8 l9 : Option Value} {l : eg_Lo} : wps rm K Q c_M_tellFar_119 kc ks (l0 :: l1 :: l2 :: l3 :: l4 :: l5 :: l6 :: l7 :: l8 :: l9 :: some (.long x) :: l) (st) h = wps rm K Q c_M_tellFar_121 kc ks (l0 :: l1 :: l2 :: l3 :: l4 :: l5 :: l6 :: l7 :: l8 :: l9 :: some (.long x) :: l) (.long x :: st) h := rfl
theorem s_M_tellFar_121 {x y : Int64} : wps rm K Q c_M_tellFar_121 kc ks loc (.long y :: .long x :: st) h = wps rm K Q c_M_tellFar_122 kc ks loc (.long (x * y) :: st) h := rfl
theorem s_M_tellFar_122 {x y : Int64} : wps rm K Q c_M_tellFar_122 kc ks loc (.long y :: .long x :: st) h = wps rm K Q c_M_tellFar_123 kc ks loc (.long (x + y) :: st) h := rfl
theorem s_M_tellFar_123 {x : Nat} {v : Value} : wps rm K Q c_M_tellFar_123 kc ks loc (v :: .ref (x + 1) :: st) h = eg_pf h x 12 37 v (fun h9 => wps rm K Q c_M_tellFar_126 kc ks loc (st) h9) := rfl
theorem s_M_tellFar_126  : wps rm K Q c_M_tellFar_126 kc ks loc (st) h = K 195 kc ks loc st h := rfl
theorem s_M_tellFar_129 {x : Int64} {l0 l1 l2 l3 l4 l5 l6 l7 l8 l9 l10 l11 l12 l13 : Option Value} {l : eg_Lo} : wps rm K Q c_M_tellFar_129 kc ks (l0 :: l1 :: l2 :: l3 :: l4 :: l5 :: l6 :: l7 :: l8 :: l9 :: l10 :: l11 :: l12 :: l13 :: some (.long x) :: l) (st) h = wps rm K Q c_M_tellFar_131 kc ks (l0 :: l1 :: l2 :: l3 :: l4 :: l5 :: l6 :: l7 :: l8 :: l9 :: l10 :: l11 :: l12 :: l13 :: some (.long x) :: l) (.long x :: st) h := rfl
theorem s_M_tellFar_131 {x : Int64} {l0 l1 l2 l3 l4 l5 l6 l7 l8 l9 l10 l11 : Option Value} {l : eg_Lo} : wps rm K Q c_M_tellFar_131 kc ks (l0 :: l1 :: l2 :: l3 :: l4 :: l5 :: l6 :: l7 :: l8 :: l9 :: l10 :: l11 :: some (.long x) :: l) (st) h = wps rm K Q c_M_tellFar_133 kc ks (l0 :: l1 :: l2 :: l3 :: l4 :: l5 :: l6 :: l7 :: l8 :: l9 :: l10 :: l11 :: some (.long x) :: l) (.long x :: st) h := rfl
theorem s_M_tellFar_133 {x y : Int64} : wps rm K Q c_M_tellFar_133 kc ks loc (.long y :: .long x :: st) h = wps rm K Q c_M_tellFar_134 kc ks loc (.int (lg_cmp x y) :: st) h := rfl
theorem s_M_tellFar_134 {x : Int32} : wps rm K Q c_M_tellFar_134 kc ks loc (.int x :: st) h = ((x < 0 → K 167 kc ks loc st h) ∧ (¬ x < 0 → wps rm K Q c_M_tellFar_137 kc ks loc (st) h)) := rfl
theorem s_M_tellFar_137 {x : Nat} {l : eg_Lo} : wps rm K Q c_M_tellFar_137 kc ks (some (.ref x) :: l) (st) h = wps rm K Q c_M_tellFar_138 kc ks (some (.ref x) :: l) (.ref x :: st) h := rfl
theorem s_M_tellFar_138 {x : Int64} {l0 l1 l2 l3 l4 l5 l6 l7 : Option Value} {l : eg_Lo} : wps rm K Q c_M_tellFar_138 kc ks (l0 :: l1 :: l2 :: l3 :: l4 :: l5 :: l6 :: l7 :: some (.long x) :: l) (st) h = wps rm K Q c_M_tellFar_140 kc ks (l0 :: l1 :: l2 :: l3 :: l4 :: l5 :: l6 :: l7 :: some (.long x) :: l) (.long x :: st) h := rfl
theorem s_M_tellFar_140 {x : Int64} {l0 l1 l2 l3 : Option Value} {l : eg_Lo} : wps rm K Q c_M_tellFar_140 kc ks (l0 :: l1 :: l2 :: l3 :: some (.long x) :: l) (st) h = wps rm K Q c_M_tellFar_142 kc ks (l0 :: l1 :: l2 :: l3 :: some (.long x) :: l) (.long x :: st) h := rfl
theorem s_M_tellFar_142 {x y : Int64} : wps rm K Q c_M_tellFar_142 kc ks loc (.long y :: .long x :: st) h = wps rm K Q c_M_tellFar_143 kc ks loc (.long (x - y) :: st) h := rfl
theorem s_M_tellFar_143 {x : Int64} {l0 l1 l2 l3 l4 l5 l6 l7 : Option Value} {l : eg_Lo} : wps rm K Q c_M_tellFar_143 kc ks (l0 :: l1 :: l2 :: l3 :: l4 :: l5 :: l6 :: l7 :: some (.long x) :: l) (st) h = wps rm K Q c_M_tellFar_145 kc ks (l0 :: l1 :: l2 :: l3 :: l4 :: l5 :: l6 :: l7 :: some (.long x) :: l) (.long x :: st) h := rfl
theorem s_M_tellFar_145 {x : Int64} {l0 l1 l2 l3 : Option Value} {l : eg_Lo} : wps rm K Q c_M_tellFar_145 kc ks (l0 :: l1 :: l2 :: l3 :: some (.long x) :: l) (st) h = wps rm K Q c_M_tellFar_147 kc ks (l0 :: l1 :: l2 :: l3 :: some (.long x) :: l) (.long x :: st) h := rfl
theorem s_M_tellFar_147 {x y : Int64} : wps rm K Q c_M_tellFar_147 kc ks loc (.long y :: .long x :: st) h = wps rm K Q c_M_tellFar_148 kc ks loc (.long (x - y) :: st) h := rfl
theorem s_M_tellFar_148 {x y : Int64} : wps rm K Q c_M_tellFar_148 kc ks loc (.long y :: .long x :: st) h = wps rm K Q c_M_tellFar_149 kc ks loc (.long (x * y) :: st) h := rfl
theorem s_M_tellFar_149 {x : Int64} {l0 l1 l2 l3 l4 l5 l6 l7 l8 l9 : Option Value} {l : eg_Lo} : wps rm K Q c_M_tellFar_149 kc ks (l0 :: l1 :: l2 :: l3 :: l4 :: l5 :: l6 :: l7 :: l8 :: l9 :: some (.long x) :: l) (st) h = wps rm K Q c_M_tellFar_151 kc ks (l0 :: l1 :: l2 :: l3 :: l4 :: l5 :: l6 :: l7 :: l8 :: l9 :: some (.long x) :: l) (.long x :: st) h := rfl
theorem s_M_tellFar_151 {x : Int64} {l0 l1 l2 l3 l4 l5 : Option Value} {l : eg_Lo} : wps rm K Q c_M_tellFar_151 kc ks (l0 :: l1 :: l2 :: l3 :: l4 :: l5 :: some (.long x) :: l) (st) h = wps rm K Q c_M_tellFar_153 kc ks (l0 :: l1 :: l2 :: l3 :: l4 :: l5 :: some (.long x) :: l) (.long x :: st) h := rfl
theorem s_M_tellFar_153 {x y : Int64} : wps rm K Q c_M_tellFar_153 kc ks loc (.long y :: .long x :: st) h = wps rm K Q c_M_tellFar_154 kc ks loc (.long (x - y) :: st) h := rfl
theorem s_M_tellFar_154 {x : Int64} {l0 l1 l2 l3 l4 l5 l6 l7 l8 l9 : Option Value} {l : eg_Lo} : wps rm K Q c_M_tellFar_154 kc ks (l0 :: l1 :: l2 :: l3 :: l4 :: l5 :: l6 :: l7 :: l8 :: l9 :: some (.long x) :: l) (st) h = wps rm K Q c_M_tellFar_156 kc ks (l0 :: l1 :: l2 :: l3 :: l4 :: l5 :: l6 :: l7 :: l8 :: l9 :: some (.long x) :: l) (.long x :: st) h := rfl
theorem s_M_tellFar_156 {x : Int64} {l0 l1 l2 l3 l4 l5 : Option Value} {l : eg_Lo} : wps rm K Q c_M_tellFar_156 kc ks (l0 :: l1 :: l2 :: l3 :: l4 :: l5 :: some (.long x) :: l) (st) h = wps rm K Q c_M_tellFar_158 kc ks (l0 :: l1 :: l2 :: l3 :: l4 :: l5 :: some (.long x) :: l) (.long x :: st) h := rfl
theorem s_M_tellFar_158 {x y : Int64} : wps rm K Q c_M_tellFar_158 kc ks loc (.long y :: .long x :: st) h = wps rm K Q c_M_tellFar_159 kc ks loc (.long (x - y) :: st) h := rfl
theorem s_M_tellFar_159 {x y : Int64} : wps rm K Q c_M_tellFar_159 kc ks loc (.long y :: .long x :: st) h = wps rm K Q c_M_tellFar_160 kc ks loc (.long (x * y) :: st) h := rfl
theorem s_M_tellFar_160 {x y : Int64} : wps rm K Q c_M_tellFar_160 kc ks loc (.long y :: .long x :: st) h = wps rm K Q c_M_tellFar_161 kc ks loc (.long (x + y) :: st) h := rfl
theorem s_M_tellFar_161 {x : Nat} {v : Value} : wps rm K Q c_M_tellFar_161 kc ks loc (v :: .ref (x + 1) :: st) h = eg_pf h x 12 37 v (fun h9 => wps rm K Q c_M_tellFar_164 kc ks loc (st) h9) := rfl
theorem s_M_tellFar_164  : wps rm K Q c_M_tellFar_164 kc ks loc (st) h = K 195 kc ks loc st h := rfl
theorem s_M_tellFar_167 {x : Int64} {l0 l1 l2 l3 : Option Value} {l : eg_Lo} : wps rm K Q c_M_tellFar_167 kc ks (l0 :: l1 :: l2 :: l3 :: some (.long x) :: l) (st) h = wps rm K Q c_M_tellFar_169 kc ks (l0 :: l1 :: l2 :: l3 :: some (.long x) :: l) (.long x :: st) h := rfl
theorem s_M_tellFar_169 {x : Int64} {l0 l1 l2 l3 l4 l5 l6 l7 l8 l9 : Option Value} {l : eg_Lo} : wps rm K Q c_M_tellFar_169 kc ks (l0 :: l1 :: l2 :: l3 :: l4 :: l5 :: l6 :: l7 :: l8 :: l9 :: some (.long x) :: l) (st) h = wps rm K Q c_M_tellFar_171 kc ks (l0 :: l1 :: l2 :: l3 :: l4 :: l5 :: l6 :: l7 :: l8 :: l9 :: some (.long x) :: l) (.long x :: st) h := rfl
theorem s_M_tellFar_171 {x y : Int64} : wps rm K Q c_M_tellFar_171 kc ks loc (.long y :: .long x :: st) h = wps rm K Q c_M_tellFar_172 kc ks loc (.long (x * y) :: st) h := rfl
theorem s_M_tellFar_172 {x : Int64} {l0 l1 l2 l3 l4 l5 : Option Value} {l : eg_Lo} : wps rm K Q c_M_tellFar_172 kc ks (l0 :: l1 :: l2 :: l3 :: l4 :: l5 :: some (.long x) :: l) (st) h = wps rm K Q c_M_tellFar_174 kc ks (l0 :: l1 :: l2 :: l3 :: l4 :: l5 :: some (.long x) :: l) (.long x :: st) h := rfl
theorem s_M_tellFar_174 {x : Int64} {l0 l1 l2 l3 l4 l5 l6 l7 : Option Value} {l : eg_Lo} : wps rm K Q c_M_tellFar_174 kc ks (l0 :: l1 :: l2 :: l3 :: l4 :: l5 :: l6 :: l7 :: some (.long x) :: l) (st) h = wps rm K Q c_M_tellFar_176 kc ks (l0 :: l1 :: l2 :: l3 :: l4 :: l5 :: l6 :: l7 :: some (.long x) :: l) (.long x :: st) h := rfl
theorem s_M_tellFar_176 {x y : Int64} : wps rm K Q c_M_tellFar_176 kc ks loc (.long y :: .long x :: st) h = wps rm K Q c_M_tellFar_177 kc ks loc (.long (x * y) :: st) h := rfl
theorem s_M_tellFar_177 {x y : Int64} : wps rm K Q c_M_tellFar_177 kc ks loc (.long y :: .long x :: st) h = wps rm K Q c_M_tellFar_178 kc ks loc (.long (x - y) :: st) h := rfl
theorem s_M_tellFar_178 {x : Int64} : wps rm K Q c_M_tellFar_178 kc ks loc (.long x :: st) h = wps rm K Q c_M_tellFar_180 kc ks (eg_set2 loc 16 (.long x)) (st) h := rfl
theorem s_M_tellFar_180 {x : Nat} {l : eg_Lo} : wps rm K Q c_M_tellFar_180 kc ks (some (.ref x) :: l) (st) h = wps rm K Q c_M_tellFar_181 kc ks (some (.ref x) :: l) (.ref x :: st) h := rfl
theorem s_M_tellFar_181 {x : Int64} {l0 l1 l2 l3 l4 l5 l6 l7 l8 l9 l10 l11 l12 l13 l14 l15 : Option Value} {l : eg_Lo} : wps rm K Q c_M_tellFar_181 kc ks (l0 :: l1 :: l2 :: l3 :: l4 :: l5 :: l6 :: l7 :: l8 :: l9 :: l10 :: l11 :: l12 :: l13 :: l14 :: l15 :: some (.long x) :: l) (st) h = wps rm K Q c_M_tellFar_183 kc ks (l0 :: l1 :: l2 :: l3 :: l4 :: l5 :: l6 :: l7 :: l8 :: l9 :: l10 :: l11 :: l12 :: l13 :: l14 :: l15 :: some (.long x) :: l) (.long x :: st) h := rfl
theorem s_M_tellFar_183 {x : Int64} {l0 l1 l2 l3 l4 l5 l6 l7 l8 l9 l10 l11 l12 l13 l14 l15 : Option Value} {l : eg_Lo} : wps rm K Q c_M_tellFar_183 kc ks (l0 :: l1 :: l2 :: l3 :: l4 :: l5 :: l6 :: l7 :: l8 :: l9 :: l10 :: l11 :: l12 :: l13 :: l14 :: l15 :: some (.long x) :: l) (st) h = wps rm K Q c_M_tellFar_185 kc ks (l0 :: l1 :: l2 :: l3 :: l4 :: l5 :: l6 :: l7 :: l8 :: l9 :: l10 :: l11 :: l12 :: l13 :: l14 :: l15 :: some (.long x) :: l) (.long x :: st) h := rfl
theorem s_M_tellFar_185 {x y : Int64} : wps rm K Q c_M_tellFar_185 kc ks loc (.long y :: .long x :: st) h = wps rm K Q c_M_tellFar_186 kc ks loc (.long (x * y) :: st) h := rfl
theorem s_M_tellFar_186 {x : Nat} {v : Value} : wps rm K Q c_M_tellFar_186 kc ks loc (v :: .ref (x + 1) :: st) h = eg_pf h x 12 37 v (fun h9 => wps rm K Q c_M_tellFar_189 kc ks loc (st) h9) := rfl
theorem s_M_tellFar_189 {x : Nat} {l : eg_Lo} : wps rm K Q c_M_tellFar_189 kc ks (some (.ref x) :: l) (st) h = wps rm K Q c_M_tellFar_190 kc ks (some (.ref x) :: l) (.ref x :: st) h := rfl
theorem s_M_tellFar_190 {x : Int64} {l0 l1 l2 l3 l4 l5 l6 l7 l8 l9 l10 l11 : Option Value} {l : eg_Lo} : wps rm K Q c_M_tellFar_190 kc ks (l0 :: l1 :: l2 :: l3 :: l4 :: l5 :: l6 :: l7 :: l8 :: l9 :: l10 :: l11 :: some (.long x) :: l) (st) h = wps rm K Q c_M_tellFar_192 kc ks (l0 :: l1 :: l2 :: l3 :: l4 :: l5 :: l6 :: l7 :: l8 :: l9 :: l10 :: l11 :: some (.long x) :: l) (.long x :: st) h := rfl
theorem s_M_tellFar_192 {x : Nat} {v : Value} : wps rm K Q c_M_tellFar_192 kc ks loc (v :: .ref (x + 1) :: st) h = eg_pf h x 12 38 v (fun h9 => wps rm K Q c_M_tellFar_195 kc ks loc (st) h9) := rfl
theorem s_M_tellFar_195  : wps rm K Q c_M_tellFar_195 kc ks loc ([]) h = (kc = rm.cells ∧ Q none h) := rfl
def T_M_tellFar : List (Nat × List eg_I) := [(129, c_M_tellFar_129), (167, c_M_tellFar_167), (195, c_M_tellFar_195)]
theorem j_M_tellFar_129 {R : Nat → Nat → Nat → eg_Lo → List Value → List eg_E → Prop} {f pc0 : Nat} : eg_run rm R Q T_M_tellFar (f + 1) 129 kc ks loc st h = wps rm (eg_run rm R Q T_M_tellFar f) Q c_M_tellFar_129 kc ks loc st h := rfl
theorem j_M_tellFar_167 {R : Nat → Nat → Nat → eg_Lo → List Value → List eg_E → Prop} {f pc0 : Nat} : eg_run rm R Q T_M_tellFar (f + 1) 167 kc ks loc st h = wps rm (eg_run rm R Q T_M_tellFar f) Q c_M_tellFar_167 kc ks loc st h := rfl
theorem j_M_tellFar_195 {R : Nat → Nat → Nat → eg_Lo → List Value → List eg_E → Prop} {f pc0 : Nat} : eg_run rm R Q T_M_tellFar (f + 1) 195 kc ks loc st h = wps rm (eg_run rm R Q T_M_tellFar f) Q c_M_tellFar_195 kc ks loc st h := rfl
end
theorem q_M_tellFar : (T_M_tellFar.all fun q => eg_seq m_M_tellFar q.1 q.2) = true := by decide +kernel
theorem b_M_tellFar {as : List Value} {h : List eg_E} {Q : Option Value → List eg_E → Prop} (hf : (eg_fl as).length ≤ 18) (hw : wps (eg_rm m_M_tellFar) (eg_run (eg_rm m_M_tellFar) (eg_R m_M_tellFar Q (h.length + 0)) Q T_M_tellFar 5) Q c_M_tellFar_0 0 0 (eg_entry 18 as) [] h) : eg_Runs n_M_tellFar as h Q := eg_begin (d := m_M_tellFar) rfl (by decide) (by decide +kernel) q_M_tellFar hf hw
/-! ===== M_nearestOf ===== -/
def c_M_nearestOf_82 : List eg_I := .inl (82, 1, .ireturn, 0, 0) :: []
def c_M_nearestOf_81 : List eg_I := .inl (81, 1, .iload 2, 0, 0) :: c_M_nearestOf_82
def c_M_nearestOf_78 : List eg_I := .inr (78, 1, 286, n_M_tellFar, 2, 12, 0, 0) :: c_M_nearestOf_81
def c_M_nearestOf_77 : List eg_I := .inl (77, 1, .iload 2, 0, 0) :: c_M_nearestOf_78
def c_M_nearestOf_76 : List eg_I := .inl (76, 1, .iload 1, 0, 0) :: c_M_nearestOf_77
def c_M_nearestOf_75 : List eg_I := .inl (75, 1, .aload 0, 0, 0) :: c_M_nearestOf_76
def c_M_nearestOf_72 : List eg_I := .inl (72, 3, .goto (-50), 22, 0) :: []
def c_M_nearestOf_69 : List eg_I := .inl (69, 3, .iinc 7 (1), 0, 0) :: c_M_nearestOf_72
def c_M_nearestOf_67 : List eg_I := .inl (67, 2, .lstore 5, 0, 0) :: c_M_nearestOf_69
def c_M_nearestOf_64 : List eg_I := .inl (64, 3, .getfield 280, 12, 38) :: c_M_nearestOf_67
def c_M_nearestOf_63 : List eg_I := .inl (63, 1, .aload 0, 0, 0) :: c_M_nearestOf_64
def c_M_nearestOf_62 : List eg_I := .inl (62, 1, .lstore 3, 0, 0) :: c_M_nearestOf_63
def c_M_nearestOf_59 : List eg_I := .inl (59, 3, .getfield 283, 12, 37) :: c_M_nearestOf_62
def c_M_nearestOf_58 : List eg_I := .inl (58, 1, .aload 0, 0, 0) :: c_M_nearestOf_59
def c_M_nearestOf_57 : List eg_I := .inl (57, 1, .istore 2, 0, 0) :: c_M_nearestOf_58
def c_M_nearestOf_55 : List eg_I := .inl (55, 2, .iload 7, 0, 0) :: c_M_nearestOf_57
def c_M_nearestOf_52 : List eg_I := .inl (52, 3, .ifCond .eq (17), 69, 0) :: c_M_nearestOf_55
def c_M_nearestOf_49 : List eg_I := .inr (49, 0, 192, n_M_isLess, 4, 12, 0, 0) :: c_M_nearestOf_52
def c_M_nearestOf_47 : List eg_I := .inl (47, 2, .lload 5, 0, 0) :: c_M_nearestOf_49
def c_M_nearestOf_46 : List eg_I := .inl (46, 1, .lload 3, 0, 0) :: c_M_nearestOf_47
def c_M_nearestOf_43 : List eg_I := .inl (43, 3, .getfield 280, 12, 38) :: c_M_nearestOf_46
def c_M_nearestOf_42 : List eg_I := .inl (42, 1, .aload 0, 0, 0) :: c_M_nearestOf_43
def c_M_nearestOf_39 : List eg_I := .inl (39, 3, .getfield 283, 12, 37) :: c_M_nearestOf_42
def c_M_nearestOf_38 : List eg_I := .inl (38, 1, .aload 0, 0, 0) :: c_M_nearestOf_39
def c_M_nearestOf_35 : List eg_I := .inr (35, 1, 286, n_M_tellFar, 2, 12, 0, 0) :: c_M_nearestOf_38
def c_M_nearestOf_33 : List eg_I := .inl (33, 2, .iload 7, 0, 0) :: c_M_nearestOf_35
def c_M_nearestOf_32 : List eg_I := .inl (32, 1, .iload 1, 0, 0) :: c_M_nearestOf_33
def c_M_nearestOf_31 : List eg_I := .inl (31, 1, .aload 0, 0, 0) :: c_M_nearestOf_32
def c_M_nearestOf_28 : List eg_I := .inl (28, 3, .if_icmp .ge (47), 75, 0) :: c_M_nearestOf_31
def c_M_nearestOf_25 : List eg_I := .inl (25, 3, .getfield 277, 12, 17) :: c_M_nearestOf_28
def c_M_nearestOf_24 : List eg_I := .inl (24, 1, .aload 0, 0, 0) :: c_M_nearestOf_25
def c_M_nearestOf_22 : List eg_I := .inl (22, 2, .iload 7, 0, 0) :: c_M_nearestOf_24
def c_M_nearestOf_20 : List eg_I := .inl (20, 2, .istore 7, 0, 0) :: [.inl (22, 0, .nop, 0, 0)]
def c_M_nearestOf_19 : List eg_I := .inl (19, 1, .iconst (1), 0, 0) :: c_M_nearestOf_20
def c_M_nearestOf_17 : List eg_I := .inl (17, 2, .lstore 5, 0, 0) :: c_M_nearestOf_19
def c_M_nearestOf_14 : List eg_I := .inl (14, 3, .getfield 280, 12, 38) :: c_M_nearestOf_17
def c_M_nearestOf_13 : List eg_I := .inl (13, 1, .aload 0, 0, 0) :: c_M_nearestOf_14
def c_M_nearestOf_12 : List eg_I := .inl (12, 1, .lstore 3, 0, 0) :: c_M_nearestOf_13
def c_M_nearestOf_9 : List eg_I := .inl (9, 3, .getfield 283, 12, 37) :: c_M_nearestOf_12
def c_M_nearestOf_8 : List eg_I := .inl (8, 1, .aload 0, 0, 0) :: c_M_nearestOf_9
def c_M_nearestOf_5 : List eg_I := .inr (5, 1, 286, n_M_tellFar, 2, 12, 0, 0) :: c_M_nearestOf_8
def c_M_nearestOf_4 : List eg_I := .inl (4, 1, .iconst (0), 0, 0) :: c_M_nearestOf_5
def c_M_nearestOf_3 : List eg_I := .inl (3, 1, .iload 1, 0, 0) :: c_M_nearestOf_4
def c_M_nearestOf_2 : List eg_I := .inl (2, 1, .aload 0, 0, 0) :: c_M_nearestOf_3
def c_M_nearestOf_1 : List eg_I := .inl (1, 1, .istore 2, 0, 0) :: c_M_nearestOf_2
def c_M_nearestOf_0 : List eg_I := .inl (0, 1, .iconst (0), 0, 0) :: c_M_nearestOf_1
section
variable {rm : Room} {K : Nat → Nat → Nat → eg_Lo → List Value → List eg_E → Prop} {Q : Option Value → List eg_E → Prop} {kc ks : Nat} {loc : eg_Lo} {st : List Value} {h : List eg_E}
theorem s_M_nearestOf_0  : wps rm K Q c_M_nearestOf_0 kc ks loc (st) h = wps rm K Q c_M_nearestOf_1 kc ks loc (.int (0) :: st) h := rfl
theorem s_M_nearestOf_1 {x : Int32} : wps rm K Q c_M_nearestOf_1 kc ks loc (.int x :: st) h = wps rm K Q c_M_nearestOf_2 kc ks (eg_set1 loc 2 (.int x)) (st) h := rfl
theorem s_M_nearestOf_2 {x : Nat} {l : eg_Lo} : wps rm K Q c_M_nearestOf_2 kc ks (some (.ref x) :: l) (st) h = wps rm K Q c_M_nearestOf_3 kc ks (some (.ref x) :: l) (.ref x :: st) h := rfl
theorem s_M_nearestOf_3 {x : Int32} {l0 : Option Value} {l : eg_Lo} : wps rm K Q c_M_nearestOf_3 kc ks (l0 :: some (.int x) :: l) (st) h = wps rm K Q c_M_nearestOf_4 kc ks (l0 :: some (.int x) :: l) (.int x :: st) h := rfl
theorem s_M_nearestOf_4  : wps rm K Q c_M_nearestOf_4 kc ks loc (st) h = wps rm K Q c_M_nearestOf_5 kc ks loc (.int (0) :: st) h := rfl
theorem s_M_nearestOf_5  {a1 : Value} {a2 : Value} {x : Nat} : wps rm K Q c_M_nearestOf_5 kc ks loc (a2 :: a1 :: .ref (x + 1) :: st) h = (eg_cls h x 12 ∧ st.length ≤ 4 ∧ eg_Cs n_M_tellFar (.ref (x + 1) :: [a1, a2]) h (fun v h9 => wps rm K Q c_M_nearestOf_8 kc ks loc (v.toList ++ st) h9)) := eg_c1_2
theorem s_M_nearestOf_8 {x : Nat} {l : eg_Lo} : wps rm K Q c_M_nearestOf_8 kc ks (some (.ref x) :: l) (st) h = wps rm K Q c_M_nearestOf_9 kc ks (some (.ref x) :: l) (.ref x :: st) h := rfl
theorem s_M_nearestOf_9 {x : Nat} : wps rm K Q c_M_nearestOf_9 kc ks loc (.ref (x + 1) :: st) h = eg_gf h x 12 37 (fun v => wps rm K Q c_M_nearestOf_12 kc ks loc (v :: st) h) := rfl
theorem s_M_nearestOf_12 {x : Int64} : wps rm K Q c_M_nearestOf_12 kc ks loc (.long x :: st) h = wps rm K Q c_M_nearestOf_13 kc ks (eg_set2 loc 3 (.long x)) (st) h := rfl
theorem s_M_nearestOf_13 {x : Nat} {l : eg_Lo} : wps rm K Q c_M_nearestOf_13 kc ks (some (.ref x) :: l) (st) h = wps rm K Q c_M_nearestOf_14 kc ks (some (.ref x) :: l) (.ref x :: st) h := rfl
theorem s_M_nearestOf_14 {x : Nat} : wps rm K Q c_M_nearestOf_14 kc ks loc (.ref (x + 1) :: st) h = eg_gf h x 12 38 (fun v => wps rm K Q c_M_nearestOf_17 kc ks loc (v :: st) h) := rfl
theorem s_M_nearestOf_17 {x : Int64} : wps rm K Q c_M_nearestOf_17 kc ks loc (.long x :: st) h = wps rm K Q c_M_nearestOf_19 kc ks (eg_set2 loc 5 (.long x)) (st) h := rfl
theorem s_M_nearestOf_19  : wps rm K Q c_M_nearestOf_19 kc ks loc (st) h = wps rm K Q c_M_nearestOf_20 kc ks loc (.int (1) :: st) h := rfl
theorem s_M_nearestOf_20 {x : Int32} : wps rm K Q c_M_nearestOf_20 kc ks loc (.int x :: st) h = K 22 kc ks (eg_set1 loc 7 (.int x)) (st) h := rfl
theorem s_M_nearestOf_22 {x : Int32} {l0 l1 l2 l3 l4 l5 l6 : Option Value} {l : eg_Lo} : wps rm K Q c_M_nearestOf_22 kc ks (l0 :: l1 :: l2 :: l3 :: l4 :: l5 :: l6 :: some (.int x) :: l) (st) h = wps rm K Q c_M_nearestOf_24 kc ks (l0 :: l1 :: l2 :: l3 :: l4 :: l5 :: l6 :: some (.int x) :: l) (.int x :: st) h := rfl
theorem s_M_nearestOf_24 {x : Nat} {l : eg_Lo} : wps rm K Q c_M_nearestOf_24 kc ks (some (.ref x) :: l) (st) h = wps rm K Q c_M_nearestOf_25 kc ks (some (.ref x) :: l) (.ref x :: st) h := rfl
theorem s_M_nearestOf_25 {x : Nat} : wps rm K Q c_M_nearestOf_25 kc ks loc (.ref (x + 1) :: st) h = eg_gf h x 12 17 (fun v => wps rm K Q c_M_nearestOf_28 kc ks loc (v :: st) h) := rfl
theorem s_M_nearestOf_28 {x y : Int32} : wps rm K Q c_M_nearestOf_28 kc ks loc (.int y :: .int x :: st) h = ((y ≤ x → K 75 kc ks loc st h) ∧ (¬ y ≤ x → wps rm K Q c_M_nearestOf_31 kc ks loc (st) h)) := rfl
theorem s_M_nearestOf_31 {x : Nat} {l : eg_Lo} : wps rm K Q c_M_nearestOf_31 kc ks (some (.ref x) :: l) (st) h = wps rm K Q c_M_nearestOf_32 kc ks (some (.ref x) :: l) (.ref x :: st) h := rfl
theorem s_M_nearestOf_32 {x : Int32} {l0 : Option Value} {l : eg_Lo} : wps rm K Q c_M_nearestOf_32 kc ks (l0 :: some (.int x) :: l) (st) h = wps rm K Q c_M_nearestOf_33 kc ks (l0 :: some (.int x) :: l) (.int x :: st) h := rfl
theorem s_M_nearestOf_33 {x : Int32} {l0 l1 l2 l3 l4 l5 l6 : Option Value} {l : eg_Lo} : wps rm K Q c_M_nearestOf_33 kc ks (l0 :: l1 :: l2 :: l3 :: l4 :: l5 :: l6 :: some (.int x) :: l) (st) h = wps rm K Q c_M_nearestOf_35 kc ks (l0 :: l1 :: l2 :: l3 :: l4 :: l5 :: l6 :: some (.int x) :: l) (.int x :: st) h := rfl
theorem s_M_nearestOf_35  {a1 : Value} {a2 : Value} {x : Nat} : wps rm K Q c_M_nearestOf_35 kc ks loc (a2 :: a1 :: .ref (x + 1) :: st) h = (eg_cls h x 12 ∧ st.length ≤ 4 ∧ eg_Cs n_M_tellFar (.ref (x + 1) :: [a1, a2]) h (fun v h9 => wps rm K Q c_M_nearestOf_38 kc ks loc (v.toList ++ st) h9)) := eg_c1_2
theorem s_M_nearestOf_38 {x : Nat} {l : eg_Lo} : wps rm K Q c_M_nearestOf_38 kc ks (some (.ref x) :: l) (st) h = wps rm K Q c_M_nearestOf_39 kc ks (some (.ref x) :: l) (.ref x :: st) h := rfl
theorem s_M_nearestOf_39 {x : Nat} : wps rm K Q c_M_nearestOf_39 kc ks loc (.ref (x + 1) :: st) h = eg_gf h x 12 37 (fun v => wps rm K Q c_M_nearestOf_42 kc ks loc (v :: st) h) := rfl
theorem s_M_nearestOf_42 {x : Nat} {l : eg_Lo} : wps rm K Q c_M_nearestOf_42 kc ks (some (.ref x) :: l) (st) h = wps rm K Q c_M_nearestOf_43 kc ks (some (.ref x) :: l) (.ref x :: st) h := rfl
theorem s_M_nearestOf_43 {x : Nat} : wps rm K Q c_M_nearestOf_43 kc ks loc (.ref (x + 1) :: st) h = eg_gf h x 12 38 (fun v => wps rm K Q c_M_nearestOf_46 kc ks loc (v :: st) h) := rfl
theorem s_M_nearestOf_46 {x : Int64} {l0 l1 l2 : Option Value} {l : eg_Lo} : wps rm K Q c_M_nearestOf_46 kc ks (l0 :: l1 :: l2 :: some (.long x) :: l) (st) h = wps rm K Q c_M_nearestOf_47 kc ks (l0 :: l1 :: l2 :: some (.long x) :: l) (.long x :: st) h := rfl
theorem s_M_nearestOf_47 {x : Int64} {l0 l1 l2 l3 l4 : Option Value} {l : eg_Lo} : wps rm K Q c_M_nearestOf_47 kc ks (l0 :: l1 :: l2 :: l3 :: l4 :: some (.long x) :: l) (st) h = wps rm K Q c_M_nearestOf_49 kc ks (l0 :: l1 :: l2 :: l3 :: l4 :: some (.long x) :: l) (.long x :: st) h := rfl
theorem s_M_nearestOf_49  {a1 : Value} {a2 : Value} {a3 : Value} {a4 : Value} : wps rm K Q c_M_nearestOf_49 kc ks loc (a4 :: a3 :: a2 :: a1 :: st) h = (st.length ≤ 4 ∧ eg_Cs n_M_isLess [a1, a2, a3, a4] h (fun v h9 => wps rm K Q c_M_nearestOf_52 kc ks loc (v.toList ++ st) h9)) := eg_c0_4
theorem s_M_nearestOf_52 {x : Int32} : wps rm K Q c_M_nearestOf_52 kc ks loc (.int x :: st) h = ((x = 0 → K 69 kc ks loc st h) ∧ (¬ x = 0 → wps rm K Q c_M_nearestOf_55 kc ks loc (st) h)) := rfl
theorem s_M_nearestOf_55 {x : Int32} {l0 l1 l2 l3 l4 l5 l6 : Option Value} {l : eg_Lo} : wps rm K Q c_M_nearestOf_55 kc ks (l0 :: l1 :: l2 :: l3 :: l4 :: l5 :: l6 :: some (.int x) :: l) (st) h = wps rm K Q c_M_nearestOf_57 kc ks (l0 :: l1 :: l2 :: l3 :: l4 :: l5 :: l6 :: some (.int x) :: l) (.int x :: st) h := rfl
theorem s_M_nearestOf_57 {x : Int32} : wps rm K Q c_M_nearestOf_57 kc ks loc (.int x :: st) h = wps rm K Q c_M_nearestOf_58 kc ks (eg_set1 loc 2 (.int x)) (st) h := rfl
theorem s_M_nearestOf_58 {x : Nat} {l : eg_Lo} : wps rm K Q c_M_nearestOf_58 kc ks (some (.ref x) :: l) (st) h = wps rm K Q c_M_nearestOf_59 kc ks (some (.ref x) :: l) (.ref x :: st) h := rfl
theorem s_M_nearestOf_59 {x : Nat} : wps rm K Q c_M_nearestOf_59 kc ks loc (.ref (x + 1) :: st) h = eg_gf h x 12 37 (fun v => wps rm K Q c_M_nearestOf_62 kc ks loc (v :: st) h) := rfl
theorem s_M_nearestOf_62 {x : Int64} : wps rm K Q c_M_nearestOf_62 kc ks loc (.long x :: st) h = wps rm K Q c_M_nearestOf_63 kc ks (eg_set2 loc 3 (.long x)) (st) h := rfl
theorem s_M_nearestOf_63 {x : Nat} {l : eg_Lo} : wps rm K Q c_M_nearestOf_63 kc ks (some (.ref x) :: l) (st) h = wps rm K Q c_M_nearestOf_64 kc ks (some (.ref x) :: l) (.ref x :: st) h := rfl
theorem s_M_nearestOf_64 {x : Nat} : wps rm K Q c_M_nearestOf_64 kc ks loc (.ref (x + 1) :: st) h = eg_gf h x 12 38 (fun v => wps rm K Q c_M_nearestOf_67 kc ks loc (v :: st) h) := rfl
theorem s_M_nearestOf_67 {x : Int64} : wps rm K Q c_M_nearestOf_67 kc ks loc (.long x :: st) h = wps rm K Q c_M_nearestOf_69 kc ks (eg_set2 loc 5 (.long x)) (st) h := rfl
theorem s_M_nearestOf_69 {x : Int32} {l0 l1 l2 l3 l4 l5 l6 : Option Value} {l9 : eg_Lo} : wps rm K Q c_M_nearestOf_69 kc ks (l0 :: l1 :: l2 :: l3 :: l4 :: l5 :: l6 :: some (.int x) :: l9) (st) h = wps rm K Q c_M_nearestOf_72 kc ks (eg_set1 (l0 :: l1 :: l2 :: l3 :: l4 :: l5 :: l6 :: some (.int x) :: l9) 7 (.int (x + (1)))) (st) h := rfl
theorem s_M_nearestOf_72  : wps rm K Q c_M_nearestOf_72 kc ks loc (st) h = K 22 kc ks loc st h := rfl
theorem s_M_nearestOf_75 {x : Nat} {l : eg_Lo} : wps rm K Q c_M_nearestOf_75 kc ks (some (.ref x) :: l) (st) h = wps rm K Q c_M_nearestOf_76 kc ks (some (.ref x) :: l) (.ref x :: st) h := rfl
theorem s_M_nearestOf_76 {x : Int32} {l0 : Option Value} {l : eg_Lo} : wps rm K Q c_M_nearestOf_76 kc ks (l0 :: some (.int x) :: l) (st) h = wps rm K Q c_M_nearestOf_77 kc ks (l0 :: some (.int x) :: l) (.int x :: st) h := rfl
theorem s_M_nearestOf_77 {x : Int32} {l0 l1 : Option Value} {l : eg_Lo} : wps rm K Q c_M_nearestOf_77 kc ks (l0 :: l1 :: some (.int x) :: l) (st) h = wps rm K Q c_M_nearestOf_78 kc ks (l0 :: l1 :: some (.int x) :: l) (.int x :: st) h := rfl
theorem s_M_nearestOf_78  {a1 : Value} {a2 : Value} {x : Nat} : wps rm K Q c_M_nearestOf_78 kc ks loc (a2 :: a1 :: .ref (x + 1) :: st) h = (eg_cls h x 12 ∧ st.length ≤ 4 ∧ eg_Cs n_M_tellFar (.ref (x + 1) :: [a1, a2]) h (fun v h9 => wps rm K Q c_M_nearestOf_81 kc ks loc (v.toList ++ st) h9)) := eg_c1_2
theorem s_M_nearestOf_81 {x : Int32} {l0 l1 : Option Value} {l : eg_Lo} : wps rm K Q c_M_nearestOf_81 kc ks (l0 :: l1 :: some (.int x) :: l) (st) h = wps rm K Q c_M_nearestOf_82 kc ks (l0 :: l1 :: some (.int x) :: l) (.int x :: st) h := rfl
theorem s_M_nearestOf_82 {x : Int32} : wps rm K Q c_M_nearestOf_82 kc ks loc ([.int x]) h = (kc = rm.cells ∧ (0 = 1 → x = 0 ∨ x = 1) ∧ Q (some (.int x)) h) := rfl
def T_M_nearestOf : List (Nat × List eg_I) := [(69, c_M_nearestOf_69), (75, c_M_nearestOf_75)]
theorem j_M_nearestOf_69 {R : Nat → Nat → Nat → eg_Lo → List Value → List eg_E → Prop} {f pc0 : Nat} : eg_run rm R Q T_M_nearestOf (f + 1) 69 kc ks loc st h = wps rm (eg_run rm R Q T_M_nearestOf f) Q c_M_nearestOf_69 kc ks loc st h := rfl
theorem j_M_nearestOf_75 {R : Nat → Nat → Nat → eg_Lo → List Value → List eg_E → Prop} {f pc0 : Nat} : eg_run rm R Q T_M_nearestOf (f + 1) 75 kc ks loc st h = wps rm (eg_run rm R Q T_M_nearestOf f) Q c_M_nearestOf_75 kc ks loc st h := rfl
theorem j_M_nearestOf_22 {R : Nat → Nat → Nat → eg_Lo → List Value → List eg_E → Prop} {f pc0 : Nat} : eg_run rm R Q T_M_nearestOf (f + 1) 22 kc ks loc st h = R 22 kc ks loc st h := rfl
end
theorem q_M_nearestOf : (T_M_nearestOf.all fun q => eg_seq m_M_nearestOf q.1 q.2) = true := by decide +kernel
theorem b_M_nearestOf {as : List Value} {h : List eg_E} {Q : Option Value → List eg_E → Prop} (hf : (eg_fl as).length ≤ 8) (hw : wps (eg_rm m_M_nearestOf) (eg_run (eg_rm m_M_nearestOf) (eg_R m_M_nearestOf Q (h.length + 0)) Q T_M_nearestOf 4) Q c_M_nearestOf_0 0 0 (eg_entry 8 as) [] h) : eg_Runs n_M_nearestOf as h Q := eg_begin (d := m_M_nearestOf) rfl (by decide) (by decide +kernel) q_M_nearestOf hf hw
theorem p_M_nearestOf_22 {Q : Option Value → List eg_E → Prop} {n0 kc ks : Nat} {loc : eg_Lo} {st : List Value} {h : List eg_E} (hw : wps (eg_rm m_M_nearestOf) (eg_run (eg_rm m_M_nearestOf) (eg_R m_M_nearestOf Q n0) Q T_M_nearestOf 4) Q c_M_nearestOf_22 kc ks loc st h) : eg_R m_M_nearestOf Q n0 22 kc ks loc st h := eg_go (by decide +kernel) q_M_nearestOf hw
/-! ===== M_askNear ===== -/
def c_M_askNear_49 : List eg_I := .inl (49, 1, .lreturn, 0, 0) :: []
def c_M_askNear_48 : List eg_I := .inl (48, 1, .sipush (0), 0, 0) :: c_M_askNear_49
def c_M_askNear_45 : List eg_I := .inl (45, 3, .goto (4), 49, 0) :: []
def c_M_askNear_42 : List eg_I := .inl (42, 3, .sipush (-1000000000000000006), 138, 0) :: c_M_askNear_45
def c_M_askNear_39 : List eg_I := .inl (39, 3, .if_icmp .ge (9), 48, 0) :: c_M_askNear_42
def c_M_askNear_38 : List eg_I := .inl (38, 1, .iconst (2), 0, 0) :: c_M_askNear_39
def c_M_askNear_35 : List eg_I := .inl (35, 3, .getfield 277, 12, 17) :: c_M_askNear_38
def c_M_askNear_34 : List eg_I := .inl (34, 1, .aload 0, 0, 0) :: c_M_askNear_35
def c_M_askNear_31 : List eg_I := .inl (31, 3, .goto (18), 49, 0) :: []
def c_M_askNear_28 : List eg_I := .inl (28, 3, .sipush (-1000000000000000007), 126, 0) :: c_M_askNear_31
def c_M_askNear_25 : List eg_I := .inl (25, 3, .ifCond .eq (9), 34, 0) :: c_M_askNear_28
def c_M_askNear_24 : List eg_I := .inl (24, 1, .baload, 0, 0) :: c_M_askNear_25
def c_M_askNear_21 : List eg_I := .inr (21, 0, 103, n_M_at_II, 2, 12, 0, 0) :: c_M_askNear_24
def c_M_askNear_20 : List eg_I := .inl (20, 1, .iload 2, 0, 0) :: c_M_askNear_21
def c_M_askNear_19 : List eg_I := .inl (19, 1, .iload 1, 0, 0) :: c_M_askNear_20
def c_M_askNear_16 : List eg_I := .inl (16, 3, .getfield 22, 12, 4) :: c_M_askNear_19
def c_M_askNear_15 : List eg_I := .inl (15, 1, .aload 0, 0, 0) :: c_M_askNear_16
def c_M_askNear_12 : List eg_I := .inl (12, 3, .goto (37), 49, 0) :: []
def c_M_askNear_9 : List eg_I := .inl (9, 3, .sipush (-1000000000000000001), 110, 0) :: c_M_askNear_12
def c_M_askNear_6 : List eg_I := .inl (6, 3, .ifCond .ne (9), 15, 0) :: c_M_askNear_9
def c_M_askNear_3 : List eg_I := .inr (3, 1, 122, n_M_isPoint, 2, 12, 0, 0) :: c_M_askNear_6
def c_M_askNear_2 : List eg_I := .inl (2, 1, .iload 2, 0, 0) :: c_M_askNear_3
def c_M_askNear_1 : List eg_I := .inl (1, 1, .iload 1, 0, 0) :: c_M_askNear_2
def c_M_askNear_0 : List eg_I := .inl (0, 1, .aload 0, 0, 0) :: c_M_askNear_1
section
variable {rm : Room} {K : Nat → Nat → Nat → eg_Lo → List Value → List eg_E → Prop} {Q : Option Value → List eg_E → Prop} {kc ks : Nat} {loc : eg_Lo} {st : List Value} {h : List eg_E}
theorem s_M_askNear_0 {x : Nat} {l : eg_Lo} : wps rm K Q c_M_askNear_0 kc ks (some (.ref x) :: l) (st) h = wps rm K Q c_M_askNear_1 kc ks (some (.ref x) :: l) (.ref x :: st) h := rfl
theorem s_M_askNear_1 {x : Int32} {l0 : Option Value} {l : eg_Lo} : wps rm K Q c_M_askNear_1 kc ks (l0 :: some (.int x) :: l) (st) h = wps rm K Q c_M_askNear_2 kc ks (l0 :: some (.int x) :: l) (.int x :: st) h := rfl
theorem s_M_askNear_2 {x : Int32} {l0 l1 : Option Value} {l : eg_Lo} : wps rm K Q c_M_askNear_2 kc ks (l0 :: l1 :: some (.int x) :: l) (st) h = wps rm K Q c_M_askNear_3 kc ks (l0 :: l1 :: some (.int x) :: l) (.int x :: st) h := rfl
theorem s_M_askNear_3  {a1 : Value} {a2 : Value} {x : Nat} : wps rm K Q c_M_askNear_3 kc ks loc (a2 :: a1 :: .ref (x + 1) :: st) h = (eg_cls h x 12 ∧ st.length ≤ 4 ∧ eg_Cs n_M_isPoint (.ref (x + 1) :: [a1, a2]) h (fun v h9 => wps rm K Q c_M_askNear_6 kc ks loc (v.toList ++ st) h9)) := eg_c1_2
theorem s_M_askNear_6 {x : Int32} : wps rm K Q c_M_askNear_6 kc ks loc (.int x :: st) h = ((¬ x = 0 → K 15 kc ks loc st h) ∧ (x = 0 → wps rm K Q c_M_askNear_9 kc ks loc (st) h)) := rfl
theorem s_M_askNear_9  : wps rm K Q c_M_askNear_9 kc ks loc (st) h = wps rm K Q c_M_askNear_12 kc ks loc (.long (-1000000000000000001) :: st) h := rfl
theorem s_M_askNear_12  : wps rm K Q c_M_askNear_12 kc ks loc (st) h = K 49 kc ks loc st h := rfl
theorem s_M_askNear_15 {x : Nat} {l : eg_Lo} : wps rm K Q c_M_askNear_15 kc ks (some (.ref x) :: l) (st) h = wps rm K Q c_M_askNear_16 kc ks (some (.ref x) :: l) (.ref x :: st) h := rfl
theorem s_M_askNear_16 {x : Nat} : wps rm K Q c_M_askNear_16 kc ks loc (.ref (x + 1) :: st) h = eg_gf h x 12 4 (fun v => wps rm K Q c_M_askNear_19 kc ks loc (v :: st) h) := rfl
theorem s_M_askNear_19 {x : Int32} {l0 : Option Value} {l : eg_Lo} : wps rm K Q c_M_askNear_19 kc ks (l0 :: some (.int x) :: l) (st) h = wps rm K Q c_M_askNear_20 kc ks (l0 :: some (.int x) :: l) (.int x :: st) h := rfl
theorem s_M_askNear_20 {x : Int32} {l0 l1 : Option Value} {l : eg_Lo} : wps rm K Q c_M_askNear_20 kc ks (l0 :: l1 :: some (.int x) :: l) (st) h = wps rm K Q c_M_askNear_21 kc ks (l0 :: l1 :: some (.int x) :: l) (.int x :: st) h := rfl
theorem s_M_askNear_21  {a1 : Value} {a2 : Value} : wps rm K Q c_M_askNear_21 kc ks loc (a2 :: a1 :: st) h = (st.length ≤ 4 ∧ eg_Cs n_M_at_II [a1, a2] h (fun v h9 => wps rm K Q c_M_askNear_24 kc ks loc (v.toList ++ st) h9)) := eg_c0_2
theorem s_M_askNear_24 {x : Nat} {i : Int32} : wps rm K Q c_M_askNear_24 kc ks loc (.int i :: .ref (x + 1) :: st) h = eg_ba h x i (fun v => wps rm K Q c_M_askNear_25 kc ks loc (.int v :: st) h) := rfl
theorem s_M_askNear_25 {x : Int32} : wps rm K Q c_M_askNear_25 kc ks loc (.int x :: st) h = ((x = 0 → K 34 kc ks loc st h) ∧ (¬ x = 0 → wps rm K Q c_M_askNear_28 kc ks loc (st) h)) := rfl
theorem s_M_askNear_28  : wps rm K Q c_M_askNear_28 kc ks loc (st) h = wps rm K Q c_M_askNear_31 kc ks loc (.long (-1000000000000000007) :: st) h := rfl
theorem s_M_askNear_31  : wps rm K Q c_M_askNear_31 kc ks loc (st) h = K 49 kc ks loc st h := rfl
theorem s_M_askNear_34 {x : Nat} {l : eg_Lo} : wps rm K Q c_M_askNear_34 kc ks (some (.ref x) :: l) (st) h = wps rm K Q c_M_askNear_35 kc ks (some (.ref x) :: l) (.ref x :: st) h := rfl
theorem s_M_askNear_35 {x : Nat} : wps rm K Q c_M_askNear_35 kc ks loc (.ref (x + 1) :: st) h = eg_gf h x 12 17 (fun v => wps rm K Q c_M_askNear_38 kc ks loc (v :: st) h) := rfl
theorem s_M_askNear_38  : wps rm K Q c_M_askNear_38 kc ks loc (st) h = wps rm K Q c_M_askNear_39 kc ks loc (.int (2) :: st) h := rfl
theorem s_M_askNear_39 {x y : Int32} : wps rm K Q c_M_askNear_39 kc ks loc (.int y :: .int x :: st) h = ((y ≤ x → K 48 kc ks loc st h) ∧ (¬ y ≤ x → wps rm K Q c_M_askNear_42 kc ks loc (st) h)) := rfl
theorem s_M_askNear_42  : wps rm K Q c_M_askNear_42 kc ks loc (st) h = wps rm K Q c_M_askNear_45 kc ks loc (.long (-1000000000000000006) :: st) h := rfl
theorem s_M_askNear_45  : wps rm K Q c_M_askNear_45 kc ks loc (st) h = K 49 kc ks loc st h := rfl
theorem s_M_askNear_48  : wps rm K Q c_M_askNear_48 kc ks loc (st) h = wps rm K Q c_M_askNear_49 kc ks loc (.long (0) :: st) h := rfl
theorem s_M_askNear_49 {x : Int64} : wps rm K Q c_M_askNear_49 kc ks loc ([.long x]) h = (kc = rm.cells ∧ Q (some (.long x)) h) := rfl
def T_M_askNear : List (Nat × List eg_I) := [(15, c_M_askNear_15), (34, c_M_askNear_34), (48, c_M_askNear_48), (49, c_M_askNear_49)]
theorem j_M_askNear_15 {R : Nat → Nat → Nat → eg_Lo → List Value → List eg_E → Prop} {f pc0 : Nat} : eg_run rm R Q T_M_askNear (f + 1) 15 kc ks loc st h = wps rm (eg_run rm R Q T_M_askNear f) Q c_M_askNear_15 kc ks loc st h := rfl
theorem j_M_askNear_34 {R : Nat → Nat → Nat → eg_Lo → List Value → List eg_E → Prop} {f pc0 : Nat} : eg_run rm R Q T_M_askNear (f + 1) 34 kc ks loc st h = wps rm (eg_run rm R Q T_M_askNear f) Q c_M_askNear_34 kc ks loc st h := rfl
theorem j_M_askNear_48 {R : Nat → Nat → Nat → eg_Lo → List Value → List eg_E → Prop} {f pc0 : Nat} : eg_run rm R Q T_M_askNear (f + 1) 48 kc ks loc st h = wps rm (eg_run rm R Q T_M_askNear f) Q c_M_askNear_48 kc ks loc st h := rfl
theorem j_M_askNear_49 {R : Nat → Nat → Nat → eg_Lo → List Value → List eg_E → Prop} {f pc0 : Nat} : eg_run rm R Q T_M_askNear (f + 1) 49 kc ks loc st h = wps rm (eg_run rm R Q T_M_askNear f) Q c_M_askNear_49 kc ks loc st h := rfl
end
theorem q_M_askNear : (T_M_askNear.all fun q => eg_seq m_M_askNear q.1 q.2) = true := by decide +kernel
theorem b_M_askNear {as : List Value} {h : List eg_E} {Q : Option Value → List eg_E → Prop} (hf : (eg_fl as).length ≤ 3) (hw : wps (eg_rm m_M_askNear) (eg_run (eg_rm m_M_askNear) (eg_R m_M_askNear Q (h.length + 0)) Q T_M_askNear 6) Q c_M_askNear_0 0 0 (eg_entry 3 as) [] h) : eg_Runs n_M_askNear as h Q := eg_begin (d := m_M_askNear) rfl (by decide) (by decide +kernel) q_M_askNear hf hw
/-! ===== M_nearest ===== -/
def c_M_nearest_31 : List eg_I := .inl (31, 1, .lreturn, 0, 0) :: []
def c_M_nearest_30 : List eg_I := .inl (30, 1, .i2l, 0, 0) :: c_M_nearest_31
def c_M_nearest_27 : List eg_I := .inr (27, 1, 293, n_M_nearestOf, 1, 12, 0, 0) :: c_M_nearest_30
def c_M_nearest_24 : List eg_I := .inr (24, 0, 103, n_M_at_II, 2, 12, 0, 0) :: c_M_nearest_27
def c_M_nearest_23 : List eg_I := .inl (23, 1, .iload 2, 0, 0) :: c_M_nearest_24
def c_M_nearest_22 : List eg_I := .inl (22, 1, .iload 1, 0, 0) :: c_M_nearest_23
def c_M_nearest_21 : List eg_I := .inl (21, 1, .aload 0, 0, 0) :: c_M_nearest_22
def c_M_nearest_18 : List eg_I := .inl (18, 3, .goto (13), 31, 0) :: []
def c_M_nearest_15 : List eg_I := .inr (15, 1, 112, n_M_finding, 1, 12, 0, 0) :: c_M_nearest_18
def c_M_nearest_14 : List eg_I := .inl (14, 1, .lload 3, 0, 0) :: c_M_nearest_15
def c_M_nearest_13 : List eg_I := .inl (13, 1, .aload 0, 0, 0) :: c_M_nearest_14
def c_M_nearest_10 : List eg_I := .inl (10, 3, .ifCond .eq (11), 21, 0) :: c_M_nearest_13
def c_M_nearest_9 : List eg_I := .inl (9, 1, .lcmp, 0, 0) :: c_M_nearest_10
def c_M_nearest_8 : List eg_I := .inl (8, 1, .sipush (0), 0, 0) :: c_M_nearest_9
def c_M_nearest_7 : List eg_I := .inl (7, 1, .lload 3, 0, 0) :: c_M_nearest_8
def c_M_nearest_6 : List eg_I := .inl (6, 1, .lstore 3, 0, 0) :: c_M_nearest_7
def c_M_nearest_3 : List eg_I := .inr (3, 1, 290, n_M_askNear, 2, 12, 0, 0) :: c_M_nearest_6
def c_M_nearest_2 : List eg_I := .inl (2, 1, .iload 2, 0, 0) :: c_M_nearest_3
def c_M_nearest_1 : List eg_I := .inl (1, 1, .iload 1, 0, 0) :: c_M_nearest_2
def c_M_nearest_0 : List eg_I := .inl (0, 1, .aload 0, 0, 0) :: c_M_nearest_1
section
variable {rm : Room} {K : Nat → Nat → Nat → eg_Lo → List Value → List eg_E → Prop} {Q : Option Value → List eg_E → Prop} {kc ks : Nat} {loc : eg_Lo} {st : List Value} {h : List eg_E}
theorem s_M_nearest_0 {x : Nat} {l : eg_Lo} : wps rm K Q c_M_nearest_0 kc ks (some (.ref x) :: l) (st) h = wps rm K Q c_M_nearest_1 kc ks (some (.ref x) :: l) (.ref x :: st) h := rfl
theorem s_M_nearest_1 {x : Int32} {l0 : Option Value} {l : eg_Lo} : wps rm K Q c_M_nearest_1 kc ks (l0 :: some (.int x) :: l) (st) h = wps rm K Q c_M_nearest_2 kc ks (l0 :: some (.int x) :: l) (.int x :: st) h := rfl
theorem s_M_nearest_2 {x : Int32} {l0 l1 : Option Value} {l : eg_Lo} : wps rm K Q c_M_nearest_2 kc ks (l0 :: l1 :: some (.int x) :: l) (st) h = wps rm K Q c_M_nearest_3 kc ks (l0 :: l1 :: some (.int x) :: l) (.int x :: st) h := rfl
theorem s_M_nearest_3  {a1 : Value} {a2 : Value} {x : Nat} : wps rm K Q c_M_nearest_3 kc ks loc (a2 :: a1 :: .ref (x + 1) :: st) h = (eg_cls h x 12 ∧ st.length ≤ 4 ∧ eg_Cs n_M_askNear (.ref (x + 1) :: [a1, a2]) h (fun v h9 => wps rm K Q c_M_nearest_6 kc ks loc (v.toList ++ st) h9)) := eg_c1_2
theorem s_M_nearest_6 {x : Int64} : wps rm K Q c_M_nearest_6 kc ks loc (.long x :: st) h = wps rm K Q c_M_nearest_7 kc ks (eg_set2 loc 3 (.long x)) (st) h := rfl
theorem s_M_nearest_7 {x : Int64} {l0 l1 l2 : Option Value} {l : eg_Lo} : wps rm K Q c_M_nearest_7 kc ks (l0 :: l1 :: l2 :: some (.long x) :: l) (st) h = wps rm K Q c_M_nearest_8 kc ks (l0 :: l1 :: l2 :: some (.long x) :: l) (.long x :: st) h := rfl
theorem s_M_nearest_8  : wps rm K Q c_M_nearest_8 kc ks loc (st) h = wps rm K Q c_M_nearest_9 kc ks loc (.long (0) :: st) h := rfl
theorem s_M_nearest_9 {x y : Int64} : wps rm K Q c_M_nearest_9 kc ks loc (.long y :: .long x :: st) h = wps rm K Q c_M_nearest_10 kc ks loc (.int (lg_cmp x y) :: st) h := rfl
theorem s_M_nearest_10 {x : Int32} : wps rm K Q c_M_nearest_10 kc ks loc (.int x :: st) h = ((x = 0 → K 21 kc ks loc st h) ∧ (¬ x = 0 → wps rm K Q c_M_nearest_13 kc ks loc (st) h)) := rfl
theorem s_M_nearest_13 {x : Nat} {l : eg_Lo} : wps rm K Q c_M_nearest_13 kc ks (some (.ref x) :: l) (st) h = wps rm K Q c_M_nearest_14 kc ks (some (.ref x) :: l) (.ref x :: st) h := rfl
theorem s_M_nearest_14 {x : Int64} {l0 l1 l2 : Option Value} {l : eg_Lo} : wps rm K Q c_M_nearest_14 kc ks (l0 :: l1 :: l2 :: some (.long x) :: l) (st) h = wps rm K Q c_M_nearest_15 kc ks (l0 :: l1 :: l2 :: some (.long x) :: l) (.long x :: st) h := rfl
theorem s_M_nearest_15  {a1 : Value} {x : Nat} : wps rm K Q c_M_nearest_15 kc ks loc (a1 :: .ref (x + 1) :: st) h = (eg_cls h x 12 ∧ st.length ≤ 4 ∧ eg_Cs n_M_finding (.ref (x + 1) :: [a1]) h (fun v h9 => wps rm K Q c_M_nearest_18 kc ks loc (v.toList ++ st) h9)) := eg_c1_1
theorem s_M_nearest_18  : wps rm K Q c_M_nearest_18 kc ks loc (st) h = K 31 kc ks loc st h := rfl
theorem s_M_nearest_21 {x : Nat} {l : eg_Lo} : wps rm K Q c_M_nearest_21 kc ks (some (.ref x) :: l) (st) h = wps rm K Q c_M_nearest_22 kc ks (some (.ref x) :: l) (.ref x :: st) h := rfl
theorem s_M_nearest_22 {x : Int32} {l0 : Option Value} {l : eg_Lo} : wps rm K Q c_M_nearest_22 kc ks (l0 :: some (.int x) :: l) (st) h = wps rm K Q c_M_nearest_23 kc ks (l0 :: some (.int x) :: l) (.int x :: st) h := rfl
theorem s_M_nearest_23 {x : Int32} {l0 l1 : Option Value} {l : eg_Lo} : wps rm K Q c_M_nearest_23 kc ks (l0 :: l1 :: some (.int x) :: l) (st) h = wps rm K Q c_M_nearest_24 kc ks (l0 :: l1 :: some (.int x) :: l) (.int x :: st) h := rfl
theorem s_M_nearest_24  {a1 : Value} {a2 : Value} : wps rm K Q c_M_nearest_24 kc ks loc (a2 :: a1 :: st) h = (st.length ≤ 4 ∧ eg_Cs n_M_at_II [a1, a2] h (fun v h9 => wps rm K Q c_M_nearest_27 kc ks loc (v.toList ++ st) h9)) := eg_c0_2
theorem s_M_nearest_27  {a1 : Value} {x : Nat} : wps rm K Q c_M_nearest_27 kc ks loc (a1 :: .ref (x + 1) :: st) h = (eg_cls h x 12 ∧ st.length ≤ 4 ∧ eg_Cs n_M_nearestOf (.ref (x + 1) :: [a1]) h (fun v h9 => wps rm K Q c_M_nearest_30 kc ks loc (v.toList ++ st) h9)) := eg_c1_1
theorem s_M_nearest_30 {x : Int32} : wps rm K Q c_M_nearest_30 kc ks loc (.int x :: st) h = wps rm K Q c_M_nearest_31 kc ks loc (.long (x.toInt64) :: st) h := rfl
theorem s_M_nearest_31 {x : Int64} : wps rm K Q c_M_nearest_31 kc ks loc ([.long x]) h = (kc = rm.cells ∧ Q (some (.long x)) h) := rfl
def T_M_nearest : List (Nat × List eg_I) := [(21, c_M_nearest_21), (31, c_M_nearest_31)]
theorem j_M_nearest_21 {R : Nat → Nat → Nat → eg_Lo → List Value → List eg_E → Prop} {f pc0 : Nat} : eg_run rm R Q T_M_nearest (f + 1) 21 kc ks loc st h = wps rm (eg_run rm R Q T_M_nearest f) Q c_M_nearest_21 kc ks loc st h := rfl
theorem j_M_nearest_31 {R : Nat → Nat → Nat → eg_Lo → List Value → List eg_E → Prop} {f pc0 : Nat} : eg_run rm R Q T_M_nearest (f + 1) 31 kc ks loc st h = wps rm (eg_run rm R Q T_M_nearest f) Q c_M_nearest_31 kc ks loc st h := rfl
end
theorem q_M_nearest : (T_M_nearest.all fun q => eg_seq m_M_nearest q.1 q.2) = true := by decide +kernel
theorem b_M_nearest {as : List Value} {h : List eg_E} {Q : Option Value → List eg_E → Prop} (hf : (eg_fl as).length ≤ 5) (hw : wps (eg_rm m_M_nearest) (eg_run (eg_rm m_M_nearest) (eg_R m_M_nearest Q (h.length + 0)) Q T_M_nearest 4) Q c_M_nearest_0 0 0 (eg_entry 5 as) [] h) : eg_Runs n_M_nearest as h Q := eg_begin (d := m_M_nearest) rfl (by decide) (by decide +kernel) q_M_nearest hf hw
/-! ===== M_far ===== -/
def c_M_far_76 : List eg_I := .inl (76, 1, .lreturn, 0, 0) :: []
def c_M_far_75 : List eg_I := .inl (75, 1, .ldiv, 0, 0) :: c_M_far_76
def c_M_far_73 : List eg_I := .inl (73, 2, .lload 7, 0, 0) :: c_M_far_75
def c_M_far_70 : List eg_I := .inl (70, 3, .getfield 283, 12, 37) :: c_M_far_73
def c_M_far_69 : List eg_I := .inl (69, 1, .aload 0, 0, 0) :: c_M_far_70
def c_M_far_66 : List eg_I := .inl (66, 3, .goto (10), 76, 0) :: []
def c_M_far_65 : List eg_I := .inl (65, 1, .ldiv, 0, 0) :: c_M_far_66
def c_M_far_63 : List eg_I := .inl (63, 2, .lload 7, 0, 0) :: c_M_far_65
def c_M_far_60 : List eg_I := .inl (60, 3, .getfield 280, 12, 38) :: c_M_far_63
def c_M_far_59 : List eg_I := .inl (59, 1, .aload 0, 0, 0) :: c_M_far_60
def c_M_far_56 : List eg_I := .inl (56, 3, .ifCond .eq (13), 69, 0) :: c_M_far_59
def c_M_far_55 : List eg_I := .inl (55, 1, .iload 3, 0, 0) :: c_M_far_56
def c_M_far_52 : List eg_I := .inl (52, 3, .goto (24), 76, 0) :: []
def c_M_far_51 : List eg_I := .inl (51, 1, .sipush (0), 0, 0) :: c_M_far_52
def c_M_far_48 : List eg_I := .inl (48, 3, .ifCond .ge (7), 55, 0) :: c_M_far_51
def c_M_far_46 : List eg_I := .inl (46, 2, .iload 6, 0, 0) :: c_M_far_48
def c_M_far_44 : List eg_I := .inl (44, 2, .lstore 7, 0, 0) :: c_M_far_46
def c_M_far_41 : List eg_I := .inr (41, 0, 168, n_M_common, 2, 12, 0, 0) :: c_M_far_44
def c_M_far_38 : List eg_I := .inl (38, 3, .getfield 280, 12, 38) :: c_M_far_41
def c_M_far_37 : List eg_I := .inl (37, 1, .aload 0, 0, 0) :: c_M_far_38
def c_M_far_34 : List eg_I := .inl (34, 3, .getfield 283, 12, 37) :: c_M_far_37
def c_M_far_33 : List eg_I := .inl (33, 1, .aload 0, 0, 0) :: c_M_far_34
def c_M_far_31 : List eg_I := .inl (31, 2, .istore 6, 0, 0) :: c_M_far_33
def c_M_far_28 : List eg_I := .inr (28, 1, 293, n_M_nearestOf, 1, 12, 0, 0) :: c_M_far_31
def c_M_far_25 : List eg_I := .inr (25, 0, 103, n_M_at_II, 2, 12, 0, 0) :: c_M_far_28
def c_M_far_24 : List eg_I := .inl (24, 1, .iload 2, 0, 0) :: c_M_far_25
def c_M_far_23 : List eg_I := .inl (23, 1, .iload 1, 0, 0) :: c_M_far_24
def c_M_far_22 : List eg_I := .inl (22, 1, .aload 0, 0, 0) :: c_M_far_23
def c_M_far_21 : List eg_I := .inl (21, 1, .lreturn, 0, 0) :: []
def c_M_far_18 : List eg_I := .inr (18, 1, 112, n_M_finding, 1, 12, 0, 0) :: c_M_far_21
def c_M_far_16 : List eg_I := .inl (16, 2, .lload 4, 0, 0) :: c_M_far_18
def c_M_far_15 : List eg_I := .inl (15, 1, .aload 0, 0, 0) :: c_M_far_16
def c_M_far_12 : List eg_I := .inl (12, 3, .ifCond .eq (10), 22, 0) :: c_M_far_15
def c_M_far_11 : List eg_I := .inl (11, 1, .lcmp, 0, 0) :: c_M_far_12
def c_M_far_10 : List eg_I := .inl (10, 1, .sipush (0), 0, 0) :: c_M_far_11
def c_M_far_8 : List eg_I := .inl (8, 2, .lload 4, 0, 0) :: c_M_far_10
def c_M_far_6 : List eg_I := .inl (6, 2, .lstore 4, 0, 0) :: c_M_far_8
def c_M_far_3 : List eg_I := .inr (3, 1, 290, n_M_askNear, 2, 12, 0, 0) :: c_M_far_6
def c_M_far_2 : List eg_I := .inl (2, 1, .iload 2, 0, 0) :: c_M_far_3
def c_M_far_1 : List eg_I := .inl (1, 1, .iload 1, 0, 0) :: c_M_far_2
def c_M_far_0 : List eg_I := .inl (0, 1, .aload 0, 0, 0) :: c_M_far_1
section
variable {rm : Room} {K : Nat → Nat → Nat → eg_Lo → List Value → List eg_E → Prop} {Q : Option Value → List eg_E → Prop} {kc ks : Nat} {loc : eg_Lo} {st : List Value} {h : List eg_E}
theorem s_M_far_0 {x : Nat} {l : eg_Lo} : wps rm K Q c_M_far_0 kc ks (some (.ref x) :: l) (st) h = wps rm K Q c_M_far_1 kc ks (some (.ref x) :: l) (.ref x :: st) h := rfl
theorem s_M_far_1 {x : Int32} {l0 : Option Value} {l : eg_Lo} : wps rm K Q c_M_far_1 kc ks (l0 :: some (.int x) :: l) (st) h = wps rm K Q c_M_far_2 kc ks (l0 :: some (.int x) :: l) (.int x :: st) h := rfl
theorem s_M_far_2 {x : Int32} {l0 l1 : Option Value} {l : eg_Lo} : wps rm K Q c_M_far_2 kc ks (l0 :: l1 :: some (.int x) :: l) (st) h = wps rm K Q c_M_far_3 kc ks (l0 :: l1 :: some (.int x) :: l) (.int x :: st) h := rfl
theorem s_M_far_3  {a1 : Value} {a2 : Value} {x : Nat} : wps rm K Q c_M_far_3 kc ks loc (a2 :: a1 :: .ref (x + 1) :: st) h = (eg_cls h x 12 ∧ st.length ≤ 4 ∧ eg_Cs n_M_askNear (.ref (x + 1) :: [a1, a2]) h (fun v h9 => wps rm K Q c_M_far_6 kc ks loc (v.toList ++ st) h9)) := eg_c1_2
theorem s_M_far_6 {x : Int64} : wps rm K Q c_M_far_6 kc ks loc (.long x :: st) h = wps rm K Q c_M_far_8 kc ks (eg_set2 loc 4 (.long x)) (st) h := rfl
theorem s_M_far_8 {x : Int64} {l0 l1 l2 l3 : Option Value} {l : eg_Lo} : wps rm K Q c_M_far_8 kc ks (l0 :: l1 :: l2 :: l3 :: some (.long x) :: l) (st) h = wps rm K Q c_M_far_10 kc ks (l0 :: l1 :: l2 :: l3 :: some (.long x) :: l) (.long x :: st) h := rfl
theorem s_M_far_10  : wps rm K Q c_M_far_10 kc ks loc (st) h = wps rm K Q c_M_far_11 kc ks loc (.long (0) :: st) h := rfl
theorem s_M_far_11 {x y : Int64} : wps rm K Q c_M_far_11 kc ks loc (.long y :: .long x :: st) h = wps rm K Q c_M_far_12 kc ks loc (.int (lg_cmp x y) :: st) h := rfl
theorem s_M_far_12 {x : Int32} : wps rm K Q c_M_far_12 kc ks loc (.int x :: st) h = ((x = 0 → K 22 kc ks loc st h) ∧ (¬ x = 0 → wps rm K Q c_M_far_15 kc ks loc (st) h)) := rfl
theorem s_M_far_15 {x : Nat} {l : eg_Lo} : wps rm K Q c_M_far_15 kc ks (some (.ref x) :: l) (st) h = wps rm K Q c_M_far_16 kc ks (some (.ref x) :: l) (.ref x :: st) h := rfl
theorem s_M_far_16 {x : Int64} {l0 l1 l2 l3 : Option Value} {l : eg_Lo} : wps rm K Q c_M_far_16 kc ks (l0 :: l1 :: l2 :: l3 :: some (.long x) :: l) (st) h = wps rm K Q c_M_far_18 kc ks (l0 :: l1 :: l2 :: l3 :: some (.long x) :: l) (.long x :: st) h := rfl
theorem s_M_far_18  {a1 : Value} {x : Nat} : wps rm K Q c_M_far_18 kc ks loc (a1 :: .ref (x + 1) :: st) h = (eg_cls h x 12 ∧ st.length ≤ 4 ∧ eg_Cs n_M_finding (.ref (x + 1) :: [a1]) h (fun v h9 => wps rm K Q c_M_far_21 kc ks loc (v.toList ++ st) h9)) := eg_c1_1
theorem s_M_far_21 {x : Int64} : wps rm K Q c_M_far_21 kc ks loc ([.long x]) h = (kc = rm.cells ∧ Q (some (.long x)) h) := rfl
theorem s_M_far_22 {x : Nat} {l : eg_Lo} : wps rm K Q c_M_far_22 kc ks (some (.ref x) :: l) (st) h = wps rm K Q c_M_far_23 kc ks (some (.ref x) :: l) (.ref x :: st) h := rfl
theorem s_M_far_23 {x : Int32} {l0 : Option Value} {l : eg_Lo} : wps rm K Q c_M_far_23 kc ks (l0 :: some (.int x) :: l) (st) h = wps rm K Q c_M_far_24 kc ks (l0 :: some (.int x) :: l) (.int x :: st) h := rfl
theorem s_M_far_24 {x : Int32} {l0 l1 : Option Value} {l : eg_Lo} : wps rm K Q c_M_far_24 kc ks (l0 :: l1 :: some (.int x) :: l) (st) h = wps rm K Q c_M_far_25 kc ks (l0 :: l1 :: some (.int x) :: l) (.int x :: st) h := rfl
theorem s_M_far_25  {a1 : Value} {a2 : Value} : wps rm K Q c_M_far_25 kc ks loc (a2 :: a1 :: st) h = (st.length ≤ 4 ∧ eg_Cs n_M_at_II [a1, a2] h (fun v h9 => wps rm K Q c_M_far_28 kc ks loc (v.toList ++ st) h9)) := eg_c0_2
theorem s_M_far_28  {a1 : Value} {x : Nat} : wps rm K Q c_M_far_28 kc ks loc (a1 :: .ref (x + 1) :: st) h = (eg_cls h x 12 ∧ st.length ≤ 4 ∧ eg_Cs n_M_nearestOf (.ref (x + 1) :: [a1]) h (fun v h9 => wps rm K Q c_M_far_31 kc ks loc (v.toList ++ st) h9)) := eg_c1_1
theorem s_M_far_31 {x : Int32} : wps rm K Q c_M_far_31 kc ks loc (.int x :: st) h = wps rm K Q c_M_far_33 kc ks (eg_set1 loc 6 (.int x)) (st) h := rfl
theorem s_M_far_33 {x : Nat} {l : eg_Lo} : wps rm K Q c_M_far_33 kc ks (some (.ref x) :: l) (st) h = wps rm K Q c_M_far_34 kc ks (some (.ref x) :: l) (.ref x :: st) h := rfl
theorem s_M_far_34 {x : Nat} : wps rm K Q c_M_far_34 kc ks loc (.ref (x + 1) :: st) h = eg_gf h x 12 37 (fun v => wps rm K Q c_M_far_37 kc ks loc (v :: st) h) := rfl
theorem s_M_far_37 {x : Nat} {l : eg_Lo} : wps rm K Q c_M_far_37 kc ks (some (.ref x) :: l) (st) h = wps rm K Q c_M_far_38 kc ks (some (.ref x) :: l) (.ref x :: st) h := rfl
theorem s_M_far_38 {x : Nat} : wps rm K Q c_M_far_38 kc ks loc (.ref (x + 1) :: st) h = eg_gf h x 12 38 (fun v => wps rm K Q c_M_far_41 kc ks loc (v :: st) h) := rfl
theorem s_M_far_41  {a1 : Value} {a2 : Value} : wps rm K Q c_M_far_41 kc ks loc (a2 :: a1 :: st) h = (st.length ≤ 4 ∧ eg_Cs n_M_common [a1, a2] h (fun v h9 => wps rm K Q c_M_far_44 kc ks loc (v.toList ++ st) h9)) := eg_c0_2
theorem s_M_far_44 {x : Int64} : wps rm K Q c_M_far_44 kc ks loc (.long x :: st) h = wps rm K Q c_M_far_46 kc ks (eg_set2 loc 7 (.long x)) (st) h := rfl
theorem s_M_far_46 {x : Int32} {l0 l1 l2 l3 l4 l5 : Option Value} {l : eg_Lo} : wps rm K Q c_M_far_46 kc ks (l0 :: l1 :: l2 :: l3 :: l4 :: l5 :: some (.int x) :: l) (st) h = wps rm K Q c_M_far_48 kc ks (l0 :: l1 :: l2 :: l3 :: l4 :: l5 :: some (.int x) :: l) (.int x :: st) h := rfl
theorem s_M_far_48 {x : Int32} : wps rm K Q c_M_far_48 kc ks loc (.int x :: st) h = ((0 ≤ x → K 55 kc ks loc st h) ∧ (¬ 0 ≤ x → wps rm K Q c_M_far_51 kc ks loc (st) h)) := rfl
theorem s_M_far_51  : wps rm K Q c_M_far_51 kc ks loc (st) h = wps rm K Q c_M_far_52 kc ks loc (.long (0) :: st) h := rfl
theorem s_M_far_52  : wps rm K Q c_M_far_52 kc ks loc (st) h = K 76 kc ks loc st h := rfl
theorem s_M_far_55 {x : Int32} {l0 l1 l2 : Option Value} {l : eg_Lo} : wps rm K Q c_M_far_55 kc ks (l0 :: l1 :: l2 :: some (.int x) :: l) (st) h = wps rm K Q c_M_far_56 kc ks (l0 :: l1 :: l2 :: some (.int x) :: l) (.int x :: st) h := rfl
theorem s_M_far_56 {x : Int32} : wps rm K Q c_M_far_56 kc ks loc (.int x :: st) h = ((x = 0 → K 69 kc ks loc st h) ∧ (¬ x = 0 → wps rm K Q c_M_far_59 kc ks loc (st) h)) := rfl
theorem s_M_far_59 {x : Nat} {l : eg_Lo} : wps rm K Q c_M_far_59 kc ks (some (.ref x) :: l) (st) h = wps rm K Q c_M_far_60 kc ks (some (.ref x) :: l) (.ref x :: st) h := rfl
theorem s_M_far_60 {x : Nat} : wps rm K Q c_M_far_60 kc ks loc (.ref (x + 1) :: st) h = eg_gf h x 12 38 (fun v => wps rm K Q c_M_far_63 kc ks loc (v :: st) h) := rfl
theorem s_M_far_63 {x : Int64} {l0 l1 l2 l3 l4 l5 l6 : Option Value} {l : eg_Lo} : wps rm K Q c_M_far_63 kc ks (l0 :: l1 :: l2 :: l3 :: l4 :: l5 :: l6 :: some (.long x) :: l) (st) h = wps rm K Q c_M_far_65 kc ks (l0 :: l1 :: l2 :: l3 :: l4 :: l5 :: l6 :: some (.long x) :: l) (.long x :: st) h := rfl
theorem s_M_far_65 {x y : Int64} : wps rm K Q c_M_far_65 kc ks loc (.long y :: .long x :: st) h = (¬ y = 0 ∧ wps rm K Q c_M_far_66 kc ks loc (.long (x / y) :: st) h) := rfl
theorem s_M_far_66  : wps rm K Q c_M_far_66 kc ks loc (st) h = K 76 kc ks loc st h := rfl
theorem s_M_far_69 {x : Nat} {l : eg_Lo} : wps rm K Q c_M_far_69 kc ks (some (.ref x) :: l) (st) h = wps rm K Q c_M_far_70 kc ks (some (.ref x) :: l) (.ref x :: st) h := rfl
theorem s_M_far_70 {x : Nat} : wps rm K Q c_M_far_70 kc ks loc (.ref (x + 1) :: st) h = eg_gf h x 12 37 (fun v => wps rm K Q c_M_far_73 kc ks loc (v :: st) h) := rfl
theorem s_M_far_73 {x : Int64} {l0 l1 l2 l3 l4 l5 l6 : Option Value} {l : eg_Lo} : wps rm K Q c_M_far_73 kc ks (l0 :: l1 :: l2 :: l3 :: l4 :: l5 :: l6 :: some (.long x) :: l) (st) h = wps rm K Q c_M_far_75 kc ks (l0 :: l1 :: l2 :: l3 :: l4 :: l5 :: l6 :: some (.long x) :: l) (.long x :: st) h := rfl
theorem s_M_far_75 {x y : Int64} : wps rm K Q c_M_far_75 kc ks loc (.long y :: .long x :: st) h = (¬ y = 0 ∧ wps rm K Q c_M_far_76 kc ks loc (.long (x / y) :: st) h) := rfl
theorem s_M_far_76 {x : Int64} : wps rm K Q c_M_far_76 kc ks loc ([.long x]) h = (kc = rm.cells ∧ Q (some (.long x)) h) := rfl
def T_M_far : List (Nat × List eg_I) := [(22, c_M_far_22), (55, c_M_far_55), (69, c_M_far_69), (76, c_M_far_76)]
theorem j_M_far_22 {R : Nat → Nat → Nat → eg_Lo → List Value → List eg_E → Prop} {f pc0 : Nat} : eg_run rm R Q T_M_far (f + 1) 22 kc ks loc st h = wps rm (eg_run rm R Q T_M_far f) Q c_M_far_22 kc ks loc st h := rfl
theorem j_M_far_55 {R : Nat → Nat → Nat → eg_Lo → List Value → List eg_E → Prop} {f pc0 : Nat} : eg_run rm R Q T_M_far (f + 1) 55 kc ks loc st h = wps rm (eg_run rm R Q T_M_far f) Q c_M_far_55 kc ks loc st h := rfl
theorem j_M_far_69 {R : Nat → Nat → Nat → eg_Lo → List Value → List eg_E → Prop} {f pc0 : Nat} : eg_run rm R Q T_M_far (f + 1) 69 kc ks loc st h = wps rm (eg_run rm R Q T_M_far f) Q c_M_far_69 kc ks loc st h := rfl
theorem j_M_far_76 {R : Nat → Nat → Nat → eg_Lo → List Value → List eg_E → Prop} {f pc0 : Nat} : eg_run rm R Q T_M_far (f + 1) 76 kc ks loc st h = wps rm (eg_run rm R Q T_M_far f) Q c_M_far_76 kc ks loc st h := rfl
end
theorem q_M_far : (T_M_far.all fun q => eg_seq m_M_far q.1 q.2) = true := by decide +kernel
theorem b_M_far {as : List Value} {h : List eg_E} {Q : Option Value → List eg_E → Prop} (hf : (eg_fl as).length ≤ 9) (hw : wps (eg_rm m_M_far) (eg_run (eg_rm m_M_far) (eg_R m_M_far Q (h.length + 0)) Q T_M_far 6) Q c_M_far_0 0 0 (eg_entry 9 as) [] h) : eg_Runs n_M_far as h Q := eg_begin (d := m_M_far) rfl (by decide) (by decide +kernel) q_M_far hf hw
/-! ===== M_box ===== -/
def c_M_box_217 : List eg_I := .inl (217, 1, .lreturn, 0, 0) :: []
def c_M_box_216 : List eg_I := .inl (216, 1, .i2l, 0, 0) :: c_M_box_217
def c_M_box_215 : List eg_I := .inl (215, 1, .isub, 0, 0) :: c_M_box_216
def c_M_box_214 : List eg_I := .inl (214, 1, .iconst (1), 0, 0) :: c_M_box_215
def c_M_box_211 : List eg_I := .inl (211, 3, .getfield 296, 12, 20) :: c_M_box_214
def c_M_box_210 : List eg_I := .inl (210, 1, .aload 0, 0, 0) :: c_M_box_211
def c_M_box_207 : List eg_I := .inl (207, 3, .putfield 296, 12, 20) :: c_M_box_210
def c_M_box_206 : List eg_I := .inl (206, 1, .iadd, 0, 0) :: c_M_box_207
def c_M_box_205 : List eg_I := .inl (205, 1, .iconst (1), 0, 0) :: c_M_box_206
def c_M_box_202 : List eg_I := .inl (202, 3, .getfield 296, 12, 20) :: c_M_box_205
def c_M_box_201 : List eg_I := .inl (201, 1, .dup, 0, 0) :: c_M_box_202
def c_M_box_200 : List eg_I := .inl (200, 1, .aload 0, 0, 0) :: c_M_box_201
def c_M_box_199 : List eg_I := .inl (199, 1, .iastore, 0, 0) :: c_M_box_200
def c_M_box_198 : List eg_I := .inl (198, 1, .iadd, 0, 0) :: c_M_box_199
def c_M_box_196 : List eg_I := .inl (196, 2, .iload 6, 0, 0) :: c_M_box_198
def c_M_box_195 : List eg_I := .inl (195, 1, .iload 3, 0, 0) :: c_M_box_196
def c_M_box_194 : List eg_I := .inl (194, 1, .iadd, 0, 0) :: c_M_box_195
def c_M_box_193 : List eg_I := .inl (193, 1, .iconst (5), 0, 0) :: c_M_box_194
def c_M_box_191 : List eg_I := .inl (191, 2, .iload 8, 0, 0) :: c_M_box_193
def c_M_box_188 : List eg_I := .inl (188, 3, .getfield 66, 12, 21) :: c_M_box_191
def c_M_box_187 : List eg_I := .inl (187, 1, .aload 0, 0, 0) :: c_M_box_188
def c_M_box_186 : List eg_I := .inl (186, 1, .iastore, 0, 0) :: c_M_box_187
def c_M_box_185 : List eg_I := .inl (185, 1, .iload 3, 0, 0) :: c_M_box_186
def c_M_box_184 : List eg_I := .inl (184, 1, .iadd, 0, 0) :: c_M_box_185
def c_M_box_183 : List eg_I := .inl (183, 1, .iconst (4), 0, 0) :: c_M_box_184
def c_M_box_181 : List eg_I := .inl (181, 2, .iload 8, 0, 0) :: c_M_box_183
def c_M_box_178 : List eg_I := .inl (178, 3, .getfield 66, 12, 21) :: c_M_box_181
def c_M_box_177 : List eg_I := .inl (177, 1, .aload 0, 0, 0) :: c_M_box_178
def c_M_box_176 : List eg_I := .inl (176, 1, .iastore, 0, 0) :: c_M_box_177
def c_M_box_175 : List eg_I := .inl (175, 1, .iadd, 0, 0) :: c_M_box_176
def c_M_box_173 : List eg_I := .inl (173, 2, .iload 5, 0, 0) :: c_M_box_175
def c_M_box_172 : List eg_I := .inl (172, 1, .iload 2, 0, 0) :: c_M_box_173
def c_M_box_171 : List eg_I := .inl (171, 1, .iadd, 0, 0) :: c_M_box_172
def c_M_box_170 : List eg_I := .inl (170, 1, .iconst (3), 0, 0) :: c_M_box_171
def c_M_box_168 : List eg_I := .inl (168, 2, .iload 8, 0, 0) :: c_M_box_170
def c_M_box_165 : List eg_I := .inl (165, 3, .getfield 66, 12, 21) :: c_M_box_168
def c_M_box_164 : List eg_I := .inl (164, 1, .aload 0, 0, 0) :: c_M_box_165
def c_M_box_163 : List eg_I := .inl (163, 1, .iastore, 0, 0) :: c_M_box_164
def c_M_box_162 : List eg_I := .inl (162, 1, .iload 2, 0, 0) :: c_M_box_163
def c_M_box_161 : List eg_I := .inl (161, 1, .iadd, 0, 0) :: c_M_box_162
def c_M_box_160 : List eg_I := .inl (160, 1, .iconst (2), 0, 0) :: c_M_box_161
def c_M_box_158 : List eg_I := .inl (158, 2, .iload 8, 0, 0) :: c_M_box_160
def c_M_box_155 : List eg_I := .inl (155, 3, .getfield 66, 12, 21) :: c_M_box_158
def c_M_box_154 : List eg_I := .inl (154, 1, .aload 0, 0, 0) :: c_M_box_155
def c_M_box_153 : List eg_I := .inl (153, 1, .iastore, 0, 0) :: c_M_box_154
def c_M_box_152 : List eg_I := .inl (152, 1, .iadd, 0, 0) :: c_M_box_153
def c_M_box_150 : List eg_I := .inl (150, 2, .iload 4, 0, 0) :: c_M_box_152
def c_M_box_149 : List eg_I := .inl (149, 1, .iload 1, 0, 0) :: c_M_box_150
def c_M_box_148 : List eg_I := .inl (148, 1, .iadd, 0, 0) :: c_M_box_149
def c_M_box_147 : List eg_I := .inl (147, 1, .iconst (1), 0, 0) :: c_M_box_148
def c_M_box_145 : List eg_I := .inl (145, 2, .iload 8, 0, 0) :: c_M_box_147
def c_M_box_142 : List eg_I := .inl (142, 3, .getfield 66, 12, 21) :: c_M_box_145
def c_M_box_141 : List eg_I := .inl (141, 1, .aload 0, 0, 0) :: c_M_box_142
def c_M_box_140 : List eg_I := .inl (140, 1, .iastore, 0, 0) :: c_M_box_141
def c_M_box_139 : List eg_I := .inl (139, 1, .iload 1, 0, 0) :: c_M_box_140
def c_M_box_137 : List eg_I := .inl (137, 2, .iload 8, 0, 0) :: c_M_box_139
def c_M_box_134 : List eg_I := .inl (134, 3, .getfield 66, 12, 21) :: c_M_box_137
def c_M_box_133 : List eg_I := .inl (133, 1, .aload 0, 0, 0) :: c_M_box_134
def c_M_box_131 : List eg_I := .inl (131, 2, .istore 8, 0, 0) :: c_M_box_133
def c_M_box_130 : List eg_I := .inl (130, 1, .imul, 0, 0) :: c_M_box_131
def c_M_box_127 : List eg_I := .inl (127, 3, .getfield 296, 12, 20) :: c_M_box_130
def c_M_box_126 : List eg_I := .inl (126, 1, .aload 0, 0, 0) :: c_M_box_127
def c_M_box_124 : List eg_I := .inl (124, 2, .iconst (6), 0, 0) :: c_M_box_126
def c_M_box_123 : List eg_I := .inl (123, 1, .lreturn, 0, 0) :: []
def c_M_box_120 : List eg_I := .inr (120, 1, 112, n_M_finding, 1, 12, 0, 0) :: c_M_box_123
def c_M_box_117 : List eg_I := .inl (117, 3, .sipush (-1000000000000000005), 116, 0) :: c_M_box_120
def c_M_box_116 : List eg_I := .inl (116, 1, .aload 0, 0, 0) :: c_M_box_117
def c_M_box_113 : List eg_I := .inl (113, 3, .if_icmp .ne (11), 124, 0) :: c_M_box_116
def c_M_box_111 : List eg_I := .inl (111, 2, .iconst (6), 0, 0) :: c_M_box_113
def c_M_box_108 : List eg_I := .inl (108, 3, .getfield 296, 12, 20) :: c_M_box_111
def c_M_box_107 : List eg_I := .inl (107, 1, .aload 0, 0, 0) :: c_M_box_108
def c_M_box_106 : List eg_I := .inl (106, 1, .lreturn, 0, 0) :: []
def c_M_box_103 : List eg_I := .inr (103, 1, 112, n_M_finding, 1, 12, 0, 0) :: c_M_box_106
def c_M_box_100 : List eg_I := .inl (100, 3, .sipush (-1000000000000000001), 110, 0) :: c_M_box_103
def c_M_box_99 : List eg_I := .inl (99, 1, .aload 0, 0, 0) :: c_M_box_100
def c_M_box_96 : List eg_I := .inl (96, 3, .if_icmp .le (11), 107, 0) :: c_M_box_99
def c_M_box_93 : List eg_I := .inl (93, 3, .iconst (300), 0, 0) :: c_M_box_96
def c_M_box_92 : List eg_I := .inl (92, 1, .iadd, 0, 0) :: c_M_box_93
def c_M_box_90 : List eg_I := .inl (90, 2, .iload 6, 0, 0) :: c_M_box_92
def c_M_box_89 : List eg_I := .inl (89, 1, .iload 3, 0, 0) :: c_M_box_90
def c_M_box_86 : List eg_I := .inl (86, 3, .if_icmp .gt (13), 99, 0) :: c_M_box_89
def c_M_box_83 : List eg_I := .inl (83, 3, .iconst (300), 0, 0) :: c_M_box_86
def c_M_box_82 : List eg_I := .inl (82, 1, .iadd, 0, 0) :: c_M_box_83
def c_M_box_80 : List eg_I := .inl (80, 2, .iload 5, 0, 0) :: c_M_box_82
def c_M_box_79 : List eg_I := .inl (79, 1, .iload 2, 0, 0) :: c_M_box_80
def c_M_box_76 : List eg_I := .inl (76, 3, .if_icmp .gt (23), 99, 0) :: c_M_box_79
def c_M_box_73 : List eg_I := .inl (73, 3, .iconst (300), 0, 0) :: c_M_box_76
def c_M_box_72 : List eg_I := .inl (72, 1, .iadd, 0, 0) :: c_M_box_73
def c_M_box_70 : List eg_I := .inl (70, 2, .iload 4, 0, 0) :: c_M_box_72
def c_M_box_69 : List eg_I := .inl (69, 1, .iload 1, 0, 0) :: c_M_box_70
def c_M_box_66 : List eg_I := .inl (66, 3, .ifCond .eq (33), 99, 0) :: c_M_box_69
def c_M_box_64 : List eg_I := .inl (64, 2, .iload 7, 0, 0) :: c_M_box_66
def c_M_box_62 : List eg_I := .inl (62, 2, .istore 7, 0, 0) :: c_M_box_64
def c_M_box_61 : List eg_I := .inl (61, 1, .iconst (0), 0, 0) :: c_M_box_62
def c_M_box_58 : List eg_I := .inl (58, 3, .goto (4), 62, 0) :: []
def c_M_box_57 : List eg_I := .inl (57, 1, .iconst (1), 0, 0) :: c_M_box_58
def c_M_box_54 : List eg_I := .inl (54, 3, .ifCond .eq (7), 61, 0) :: c_M_box_57
def c_M_box_51 : List eg_I := .inr (51, 0, 95, n_M_isIn, 3, 12, 0, 0) :: c_M_box_54
def c_M_box_48 : List eg_I := .inl (48, 3, .iconst (300), 0, 0) :: c_M_box_51
def c_M_box_47 : List eg_I := .inl (47, 1, .iconst (1), 0, 0) :: c_M_box_48
def c_M_box_45 : List eg_I := .inl (45, 2, .iload 6, 0, 0) :: c_M_box_47
def c_M_box_42 : List eg_I := .inl (42, 3, .ifCond .eq (19), 61, 0) :: c_M_box_45
def c_M_box_39 : List eg_I := .inr (39, 0, 95, n_M_isIn, 3, 12, 0, 0) :: c_M_box_42
def c_M_box_36 : List eg_I := .inl (36, 3, .iconst (300), 0, 0) :: c_M_box_39
def c_M_box_35 : List eg_I := .inl (35, 1, .iconst (1), 0, 0) :: c_M_box_36
def c_M_box_33 : List eg_I := .inl (33, 2, .iload 5, 0, 0) :: c_M_box_35
def c_M_box_30 : List eg_I := .inl (30, 3, .ifCond .eq (31), 61, 0) :: c_M_box_33
def c_M_box_27 : List eg_I := .inr (27, 0, 95, n_M_isIn, 3, 12, 0, 0) :: c_M_box_30
def c_M_box_24 : List eg_I := .inl (24, 3, .iconst (300), 0, 0) :: c_M_box_27
def c_M_box_23 : List eg_I := .inl (23, 1, .iconst (1), 0, 0) :: c_M_box_24
def c_M_box_21 : List eg_I := .inl (21, 2, .iload 4, 0, 0) :: c_M_box_23
def c_M_box_18 : List eg_I := .inl (18, 3, .ifCond .eq (43), 61, 0) :: c_M_box_21
def c_M_box_15 : List eg_I := .inr (15, 0, 107, n_M_isNear, 1, 12, 0, 0) :: c_M_box_18
def c_M_box_14 : List eg_I := .inl (14, 1, .iload 3, 0, 0) :: c_M_box_15
def c_M_box_11 : List eg_I := .inl (11, 3, .ifCond .eq (50), 61, 0) :: c_M_box_14
def c_M_box_8 : List eg_I := .inr (8, 0, 107, n_M_isNear, 1, 12, 0, 0) :: c_M_box_11
def c_M_box_7 : List eg_I := .inl (7, 1, .iload 2, 0, 0) :: c_M_box_8
def c_M_box_4 : List eg_I := .inl (4, 3, .ifCond .eq (57), 61, 0) :: c_M_box_7
def c_M_box_1 : List eg_I := .inr (1, 0, 107, n_M_isNear, 1, 12, 0, 0) :: c_M_box_4
def c_M_box_0 : List eg_I := .inl (0, 1, .iload 1, 0, 0) :: c_M_box_1
section
variable {rm : Room} {K : Nat → Nat → Nat → eg_Lo → List Value → List eg_E → Prop} {Q : Option Value → List eg_E → Prop} {kc ks : Nat} {loc : eg_Lo} {st : List Value} {h : List eg_E}
theorem s_M_box_0 {x : Int32} {l0 : Option Value} {l : eg_Lo} : wps rm K Q c_M_box_0 kc ks (l0 :: some (.int x) :: l) (st) h = wps rm K Q c_M_box_1 kc ks (l0 :: some (.int x) :: l) (.int x :: st) h := rfl
theorem s_M_box_1  {a1 : Value} : wps rm K Q c_M_box_1 kc ks loc (a1 :: st) h = (st.length ≤ 4 ∧ eg_Cs n_M_isNear [a1] h (fun v h9 => wps rm K Q c_M_box_4 kc ks loc (v.toList ++ st) h9)) := eg_c0_1
theorem s_M_box_4 {x : Int32} : wps rm K Q c_M_box_4 kc ks loc (.int x :: st) h = ((x = 0 → K 61 kc ks loc st h) ∧ (¬ x = 0 → wps rm K Q c_M_box_7 kc ks loc (st) h)) := rfl
theorem s_M_box_7 {x : Int32} {l0 l1 : Option Value} {l : eg_Lo} : wps rm K Q c_M_box_7 kc ks (l0 :: l1 :: some (.int x) :: l) (st) h = wps rm K Q c_M_box_8 kc ks (l0 :: l1 :: some (.int x) :: l) (.int x :: st) h := rfl
theorem s_M_box_8  {a1 : Value} : wps rm K Q c_M_box_8 kc ks loc (a1 :: st) h = (st.length ≤ 4 ∧ eg_Cs n_M_isNear [a1] h (fun v h9 => wps rm K Q c_M_box_11 kc ks loc (v.toList ++ st) h9)) := eg_c0_1
theorem s_M_box_11 {x : Int32} : wps rm K Q c_M_box_11 kc ks loc (.int x :: st) h = ((x = 0 → K 61 kc ks loc st h) ∧ (¬ x = 0 → wps rm K Q c_M_box_14 kc ks loc (st) h)) := rfl
theorem s_M_box_14 {x : Int32} {l0 l1 l2 : Option Value} {l : eg_Lo} : wps rm K Q c_M_box_14 kc ks (l0 :: l1 :: l2 :: some (.int x) :: l) (st) h = wps rm K Q c_M_box_15 kc ks (l0 :: l1 :: l2 :: some (.int x) :: l) (.int x :: st) h := rfl
theorem s_M_box_15  {a1 : Value} : wps rm K Q c_M_box_15 kc ks loc (a1 :: st) h = (st.length ≤ 4 ∧ eg_Cs n_M_isNear [a1] h (fun v h9 => wps rm K Q c_M_box_18 kc ks loc (v.toList ++ st) h9)) := eg_c0_1
theorem s_M_box_18 {x : Int32} : wps rm K Q c_M_box_18 kc ks loc (.int x :: st) h = ((x = 0 → K 61 kc ks loc st h) ∧ (¬ x = 0 → wps rm K Q c_M_box_21 kc ks loc (st) h)) := rfl
theorem s_M_box_21 {x : Int32} {l0 l1 l2 l3 : Option Value} {l : eg_Lo} : wps rm K Q c_M_box_21 kc ks (l0 :: l1 :: l2 :: l3 :: some (.int x) :: l) (st) h = wps rm K Q c_M_box_23 kc ks (l0 :: l1 :: l2 :: l3 :: some (.int x) :: l) (.int x :: st) h := rfl
theorem s_M_box_23  : wps rm K Q c_M_box_23 kc ks loc (st) h = wps rm K Q c_M_box_24 kc ks loc (.int (1) :: st) h := rfl
theorem s_M_box_24  : wps rm K Q c_M_box_24 kc ks loc (st) h = wps rm K Q c_M_box_27 kc ks loc (.int (300) :: st) h := rfl
theorem s_M_box_27  {a1 : Value} {a2 : Value} {a3 : Value} : wps rm K Q c_M_box_27 kc ks loc (a3 :: a2 :: a1 :: st) h = (st.length ≤ 4 ∧ eg_Cs n_M_isIn [a1, a2, a3] h (fun v h9 => wps rm K Q c_M_box_30 kc ks loc (v.toList ++ st) h9)) := eg_c0_3
theorem s_M_box_30 {x : Int32} : wps rm K Q c_M_box_30 kc ks loc (.int x :: st) h = ((x = 0 → K 61 kc ks loc st h) ∧ (¬ x = 0 → wps rm K Q c_M_box_33 kc ks loc (st) h)) := rfl
theorem s_M_box_33 {x : Int32} {l0 l1 l2 l3 l4 : Option Value} {l : eg_Lo} : wps rm K Q c_M_box_33 kc ks (l0 :: l1 :: l2 :: l3 :: l4 :: some (.int x) :: l) (st) h = wps rm K Q c_M_box_35 kc ks (l0 :: l1 :: l2 :: l3 :: l4 :: some (.int x) :: l) (.int x :: st) h := rfl
theorem s_M_box_35  : wps rm K Q c_M_box_35 kc ks loc (st) h = wps rm K Q c_M_box_36 kc ks loc (.int (1) :: st) h := rfl
theorem s_M_box_36  : wps rm K Q c_M_box_36 kc ks loc (st) h = wps rm K Q c_M_box_39 kc ks loc (.int (300) :: st) h := rfl
theorem s_M_box_39  {a1 : Value} {a2 : Value} {a3 : Value} : wps rm K Q c_M_box_39 kc ks loc (a3 :: a2 :: a1 :: st) h = (st.length ≤ 4 ∧ eg_Cs n_M_isIn [a1, a2, a3] h (fun v h9 => wps rm K Q c_M_box_42 kc ks loc (v.toList ++ st) h9)) := eg_c0_3
theorem s_M_box_42 {x : Int32} : wps rm K Q c_M_box_42 kc ks loc (.int x :: st) h = ((x = 0 → K 61 kc ks loc st h) ∧ (¬ x = 0 → wps rm K Q c_M_box_45 kc ks loc (st) h)) := rfl
theorem s_M_box_45 {x : Int32} {l0 l1 l2 l3 l4 l5 : Option Value} {l : eg_Lo} : wps rm K Q c_M_box_45 kc ks (l0 :: l1 :: l2 :: l3 :: l4 :: l5 :: some (.int x) :: l) (st) h = wps rm K Q c_M_box_47 kc ks (l0 :: l1 :: l2 :: l3 :: l4 :: l5 :: some (.int x) :: l) (.int x :: st) h := rfl
theorem s_M_box_47  : wps rm K Q c_M_box_47 kc ks loc (st) h = wps rm K Q c_M_box_48 kc ks loc (.int (1) :: st) h := rfl
theorem s_M_box_48  : wps rm K Q c_M_box_48 kc ks loc (st) h = wps rm K Q c_M_box_51 kc ks loc (.int (300) :: st) h := rfl
theorem s_M_box_51  {a1 : Value} {a2 : Value} {a3 : Value} : wps rm K Q c_M_box_51 kc ks loc (a3 :: a2 :: a1 :: st) h = (st.length ≤ 4 ∧ eg_Cs n_M_isIn [a1, a2, a3] h (fun v h9 => wps rm K Q c_M_box_54 kc ks loc (v.toList ++ st) h9)) := eg_c0_3
theorem s_M_box_54 {x : Int32} : wps rm K Q c_M_box_54 kc ks loc (.int x :: st) h = ((x = 0 → K 61 kc ks loc st h) ∧ (¬ x = 0 → wps rm K Q c_M_box_57 kc ks loc (st) h)) := rfl
theorem s_M_box_57  : wps rm K Q c_M_box_57 kc ks loc (st) h = wps rm K Q c_M_box_58 kc ks loc (.int (1) :: st) h := rfl
theorem s_M_box_58  : wps rm K Q c_M_box_58 kc ks loc (st) h = K 62 kc ks loc st h := rfl
theorem s_M_box_61  : wps rm K Q c_M_box_61 kc ks loc (st) h = wps rm K Q c_M_box_62 kc ks loc (.int (0) :: st) h := rfl
theorem s_M_box_62 {x : Int32} : wps rm K Q c_M_box_62 kc ks loc (.int x :: st) h = wps rm K Q c_M_box_64 kc ks (eg_set1 loc 7 (.int x)) (st) h := rfl
theorem s_M_box_64 {x : Int32} {l0 l1 l2 l3 l4 l5 l6 : Option Value} {l : eg_Lo} : wps rm K Q c_M_box_64 kc ks (l0 :: l1 :: l2 :: l3 :: l4 :: l5 :: l6 :: some (.int x) :: l) (st) h = wps rm K Q c_M_box_66 kc ks (l0 :: l1 :: l2 :: l3 :: l4 :: l5 :: l6 :: some (.int x) :: l) (.int x :: st) h := rfl
theorem s_M_box_66 {x : Int32} : wps rm K Q c_M_box_66 kc ks loc (.int x :: st) h = ((x = 0 → K 99 kc ks loc st h) ∧ (¬ x = 0 → wps rm K Q c_M_box_69 kc ks loc (st) h)) := rfl
theorem s_M_box_69 {x : Int32} {l0 : Option Value} {l : eg_Lo} : wps rm K Q c_M_box_69 kc ks (l0 :: some (.int x) :: l) (st) h = wps rm K Q c_M_box_70 kc ks (l0 :: some (.int x) :: l) (.int x :: st) h := rfl
theorem s_M_box_70 {x : Int32} {l0 l1 l2 l3 : Option Value} {l : eg_Lo} : wps rm K Q c_M_box_70 kc ks (l0 :: l1 :: l2 :: l3 :: some (.int x) :: l) (st) h = wps rm K Q c_M_box_72 kc ks (l0 :: l1 :: l2 :: l3 :: some (.int x) :: l) (.int x :: st) h := rfl
theorem s_M_box_72 {x y : Int32} : wps rm K Q c_M_box_72 kc ks loc (.int y :: .int x :: st) h = wps rm K Q c_M_box_73 kc ks loc (.int (x + y) :: st) h := rfl
theorem s_M_box_73  : wps rm K Q c_M_box_73 kc ks loc (st) h = wps rm K Q c_M_box_76 kc ks loc (.int (300) :: st) h := rfl
theorem s_M_box_76 {x y : Int32} : wps rm K Q c_M_box_76 kc ks loc (.int y :: .int x :: st) h = ((y < x → K 99 kc ks loc st h) ∧ (¬ y < x → wps rm K Q c_M_box_79 kc ks loc (st) h)) := rfl
theorem s_M_box_79 {x : Int32} {l0 l1 : Option Value} {l : eg_Lo} : wps rm K Q c_M_box_79 kc ks (l0 :: l1 :: some (.int x) :: l) (st) h = wps rm K Q c_M_box_80 kc ks (l0 :: l1 :: some (.int x) :: l) (.int x :: st) h := rfl
theorem s_M_box_80 {x : Int32} {l0 l1 l2 l3 l4 : Option Value} {l : eg_Lo} : wps rm K Q c_M_box_80 kc ks (l0 :: l1 :: l2 :: l3 :: l4 :: some (.int x) :: l) (st) h = wps rm K Q c_M_box_82 kc ks (l0 :: l1 :: l2 :: l3 :: l4 :: some (.int x) :: l) (.int x :: st) h := rfl
theorem s_M_box_82 {x y : Int32} : wps rm K Q c_M_box_82 kc ks loc (.int y :: .int x :: st) h = wps rm K Q c_M_box_83 kc ks loc (.int (x + y) :: st) h := rfl
theorem s_M_box_83  : wps rm K Q c_M_box_83 kc ks loc (st) h = wps rm K Q c_M_box_86 kc ks loc (.int (300) :: st) h := rfl
theorem s_M_box_86 {x y : Int32} : wps rm K Q c_M_box_86 kc ks loc (.int y :: .int x :: st) h = ((y < x → K 99 kc ks loc st h) ∧ (¬ y < x → wps rm K Q c_M_box_89 kc ks loc (st) h)) := rfl
theorem s_M_box_89 {x : Int32} {l0 l1 l2 : Option Value} {l : eg_Lo} : wps rm K Q c_M_box_89 kc ks (l0 :: l1 :: l2 :: some (.int x) :: l) (st) h = wps rm K Q c_M_box_90 kc ks (l0 :: l1 :: l2 :: some (.int x) :: l) (.int x :: st) h := rfl
theorem s_M_box_90 {x : Int32} {l0 l1 l2 l3 l4 l5 : Option Value} {l : eg_Lo} : wps rm K Q c_M_box_90 kc ks (l0 :: l1 :: l2 :: l3 :: l4 :: l5 :: some (.int x) :: l) (st) h = wps rm K Q c_M_box_92 kc ks (l0 :: l1 :: l2 :: l3 :: l4 :: l5 :: some (.int x) :: l) (.int x :: st) h := rfl
theorem s_M_box_92 {x y : Int32} : wps rm K Q c_M_box_92 kc ks loc (.int y :: .int x :: st) h = wps rm K Q c_M_box_93 kc ks loc (.int (x + y) :: st) h := rfl
theorem s_M_box_93  : wps rm K Q c_M_box_93 kc ks loc (st) h = wps rm K Q c_M_box_96 kc ks loc (.int (300) :: st) h := rfl
theorem s_M_box_96 {x y : Int32} : wps rm K Q c_M_box_96 kc ks loc (.int y :: .int x :: st) h = ((x ≤ y → K 107 kc ks loc st h) ∧ (¬ x ≤ y → wps rm K Q c_M_box_99 kc ks loc (st) h)) := rfl
theorem s_M_box_99 {x : Nat} {l : eg_Lo} : wps rm K Q c_M_box_99 kc ks (some (.ref x) :: l) (st) h = wps rm K Q c_M_box_100 kc ks (some (.ref x) :: l) (.ref x :: st) h := rfl
theorem s_M_box_100  : wps rm K Q c_M_box_100 kc ks loc (st) h = wps rm K Q c_M_box_103 kc ks loc (.long (-1000000000000000001) :: st) h := rfl
theorem s_M_box_103  {a1 : Value} {x : Nat} : wps rm K Q c_M_box_103 kc ks loc (a1 :: .ref (x + 1) :: st) h = (eg_cls h x 12 ∧ st.length ≤ 4 ∧ eg_Cs n_M_finding (.ref (x + 1) :: [a1]) h (fun v h9 => wps rm K Q c_M_box_106 kc ks loc (v.toList ++ st) h9)) := eg_c1_1
theorem s_M_box_106 {x : Int64} : wps rm K Q c_M_box_106 kc ks loc ([.long x]) h = (kc = rm.cells ∧ Q (some (.long x)) h) := rfl
theorem s_M_box_107 {x : Nat} {l : eg_Lo} : wps rm K Q c_M_box_107 kc ks (some (.ref x) :: l) (st) h = wps rm K Q c_M_box_108 kc ks (some (.ref x) :: l) (.ref x :: st) h := rfl
theorem s_M_box_108 {x : Nat} : wps rm K Q c_M_box_108 kc ks loc (.ref (x + 1) :: st) h = eg_gf h x 12 20 (fun v => wps rm K Q c_M_box_111 kc ks loc (v :: st) h) := rfl
theorem s_M_box_111  : wps rm K Q c_M_box_111 kc ks loc (st) h = wps rm K Q c_M_box_113 kc ks loc (.int (6) :: st) h := rfl
theorem s_M_box_113 {x y : Int32} : wps rm K Q c_M_box_113 kc ks loc (.int y :: .int x :: st) h = ((¬ x = y → K 124 kc ks loc st h) ∧ (x = y → wps rm K Q c_M_box_116 kc ks loc (st) h)) := rfl
theorem s_M_box_116 {x : Nat} {l : eg_Lo} : wps rm K Q c_M_box_116 kc ks (some (.ref x) :: l) (st) h = wps rm K Q c_M_box_117 kc ks (some (.ref x) :: l) (.ref x :: st) h := rfl
theorem s_M_box_117  : wps rm K Q c_M_box_117 kc ks loc (st) h = wps rm K Q c_M_box_120 kc ks loc (.long (-1000000000000000005) :: st) h := rfl
theorem s_M_box_120  {a1 : Value} {x : Nat} : wps rm K Q c_M_box_120 kc ks loc (a1 :: .ref (x + 1) :: st) h = (eg_cls h x 12 ∧ st.length ≤ 4 ∧ eg_Cs n_M_finding (.ref (x + 1) :: [a1]) h (fun v h9 => wps rm K Q c_M_box_123 kc ks loc (v.toList ++ st) h9)) := eg_c1_1
theorem s_M_box_123 {x : Int64} : wps rm K Q c_M_box_123 kc ks loc ([.long x]) h = (kc = rm.cells ∧ Q (some (.long x)) h) := rfl
theorem s_M_box_124  : wps rm K Q c_M_box_124 kc ks loc (st) h = wps rm K Q c_M_box_126 kc ks loc (.int (6) :: st) h := rfl
theorem s_M_box_126 {x : Nat} {l : eg_Lo} : wps rm K Q c_M_box_126 kc ks (some (.ref x) :: l) (st) h = wps rm K Q c_M_box_127 kc ks (some (.ref x) :: l) (.ref x :: st) h := rfl
theorem s_M_box_127 {x : Nat} : wps rm K Q c_M_box_127 kc ks loc (.ref (x + 1) :: st) h = eg_gf h x 12 20 (fun v => wps rm K Q c_M_box_130 kc ks loc (v :: st) h) := rfl
theorem s_M_box_130 {x y : Int32} : wps rm K Q c_M_box_130 kc ks loc (.int y :: .int x :: st) h = wps rm K Q c_M_box_131 kc ks loc (.int (x * y) :: st) h := rfl
theorem s_M_box_131 {x : Int32} : wps rm K Q c_M_box_131 kc ks loc (.int x :: st) h = wps rm K Q c_M_box_133 kc ks (eg_set1 loc 8 (.int x)) (st) h := rfl
theorem s_M_box_133 {x : Nat} {l : eg_Lo} : wps rm K Q c_M_box_133 kc ks (some (.ref x) :: l) (st) h = wps rm K Q c_M_box_134 kc ks (some (.ref x) :: l) (.ref x :: st) h := rfl
theorem s_M_box_134 {x : Nat} : wps rm K Q c_M_box_134 kc ks loc (.ref (x + 1) :: st) h = eg_gf h x 12 21 (fun v => wps rm K Q c_M_box_137 kc ks loc (v :: st) h) := rfl
theorem s_M_box_137 {x : Int32} {l0 l1 l2 l3 l4 l5 l6 l7 : Option Value} {l : eg_Lo} : wps rm K Q c_M_box_137 kc ks (l0 :: l1 :: l2 :: l3 :: l4 :: l5 :: l6 :: l7 :: some (.int x) :: l) (st) h = wps rm K Q c_M_box_139 kc ks (l0 :: l1 :: l2 :: l3 :: l4 :: l5 :: l6 :: l7 :: some (.int x) :: l) (.int x :: st) h := rfl
theorem s_M_box_139 {x : Int32} {l0 : Option Value} {l : eg_Lo} : wps rm K Q c_M_box_139 kc ks (l0 :: some (.int x) :: l) (st) h = wps rm K Q c_M_box_140 kc ks (l0 :: some (.int x) :: l) (.int x :: st) h := rfl
theorem s_M_box_140 {x : Nat} {i : Int32} {v : Int32} : wps rm K Q c_M_box_140 kc ks loc (.int v :: .int i :: .ref (x + 1) :: st) h = eg_is h x i v (fun h9 => wps rm K Q c_M_box_141 kc ks loc (st) h9) := rfl
theorem s_M_box_141 {x : Nat} {l : eg_Lo} : wps rm K Q c_M_box_141 kc ks (some (.ref x) :: l) (st) h = wps rm K Q c_M_box_142 kc ks (some (.ref x) :: l) (.ref x :: st) h := rfl
theorem s_M_box_142 {x : Nat} : wps rm K Q c_M_box_142 kc ks loc (.ref (x + 1) :: st) h = eg_gf h x 12 21 (fun v => wps rm K Q c_M_box_145 kc ks loc (v :: st) h) := rfl
theorem s_M_box_145 {x : Int32} {l0 l1 l2 l3 l4 l5 l6 l7 : Option Value} {l : eg_Lo} : wps rm K Q c_M_box_145 kc ks (l0 :: l1 :: l2 :: l3 :: l4 :: l5 :: l6 :: l7 :: some (.int x) :: l) (st) h = wps rm K Q c_M_box_147 kc ks (l0 :: l1 :: l2 :: l3 :: l4 :: l5 :: l6 :: l7 :: some (.int x) :: l) (.int x :: st) h := rfl
theorem s_M_box_147  : wps rm K Q c_M_box_147 kc ks loc (st) h = wps rm K Q c_M_box_148 kc ks loc (.int (1) :: st) h := rfl
theorem s_M_box_148 {x y : Int32} : wps rm K Q c_M_box_148 kc ks loc (.int y :: .int x :: st) h = wps rm K Q c_M_box_149 kc ks loc (.int (x + y) :: st) h := rfl
theorem s_M_box_149 {x : Int32} {l0 : Option Value} {l : eg_Lo} : wps rm K Q c_M_box_149 kc ks (l0 :: some (.int x) :: l) (st) h = wps rm K Q c_M_box_150 kc ks (l0 :: some (.int x) :: l) (.int x :: st) h := rfl
theorem s_M_box_150 {x : Int32} {l0 l1 l2 l3 : Option Value} {l : eg_Lo} : wps rm K Q c_M_box_150 kc ks (l0 :: l1 :: l2 :: l3 :: some (.int x) :: l) (st) h = wps rm K Q c_M_box_152 kc ks (l0 :: l1 :: l2 :: l3 :: some (.int x) :: l) (.int x :: st) h := rfl
theorem s_M_box_152 {x y : Int32} : wps rm K Q c_M_box_152 kc ks loc (.int y :: .int x :: st) h = wps rm K Q c_M_box_153 kc ks loc (.int (x + y) :: st) h := rfl
theorem s_M_box_153 {x : Nat} {i : Int32} {v : Int32} : wps rm K Q c_M_box_153 kc ks loc (.int v :: .int i :: .ref (x + 1) :: st) h = eg_is h x i v (fun h9 => wps rm K Q c_M_box_154 kc ks loc (st) h9) := rfl
theorem s_M_box_154 {x : Nat} {l : eg_Lo} : wps rm K Q c_M_box_154 kc ks (some (.ref x) :: l) (st) h = wps rm K Q c_M_box_155 kc ks (some (.ref x) :: l) (.ref x :: st) h := rfl
theorem s_M_box_155 {x : Nat} : wps rm K Q c_M_box_155 kc ks loc (.ref (x + 1) :: st) h = eg_gf h x 12 21 (fun v => wps rm K Q c_M_box_158 kc ks loc (v :: st) h) := rfl
theorem s_M_box_158 {x : Int32} {l0 l1 l2 l3 l4 l5 l6 l7 : Option Value} {l : eg_Lo} : wps rm K Q c_M_box_158 kc ks (l0 :: l1 :: l2 :: l3 :: l4 :: l5 :: l6 :: l7 :: some (.int x) :: l) (st) h = wps rm K Q c_M_box_160 kc ks (l0 :: l1 :: l2 :: l3 :: l4 :: l5 :: l6 :: l7 :: some (.int x) :: l) (.int x :: st) h := rfl
theorem s_M_box_160  : wps rm K Q c_M_box_160 kc ks loc (st) h = wps rm K Q c_M_box_161 kc ks loc (.int (2) :: st) h := rfl
theorem s_M_box_161 {x y : Int32} : wps rm K Q c_M_box_161 kc ks loc (.int y :: .int x :: st) h = wps rm K Q c_M_box_162 kc ks loc (.int (x + y) :: st) h := rfl
theorem s_M_box_162 {x : Int32} {l0 l1 : Option Value} {l : eg_Lo} : wps rm K Q c_M_box_162 kc ks (l0 :: l1 :: some (.int x) :: l) (st) h = wps rm K Q c_M_box_163 kc ks (l0 :: l1 :: some (.int x) :: l) (.int x :: st) h := rfl
theorem s_M_box_163 {x : Nat} {i : Int32} {v : Int32} : wps rm K Q c_M_box_163 kc ks loc (.int v :: .int i :: .ref (x + 1) :: st) h = eg_is h x i v (fun h9 => wps rm K Q c_M_box_164 kc ks loc (st) h9) := rfl
theorem s_M_box_164 {x : Nat} {l : eg_Lo} : wps rm K Q c_M_box_164 kc ks (some (.ref x) :: l) (st) h = wps rm K Q c_M_box_165 kc ks (some (.ref x) :: l) (.ref x :: st) h := rfl
theorem s_M_box_165 {x : Nat} : wps rm K Q c_M_box_165 kc ks loc (.ref (x + 1) :: st) h = eg_gf h x 12 21 (fun v => wps rm K Q c_M_box_168 kc ks loc (v :: st) h) := rfl
theorem s_M_box_168 {x : Int32} {l0 l1 l2 l3 l4 l5 l6 l7 : Option Value} {l : eg_Lo} : wps rm K Q c_M_box_168 kc ks (l0 :: l1 :: l2 :: l3 :: l4 :: l5 :: l6 :: l7 :: some (.int x) :: l) (st) h = wps rm K Q c_M_box_170 kc ks (l0 :: l1 :: l2 :: l3 :: l4 :: l5 :: l6 :: l7 :: some (.int x) :: l) (.int x :: st) h := rfl
theorem s_M_box_170  : wps rm K Q c_M_box_170 kc ks loc (st) h = wps rm K Q c_M_box_171 kc ks loc (.int (3) :: st) h := rfl
theorem s_M_box_171 {x y : Int32} : wps rm K Q c_M_box_171 kc ks loc (.int y :: .int x :: st) h = wps rm K Q c_M_box_172 kc ks loc (.int (x + y) :: st) h := rfl
theorem s_M_box_172 {x : Int32} {l0 l1 : Option Value} {l : eg_Lo} : wps rm K Q c_M_box_172 kc ks (l0 :: l1 :: some (.int x) :: l) (st) h = wps rm K Q c_M_box_173 kc ks (l0 :: l1 :: some (.int x) :: l) (.int x :: st) h := rfl
theorem s_M_box_173 {x : Int32} {l0 l1 l2 l3 l4 : Option Value} {l : eg_Lo} : wps rm K Q c_M_box_173 kc ks (l0 :: l1 :: l2 :: l3 :: l4 :: some (.int x) :: l) (st) h = wps rm K Q c_M_box_175 kc ks (l0 :: l1 :: l2 :: l3 :: l4 :: some (.int x) :: l) (.int x :: st) h := rfl
theorem s_M_box_175 {x y : Int32} : wps rm K Q c_M_box_175 kc ks loc (.int y :: .int x :: st) h = wps rm K Q c_M_box_176 kc ks loc (.int (x + y) :: st) h := rfl
theorem s_M_box_176 {x : Nat} {i : Int32} {v : Int32} : wps rm K Q c_M_box_176 kc ks loc (.int v :: .int i :: .ref (x + 1) :: st) h = eg_is h x i v (fun h9 => wps rm K Q c_M_box_177 kc ks loc (st) h9) := rfl
theorem s_M_box_177 {x : Nat} {l : eg_Lo} : wps rm K Q c_M_box_177 kc ks (some (.ref x) :: l) (st) h = wps rm K Q c_M_box_178 kc ks (some (.ref x) :: l) (.ref x :: st) h := rfl
theorem s_M_box_178 {x : Nat} : wps rm K Q c_M_box_178 kc ks loc (.ref (x + 1) :: st) h = eg_gf h x 12 21 (fun v => wps rm K Q c_M_box_181 kc ks loc (v :: st) h) := rfl
theorem s_M_box_181 {x : Int32} {l0 l1 l2 l3 l4 l5 l6 l7 : Option Value} {l : eg_Lo} : wps rm K Q c_M_box_181 kc ks (l0 :: l1 :: l2 :: l3 :: l4 :: l5 :: l6 :: l7 :: some (.int x) :: l) (st) h = wps rm K Q c_M_box_183 kc ks (l0 :: l1 :: l2 :: l3 :: l4 :: l5 :: l6 :: l7 :: some (.int x) :: l) (.int x :: st) h := rfl
theorem s_M_box_183  : wps rm K Q c_M_box_183 kc ks loc (st) h = wps rm K Q c_M_box_184 kc ks loc (.int (4) :: st) h := rfl
theorem s_M_box_184 {x y : Int32} : wps rm K Q c_M_box_184 kc ks loc (.int y :: .int x :: st) h = wps rm K Q c_M_box_185 kc ks loc (.int (x + y) :: st) h := rfl
theorem s_M_box_185 {x : Int32} {l0 l1 l2 : Option Value} {l : eg_Lo} : wps rm K Q c_M_box_185 kc ks (l0 :: l1 :: l2 :: some (.int x) :: l) (st) h = wps rm K Q c_M_box_186 kc ks (l0 :: l1 :: l2 :: some (.int x) :: l) (.int x :: st) h := rfl
theorem s_M_box_186 {x : Nat} {i : Int32} {v : Int32} : wps rm K Q c_M_box_186 kc ks loc (.int v :: .int i :: .ref (x + 1) :: st) h = eg_is h x i v (fun h9 => wps rm K Q c_M_box_187 kc ks loc (st) h9) := rfl
theorem s_M_box_187 {x : Nat} {l : eg_Lo} : wps rm K Q c_M_box_187 kc ks (some (.ref x) :: l) (st) h = wps rm K Q c_M_box_188 kc ks (some (.ref x) :: l) (.ref x :: st) h := rfl
theorem s_M_box_188 {x : Nat} : wps rm K Q c_M_box_188 kc ks loc (.ref (x + 1) :: st) h = eg_gf h x 12 21 (fun v => wps rm K Q c_M_box_191 kc ks loc (v :: st) h) := rfl
theorem s_M_box_191 {x : Int32} {l0 l1 l2 l3 l4 l5 l6 l7 : Option Value} {l : eg_Lo} : wps rm K Q c_M_box_191 kc ks (l0 :: l1 :: l2 :: l3 :: l4 :: l5 :: l6 :: l7 :: some (.int x) :: l) (st) h = wps rm K Q c_M_box_193 kc ks (l0 :: l1 :: l2 :: l3 :: l4 :: l5 :: l6 :: l7 :: some (.int x) :: l) (.int x :: st) h := rfl
theorem s_M_box_193  : wps rm K Q c_M_box_193 kc ks loc (st) h = wps rm K Q c_M_box_194 kc ks loc (.int (5) :: st) h := rfl
theorem s_M_box_194 {x y : Int32} : wps rm K Q c_M_box_194 kc ks loc (.int y :: .int x :: st) h = wps rm K Q c_M_box_195 kc ks loc (.int (x + y) :: st) h := rfl
theorem s_M_box_195 {x : Int32} {l0 l1 l2 : Option Value} {l : eg_Lo} : wps rm K Q c_M_box_195 kc ks (l0 :: l1 :: l2 :: some (.int x) :: l) (st) h = wps rm K Q c_M_box_196 kc ks (l0 :: l1 :: l2 :: some (.int x) :: l) (.int x :: st) h := rfl
theorem s_M_box_196 {x : Int32} {l0 l1 l2 l3 l4 l5 : Option Value} {l : eg_Lo} : wps rm K Q c_M_box_196 kc ks (l0 :: l1 :: l2 :: l3 :: l4 :: l5 :: some (.int x) :: l) (st) h = wps rm K Q c_M_box_198 kc ks (l0 :: l1 :: l2 :: l3 :: l4 :: l5 :: some (.int x) :: l) (.int x :: st) h := rfl
theorem s_M_box_198 {x y : Int32} : wps rm K Q c_M_box_198 kc ks loc (.int y :: .int x :: st) h = wps rm K Q c_M_box_199 kc ks loc (.int (x + y) :: st) h := rfl
theorem s_M_box_199 {x : Nat} {i : Int32} {v : Int32} : wps rm K Q c_M_box_199 kc ks loc (.int v :: .int i :: .ref (x + 1) :: st) h = eg_is h x i v (fun h9 => wps rm K Q c_M_box_200 kc ks loc (st) h9) := rfl
theorem s_M_box_200 {x : Nat} {l : eg_Lo} : wps rm K Q c_M_box_200 kc ks (some (.ref x) :: l) (st) h = wps rm K Q c_M_box_201 kc ks (some (.ref x) :: l) (.ref x :: st) h := rfl
theorem s_M_box_201 {x : Nat} : wps rm K Q c_M_box_201 kc ks loc (.ref x :: st) h = wps rm K Q c_M_box_202 kc ks loc (.ref x :: .ref x :: st) h := rfl
theorem s_M_box_202 {x : Nat} : wps rm K Q c_M_box_202 kc ks loc (.ref (x + 1) :: st) h = eg_gf h x 12 20 (fun v => wps rm K Q c_M_box_205 kc ks loc (v :: st) h) := rfl
theorem s_M_box_205  : wps rm K Q c_M_box_205 kc ks loc (st) h = wps rm K Q c_M_box_206 kc ks loc (.int (1) :: st) h := rfl
theorem s_M_box_206 {x y : Int32} : wps rm K Q c_M_box_206 kc ks loc (.int y :: .int x :: st) h = wps rm K Q c_M_box_207 kc ks loc (.int (x + y) :: st) h := rfl
theorem s_M_box_207 {x : Nat} {v : Value} : wps rm K Q c_M_box_207 kc ks loc (v :: .ref (x + 1) :: st) h = eg_pf h x 12 20 v (fun h9 => wps rm K Q c_M_box_210 kc ks loc (st) h9) := rfl
theorem s_M_box_210 {x : Nat} {l : eg_Lo} : wps rm K Q c_M_box_210 kc ks (some (.ref x) :: l) (st) h = wps rm K Q c_M_box_211 kc ks (some (.ref x) :: l) (.ref x :: st) h := rfl
theorem s_M_box_211 {x : Nat} : wps rm K Q c_M_box_211 kc ks loc (.ref (x + 1) :: st) h = eg_gf h x 12 20 (fun v => wps rm K Q c_M_box_214 kc ks loc (v :: st) h) := rfl
theorem s_M_box_214  : wps rm K Q c_M_box_214 kc ks loc (st) h = wps rm K Q c_M_box_215 kc ks loc (.int (1) :: st) h := rfl
theorem s_M_box_215 {x y : Int32} : wps rm K Q c_M_box_215 kc ks loc (.int y :: .int x :: st) h = wps rm K Q c_M_box_216 kc ks loc (.int (x - y) :: st) h := rfl
theorem s_M_box_216 {x : Int32} : wps rm K Q c_M_box_216 kc ks loc (.int x :: st) h = wps rm K Q c_M_box_217 kc ks loc (.long (x.toInt64) :: st) h := rfl
theorem s_M_box_217 {x : Int64} : wps rm K Q c_M_box_217 kc ks loc ([.long x]) h = (kc = rm.cells ∧ Q (some (.long x)) h) := rfl
def T_M_box : List (Nat × List eg_I) := [(61, c_M_box_61), (62, c_M_box_62), (99, c_M_box_99), (107, c_M_box_107), (124, c_M_box_124)]
theorem j_M_box_61 {R : Nat → Nat → Nat → eg_Lo → List Value → List eg_E → Prop} {f pc0 : Nat} : eg_run rm R Q T_M_box (f + 1) 61 kc ks loc st h = wps rm (eg_run rm R Q T_M_box f) Q c_M_box_61 kc ks loc st h := rfl
theorem j_M_box_62 {R : Nat → Nat → Nat → eg_Lo → List Value → List eg_E → Prop} {f pc0 : Nat} : eg_run rm R Q T_M_box (f + 1) 62 kc ks loc st h = wps rm (eg_run rm R Q T_M_box f) Q c_M_box_62 kc ks loc st h := rfl
theorem j_M_box_99 {R : Nat → Nat → Nat → eg_Lo → List Value → List eg_E → Prop} {f pc0 : Nat} : eg_run rm R Q T_M_box (f + 1) 99 kc ks loc st h = wps rm (eg_run rm R Q T_M_box f) Q c_M_box_99 kc ks loc st h := rfl
theorem j_M_box_107 {R : Nat → Nat → Nat → eg_Lo → List Value → List eg_E → Prop} {f pc0 : Nat} : eg_run rm R Q T_M_box (f + 1) 107 kc ks loc st h = wps rm (eg_run rm R Q T_M_box f) Q c_M_box_107 kc ks loc st h := rfl
theorem j_M_box_124 {R : Nat → Nat → Nat → eg_Lo → List Value → List eg_E → Prop} {f pc0 : Nat} : eg_run rm R Q T_M_box (f + 1) 124 kc ks loc st h = wps rm (eg_run rm R Q T_M_box f) Q c_M_box_124 kc ks loc st h := rfl
end
theorem q_M_box : (T_M_box.all fun q => eg_seq m_M_box q.1 q.2) = true := by decide +kernel
theorem b_M_box {as : List Value} {h : List eg_E} {Q : Option Value → List eg_E → Prop} (hf : (eg_fl as).length ≤ 9) (hw : wps (eg_rm m_M_box) (eg_run (eg_rm m_M_box) (eg_R m_M_box Q (h.length + 0)) Q T_M_box 7) Q c_M_box_0 0 0 (eg_entry 9 as) [] h) : eg_Runs n_M_box as h Q := eg_begin (d := m_M_box) rfl (by decide) (by decide +kernel) q_M_box hf hw
/-! ===== M_unbox ===== -/
def c_M_unbox_12 : List eg_I := .inl (12, 1, .lreturn, 0, 0) :: []
def c_M_unbox_11 : List eg_I := .inl (11, 1, .i2l, 0, 0) :: c_M_unbox_12
def c_M_unbox_10 : List eg_I := .inl (10, 1, .iload 1, 0, 0) :: c_M_unbox_11
def c_M_unbox_7 : List eg_I := .inl (7, 3, .putfield 296, 12, 20) :: c_M_unbox_10
def c_M_unbox_6 : List eg_I := .inl (6, 1, .iconst (0), 0, 0) :: c_M_unbox_7
def c_M_unbox_5 : List eg_I := .inl (5, 1, .aload 0, 0, 0) :: c_M_unbox_6
def c_M_unbox_4 : List eg_I := .inl (4, 1, .istore 1, 0, 0) :: c_M_unbox_5
def c_M_unbox_1 : List eg_I := .inl (1, 3, .getfield 296, 12, 20) :: c_M_unbox_4
def c_M_unbox_0 : List eg_I := .inl (0, 1, .aload 0, 0, 0) :: c_M_unbox_1
section
variable {rm : Room} {K : Nat → Nat → Nat → eg_Lo → List Value → List eg_E → Prop} {Q : Option Value → List eg_E → Prop} {kc ks : Nat} {loc : eg_Lo} {st : List Value} {h : List eg_E}
theorem s_M_unbox_0 {x : Nat} {l : eg_Lo} : wps rm K Q c_M_unbox_0 kc ks (some (.ref x) :: l) (st) h = wps rm K Q c_M_unbox_1 kc ks (some (.ref x) :: l) (.ref x :: st) h := rfl
theorem s_M_unbox_1 {x : Nat} : wps rm K Q c_M_unbox_1 kc ks loc (.ref (x + 1) :: st) h = eg_gf h x 12 20 (fun v => wps rm K Q c_M_unbox_4 kc ks loc (v :: st) h) := rfl
theorem s_M_unbox_4 {x : Int32} : wps rm K Q c_M_unbox_4 kc ks loc (.int x :: st) h = wps rm K Q c_M_unbox_5 kc ks (eg_set1 loc 1 (.int x)) (st) h := rfl
theorem s_M_unbox_5 {x : Nat} {l : eg_Lo} : wps rm K Q c_M_unbox_5 kc ks (some (.ref x) :: l) (st) h = wps rm K Q c_M_unbox_6 kc ks (some (.ref x) :: l) (.ref x :: st) h := rfl
theorem s_M_unbox_6  : wps rm K Q c_M_unbox_6 kc ks loc (st) h = wps rm K Q c_M_unbox_7 kc ks loc (.int (0) :: st) h := rfl
theorem s_M_unbox_7 {x : Nat} {v : Value} : wps rm K Q c_M_unbox_7 kc ks loc (v :: .ref (x + 1) :: st) h = eg_pf h x 12 20 v (fun h9 => wps rm K Q c_M_unbox_10 kc ks loc (st) h9) := rfl
theorem s_M_unbox_10 {x : Int32} {l0 : Option Value} {l : eg_Lo} : wps rm K Q c_M_unbox_10 kc ks (l0 :: some (.int x) :: l) (st) h = wps rm K Q c_M_unbox_11 kc ks (l0 :: some (.int x) :: l) (.int x :: st) h := rfl
theorem s_M_unbox_11 {x : Int32} : wps rm K Q c_M_unbox_11 kc ks loc (.int x :: st) h = wps rm K Q c_M_unbox_12 kc ks loc (.long (x.toInt64) :: st) h := rfl
theorem s_M_unbox_12 {x : Int64} : wps rm K Q c_M_unbox_12 kc ks loc ([.long x]) h = (kc = rm.cells ∧ Q (some (.long x)) h) := rfl
def T_M_unbox : List (Nat × List eg_I) := []
end
theorem q_M_unbox : (T_M_unbox.all fun q => eg_seq m_M_unbox q.1 q.2) = true := by decide +kernel
theorem b_M_unbox {as : List Value} {h : List eg_E} {Q : Option Value → List eg_E → Prop} (hf : (eg_fl as).length ≤ 2) (hw : wps (eg_rm m_M_unbox) (eg_run (eg_rm m_M_unbox) (eg_R m_M_unbox Q (h.length + 0)) Q T_M_unbox 2) Q c_M_unbox_0 0 0 (eg_entry 2 as) [] h) : eg_Runs n_M_unbox as h Q := eg_begin (d := m_M_unbox) rfl (by decide) (by decide +kernel) q_M_unbox hf hw
/-! ===== M_cut ===== -/
def c_M_cut_143 : List eg_I := .inl (143, 1, .ireturn, 0, 1) :: []
def c_M_cut_142 : List eg_I := .inl (142, 1, .iconst (1), 0, 0) :: c_M_cut_143
def c_M_cut_139 : List eg_I := .inl (139, 3, .putfield 305, 12, 42) :: c_M_cut_142
def c_M_cut_137 : List eg_I := .inl (137, 2, .lload 10, 0, 0) :: c_M_cut_139
def c_M_cut_136 : List eg_I := .inl (136, 1, .aload 0, 0, 0) :: c_M_cut_137
def c_M_cut_133 : List eg_I := .inl (133, 3, .putfield 308, 12, 41) :: c_M_cut_136
def c_M_cut_131 : List eg_I := .inl (131, 2, .lload 8, 0, 0) :: c_M_cut_133
def c_M_cut_130 : List eg_I := .inl (130, 1, .aload 0, 0, 0) :: c_M_cut_131
def c_M_cut_127 : List eg_I := .inl (127, 3, .ifCond .ge (15), 142, 0) :: c_M_cut_130
def c_M_cut_126 : List eg_I := .inl (126, 1, .lcmp, 0, 0) :: c_M_cut_127
def c_M_cut_125 : List eg_I := .inl (125, 1, .lmul, 0, 0) :: c_M_cut_126
def c_M_cut_123 : List eg_I := .inl (123, 2, .lload 10, 0, 0) :: c_M_cut_125
def c_M_cut_120 : List eg_I := .inl (120, 3, .getfield 308, 12, 41) :: c_M_cut_123
def c_M_cut_119 : List eg_I := .inl (119, 1, .aload 0, 0, 0) :: c_M_cut_120
def c_M_cut_118 : List eg_I := .inl (118, 1, .lmul, 0, 0) :: c_M_cut_119
def c_M_cut_115 : List eg_I := .inl (115, 3, .getfield 305, 12, 42) :: c_M_cut_118
def c_M_cut_114 : List eg_I := .inl (114, 1, .aload 0, 0, 0) :: c_M_cut_115
def c_M_cut_112 : List eg_I := .inl (112, 2, .lload 8, 0, 0) :: c_M_cut_114
def c_M_cut_109 : List eg_I := .inl (109, 3, .putfield 299, 12, 40) :: c_M_cut_112
def c_M_cut_107 : List eg_I := .inl (107, 2, .lload 10, 0, 0) :: c_M_cut_109
def c_M_cut_106 : List eg_I := .inl (106, 1, .aload 0, 0, 0) :: c_M_cut_107
def c_M_cut_103 : List eg_I := .inl (103, 3, .putfield 302, 12, 39) :: c_M_cut_106
def c_M_cut_101 : List eg_I := .inl (101, 2, .lload 6, 0, 0) :: c_M_cut_103
def c_M_cut_100 : List eg_I := .inl (100, 1, .aload 0, 0, 0) :: c_M_cut_101
def c_M_cut_97 : List eg_I := .inl (97, 3, .ifCond .le (15), 112, 0) :: c_M_cut_100
def c_M_cut_96 : List eg_I := .inl (96, 1, .lcmp, 0, 0) :: c_M_cut_97
def c_M_cut_95 : List eg_I := .inl (95, 1, .lmul, 0, 0) :: c_M_cut_96
def c_M_cut_93 : List eg_I := .inl (93, 2, .lload 10, 0, 0) :: c_M_cut_95
def c_M_cut_90 : List eg_I := .inl (90, 3, .getfield 302, 12, 39) :: c_M_cut_93
def c_M_cut_89 : List eg_I := .inl (89, 1, .aload 0, 0, 0) :: c_M_cut_90
def c_M_cut_88 : List eg_I := .inl (88, 1, .lmul, 0, 0) :: c_M_cut_89
def c_M_cut_85 : List eg_I := .inl (85, 3, .getfield 299, 12, 40) :: c_M_cut_88
def c_M_cut_84 : List eg_I := .inl (84, 1, .aload 0, 0, 0) :: c_M_cut_85
def c_M_cut_82 : List eg_I := .inl (82, 2, .lload 6, 0, 0) :: c_M_cut_84
def c_M_cut_80 : List eg_I := .inl (80, 2, .lstore 10, 0, 0) :: c_M_cut_82
def c_M_cut_79 : List eg_I := .inl (79, 1, .i2l, 0, 0) :: c_M_cut_80
def c_M_cut_78 : List eg_I := .inl (78, 1, .ineg, 0, 0) :: c_M_cut_79
def c_M_cut_76 : List eg_I := .inl (76, 2, .iload 5, 0, 0) :: c_M_cut_78
def c_M_cut_73 : List eg_I := .inl (73, 3, .goto (7), 80, 0) :: []
def c_M_cut_72 : List eg_I := .inl (72, 1, .i2l, 0, 0) :: c_M_cut_73
def c_M_cut_70 : List eg_I := .inl (70, 2, .iload 5, 0, 0) :: c_M_cut_72
def c_M_cut_67 : List eg_I := .inl (67, 3, .ifCond .le (9), 76, 0) :: c_M_cut_70
def c_M_cut_65 : List eg_I := .inl (65, 2, .iload 5, 0, 0) :: c_M_cut_67
def c_M_cut_63 : List eg_I := .inl (63, 2, .lstore 8, 0, 0) :: c_M_cut_65
def c_M_cut_62 : List eg_I := .inl (62, 1, .i2l, 0, 0) :: c_M_cut_63
def c_M_cut_61 : List eg_I := .inl (61, 1, .isub, 0, 0) :: c_M_cut_62
def c_M_cut_60 : List eg_I := .inl (60, 1, .iload 3, 0, 0) :: c_M_cut_61
def c_M_cut_59 : List eg_I := .inl (59, 1, .iload 1, 0, 0) :: c_M_cut_60
def c_M_cut_56 : List eg_I := .inl (56, 3, .goto (7), 63, 0) :: []
def c_M_cut_55 : List eg_I := .inl (55, 1, .i2l, 0, 0) :: c_M_cut_56
def c_M_cut_54 : List eg_I := .inl (54, 1, .isub, 0, 0) :: c_M_cut_55
def c_M_cut_53 : List eg_I := .inl (53, 1, .iload 1, 0, 0) :: c_M_cut_54
def c_M_cut_51 : List eg_I := .inl (51, 2, .iload 4, 0, 0) :: c_M_cut_53
def c_M_cut_48 : List eg_I := .inl (48, 3, .ifCond .le (11), 59, 0) :: c_M_cut_51
def c_M_cut_46 : List eg_I := .inl (46, 2, .iload 5, 0, 0) :: c_M_cut_48
def c_M_cut_44 : List eg_I := .inl (44, 2, .lstore 6, 0, 0) :: c_M_cut_46
def c_M_cut_43 : List eg_I := .inl (43, 1, .i2l, 0, 0) :: c_M_cut_44
def c_M_cut_42 : List eg_I := .inl (42, 1, .isub, 0, 0) :: c_M_cut_43
def c_M_cut_40 : List eg_I := .inl (40, 2, .iload 4, 0, 0) :: c_M_cut_42
def c_M_cut_39 : List eg_I := .inl (39, 1, .iload 1, 0, 0) :: c_M_cut_40
def c_M_cut_36 : List eg_I := .inl (36, 3, .goto (8), 44, 0) :: []
def c_M_cut_35 : List eg_I := .inl (35, 1, .i2l, 0, 0) :: c_M_cut_36
def c_M_cut_34 : List eg_I := .inl (34, 1, .isub, 0, 0) :: c_M_cut_35
def c_M_cut_33 : List eg_I := .inl (33, 1, .iload 1, 0, 0) :: c_M_cut_34
def c_M_cut_32 : List eg_I := .inl (32, 1, .iload 3, 0, 0) :: c_M_cut_33
def c_M_cut_29 : List eg_I := .inl (29, 3, .ifCond .le (10), 39, 0) :: c_M_cut_32
def c_M_cut_27 : List eg_I := .inl (27, 2, .iload 5, 0, 0) :: c_M_cut_29
def c_M_cut_26 : List eg_I := .inl (26, 1, .ireturn, 0, 1) :: []
def c_M_cut_25 : List eg_I := .inl (25, 1, .iconst (0), 0, 0) :: c_M_cut_26
def c_M_cut_22 : List eg_I := .inl (22, 3, .goto (4), 26, 0) :: []
def c_M_cut_21 : List eg_I := .inl (21, 1, .iconst (1), 0, 0) :: c_M_cut_22
def c_M_cut_18 : List eg_I := .inl (18, 3, .if_icmp .ge (7), 25, 0) :: c_M_cut_21
def c_M_cut_16 : List eg_I := .inl (16, 2, .iload 4, 0, 0) :: c_M_cut_18
def c_M_cut_15 : List eg_I := .inl (15, 1, .iload 1, 0, 0) :: c_M_cut_16
def c_M_cut_12 : List eg_I := .inl (12, 3, .if_icmp .le (13), 25, 0) :: c_M_cut_15
def c_M_cut_11 : List eg_I := .inl (11, 1, .iload 3, 0, 0) :: c_M_cut_12
def c_M_cut_10 : List eg_I := .inl (10, 1, .iload 1, 0, 0) :: c_M_cut_11
def c_M_cut_7 : List eg_I := .inl (7, 3, .ifCond .ne (20), 27, 0) :: c_M_cut_10
def c_M_cut_5 : List eg_I := .inl (5, 2, .iload 5, 0, 0) :: c_M_cut_7
def c_M_cut_3 : List eg_I := .inl (3, 2, .istore 5, 0, 0) :: c_M_cut_5
def c_M_cut_2 : List eg_I := .inl (2, 1, .isub, 0, 0) :: c_M_cut_3
def c_M_cut_1 : List eg_I := .inl (1, 1, .iload 1, 0, 0) :: c_M_cut_2
def c_M_cut_0 : List eg_I := .inl (0, 1, .iload 2, 0, 0) :: c_M_cut_1
section
variable {rm : Room} {K : Nat → Nat → Nat → eg_Lo → List Value → List eg_E → Prop} {Q : Option Value → List eg_E → Prop} {kc ks : Nat} {loc : eg_Lo} {st : List Value} {h : List eg_E}
theorem s_M_cut_0 {x : Int32} {l0 l1 : Option Value} {l : eg_Lo} : wps rm K Q c_M_cut_0 kc ks (l0 :: l1 :: some (.int x) :: l) (st) h = wps rm K Q c_M_cut_1 kc ks (l0 :: l1 :: some (.int x) :: l) (.int x :: st) h := rfl
theorem s_M_cut_1 {x : Int32} {l0 : Option Value} {l : eg_Lo} : wps rm K Q c_M_cut_1 kc ks (l0 :: some (.int x) :: l) (st) h = wps rm K Q c_M_cut_2 kc ks (l0 :: some (.int x) :: l) (.int x :: st) h := rfl
theorem s_M_cut_2 {x y : Int32} : wps rm K Q c_M_cut_2 kc ks loc (.int y :: .int x :: st) h = wps rm K Q c_M_cut_3 kc ks loc (.int (x - y) :: st) h := rfl
theorem s_M_cut_3 {x : Int32} : wps rm K Q c_M_cut_3 kc ks loc (.int x :: st) h = wps rm K Q c_M_cut_5 kc ks (eg_set1 loc 5 (.int x)) (st) h := rfl
theorem s_M_cut_5 {x : Int32} {l0 l1 l2 l3 l4 : Option Value} {l : eg_Lo} : wps rm K Q c_M_cut_5 kc ks (l0 :: l1 :: l2 :: l3 :: l4 :: some (.int x) :: l) (st) h = wps rm K Q c_M_cut_7 kc ks (l0 :: l1 :: l2 :: l3 :: l4 :: some (.int x) :: l) (.int x :: st) h := rfl
theorem s_M_cut_7 {x : Int32} : wps rm K Q c_M_cut_7 kc ks loc (.int x :: st) h = ((¬ x = 0 → K 27 kc ks loc st h) ∧ (x = 0 → wps rm K Q c_M_cut_10 kc ks loc (st) h)) := rfl
theorem s_M_cut_10 {x : Int32} {l0 : Option Value} {l : eg_Lo} : wps rm K Q c_M_cut_10 kc ks (l0 :: some (.int x) :: l) (st) h = wps rm K Q c_M_cut_11 kc ks (l0 :: some (.int x) :: l) (.int x :: st) h := rfl
theorem s_M_cut_11 {x : Int32} {l0 l1 l2 : Option Value} {l : eg_Lo} : wps rm K Q c_M_cut_11 kc ks (l0 :: l1 :: l2 :: some (.int x) :: l) (st) h = wps rm K Q c_M_cut_12 kc ks (l0 :: l1 :: l2 :: some (.int x) :: l) (.int x :: st) h := rfl
theorem s_M_cut_12 {x y : Int32} : wps rm K Q c_M_cut_12 kc ks loc (.int y :: .int x :: st) h = ((x ≤ y → K 25 kc ks loc st h) ∧ (¬ x ≤ y → wps rm K Q c_M_cut_15 kc ks loc (st) h)) := rfl
theorem s_M_cut_15 {x : Int32} {l0 : Option Value} {l : eg_Lo} : wps rm K Q c_M_cut_15 kc ks (l0 :: some (.int x) :: l) (st) h = wps rm K Q c_M_cut_16 kc ks (l0 :: some (.int x) :: l) (.int x :: st) h := rfl
theorem s_M_cut_16 {x : Int32} {l0 l1 l2 l3 : Option Value} {l : eg_Lo} : wps rm K Q c_M_cut_16 kc ks (l0 :: l1 :: l2 :: l3 :: some (.int x) :: l) (st) h = wps rm K Q c_M_cut_18 kc ks (l0 :: l1 :: l2 :: l3 :: some (.int x) :: l) (.int x :: st) h := rfl
theorem s_M_cut_18 {x y : Int32} : wps rm K Q c_M_cut_18 kc ks loc (.int y :: .int x :: st) h = ((y ≤ x → K 25 kc ks loc st h) ∧ (¬ y ≤ x → wps rm K Q c_M_cut_21 kc ks loc (st) h)) := rfl
theorem s_M_cut_21  : wps rm K Q c_M_cut_21 kc ks loc (st) h = wps rm K Q c_M_cut_22 kc ks loc (.int (1) :: st) h := rfl
theorem s_M_cut_22  : wps rm K Q c_M_cut_22 kc ks loc (st) h = K 26 kc ks loc st h := rfl
theorem s_M_cut_25  : wps rm K Q c_M_cut_25 kc ks loc (st) h = wps rm K Q c_M_cut_26 kc ks loc (.int (0) :: st) h := rfl
theorem s_M_cut_26 {x : Int32} : wps rm K Q c_M_cut_26 kc ks loc ([.int x]) h = (kc = rm.cells ∧ ((1 : Nat) = 1 → x = 0 ∨ x = 1) ∧ Q (some (.int x)) h) := rfl
theorem s_M_cut_27 {x : Int32} {l0 l1 l2 l3 l4 : Option Value} {l : eg_Lo} : wps rm K Q c_M_cut_27 kc ks (l0 :: l1 :: l2 :: l3 :: l4 :: some (.int x) :: l) (st) h = wps rm K Q c_M_cut_29 kc ks (l0 :: l1 :: l2 :: l3 :: l4 :: some (.int x) :: l) (.int x :: st) h := rfl
theorem s_M_cut_29 {x : Int32} : wps rm K Q c_M_cut_29 kc ks loc (.int x :: st) h = ((x ≤ 0 → K 39 kc ks loc st h) ∧ (¬ x ≤ 0 → wps rm K Q c_M_cut_32 kc ks loc (st) h)) := rfl
theorem s_M_cut_32 {x : Int32} {l0 l1 l2 : Option Value} {l : eg_Lo} : wps rm K Q c_M_cut_32 kc ks (l0 :: l1 :: l2 :: some (.int x) :: l) (st) h = wps rm K Q c_M_cut_33 kc ks (l0 :: l1 :: l2 :: some (.int x) :: l) (.int x :: st) h := rfl
theorem s_M_cut_33 {x : Int32} {l0 : Option Value} {l : eg_Lo} : wps rm K Q c_M_cut_33 kc ks (l0 :: some (.int x) :: l) (st) h = wps rm K Q c_M_cut_34 kc ks (l0 :: some (.int x) :: l) (.int x :: st) h := rfl
theorem s_M_cut_34 {x y : Int32} : wps rm K Q c_M_cut_34 kc ks loc (.int y :: .int x :: st) h = wps rm K Q c_M_cut_35 kc ks loc (.int (x - y) :: st) h := rfl
theorem s_M_cut_35 {x : Int32} : wps rm K Q c_M_cut_35 kc ks loc (.int x :: st) h = wps rm K Q c_M_cut_36 kc ks loc (.long (x.toInt64) :: st) h := rfl
theorem s_M_cut_36  : wps rm K Q c_M_cut_36 kc ks loc (st) h = K 44 kc ks loc st h := rfl
theorem s_M_cut_39 {x : Int32} {l0 : Option Value} {l : eg_Lo} : wps rm K Q c_M_cut_39 kc ks (l0 :: some (.int x) :: l) (st) h = wps rm K Q c_M_cut_40 kc ks (l0 :: some (.int x) :: l) (.int x :: st) h := rfl
theorem s_M_cut_40 {x : Int32} {l0 l1 l2 l3 : Option Value} {l : eg_Lo} : wps rm K Q c_M_cut_40 kc ks (l0 :: l1 :: l2 :: l3 :: some (.int x) :: l) (st) h = wps rm K Q c_M_cut_42 kc ks (l0 :: l1 :: l2 :: l3 :: some (.int x) :: l) (.int x :: st) h := rfl
theorem s_M_cut_42 {x y : Int32} : wps rm K Q c_M_cut_42 kc ks loc (.int y :: .int x :: st) h = wps rm K Q c_M_cut_43 kc ks loc (.int (x - y) :: st) h := rfl
theorem s_M_cut_43 {x : Int32} : wps rm K Q c_M_cut_43 kc ks loc (.int x :: st) h = wps rm K Q c_M_cut_44 kc ks loc (.long (x.toInt64) :: st) h := rfl
theorem s_M_cut_44 {x : Int64} : wps rm K Q c_M_cut_44 kc ks loc (.long x :: st) h = wps rm K Q c_M_cut_46 kc ks (eg_set2 loc 6 (.long x)) (st) h := rfl
theorem s_M_cut_46 {x : Int32} {l0 l1 l2 l3 l4 : Option Value} {l : eg_Lo} : wps rm K Q c_M_cut_46 kc ks (l0 :: l1 :: l2 :: l3 :: l4 :: some (.int x) :: l) (st) h = wps rm K Q c_M_cut_48 kc ks (l0 :: l1 :: l2 :: l3 :: l4 :: some (.int x) :: l) (.int x :: st) h := rfl
theorem s_M_cut_48 {x : Int32} : wps rm K Q c_M_cut_48 kc ks loc (.int x :: st) h = ((x ≤ 0 → K 59 kc ks loc st h) ∧ (¬ x ≤ 0 → wps rm K Q c_M_cut_51 kc ks loc (st) h)) := rfl
theorem s_M_cut_51 {x : Int32} {l0 l1 l2 l3 : Option Value} {l : eg_Lo} : wps rm K Q c_M_cut_51 kc ks (l0 :: l1 :: l2 :: l3 :: some (.int x) :: l) (st) h = wps rm K Q c_M_cut_53 kc ks (l0 :: l1 :: l2 :: l3 :: some (.int x) :: l) (.int x :: st) h := rfl
theorem s_M_cut_53 {x : Int32} {l0 : Option Value} {l : eg_Lo} : wps rm K Q c_M_cut_53 kc ks (l0 :: some (.int x) :: l) (st) h = wps rm K Q c_M_cut_54 kc ks (l0 :: some (.int x) :: l) (.int x :: st) h := rfl
theorem s_M_cut_54 {x y : Int32} : wps rm K Q c_M_cut_54 kc ks loc (.int y :: .int x :: st) h = wps rm K Q c_M_cut_55 kc ks loc (.int (x - y) :: st) h := rfl
theorem s_M_cut_55 {x : Int32} : wps rm K Q c_M_cut_55 kc ks loc (.int x :: st) h = wps rm K Q c_M_cut_56 kc ks loc (.long (x.toInt64) :: st) h := rfl
theorem s_M_cut_56  : wps rm K Q c_M_cut_56 kc ks loc (st) h = K 63 kc ks loc st h := rfl
theorem s_M_cut_59 {x : Int32} {l0 : Option Value} {l : eg_Lo} : wps rm K Q c_M_cut_59 kc ks (l0 :: some (.int x) :: l) (st) h = wps rm K Q c_M_cut_60 kc ks (l0 :: some (.int x) :: l) (.int x :: st) h := rfl
theorem s_M_cut_60 {x : Int32} {l0 l1 l2 : Option Value} {l : eg_Lo} : wps rm K Q c_M_cut_60 kc ks (l0 :: l1 :: l2 :: some (.int x) :: l) (st) h = wps rm K Q c_M_cut_61 kc ks (l0 :: l1 :: l2 :: some (.int x) :: l) (.int x :: st) h := rfl
theorem s_M_cut_61 {x y : Int32} : wps rm K Q c_M_cut_61 kc ks loc (.int y :: .int x :: st) h = wps rm K Q c_M_cut_62 kc ks loc (.int (x - y) :: st) h := rfl
theorem s_M_cut_62 {x : Int32} : wps rm K Q c_M_cut_62 kc ks loc (.int x :: st) h = wps rm K Q c_M_cut_63 kc ks loc (.long (x.toInt64) :: st) h := rfl
theorem s_M_cut_63 {x : Int64} : wps rm K Q c_M_cut_63 kc ks loc (.long x :: st) h = wps rm K Q c_M_cut_65 kc ks (eg_set2 loc 8 (.long x)) (st) h := rfl
theorem s_M_cut_65 {x : Int32} {l0 l1 l2 l3 l4 : Option Value} {l : eg_Lo} : wps rm K Q c_M_cut_65 kc ks (l0 :: l1 :: l2 :: l3 :: l4 :: some (.int x) :: l) (st) h = wps rm K Q c_M_cut_67 kc ks (l0 :: l1 :: l2 :: l3 :: l4 :: some (.int x) :: l) (.int x :: st) h := rfl
theorem s_M_cut_67 {x : Int32} : wps rm K Q c_M_cut_67 kc ks loc (.int x :: st) h = ((x ≤ 0 → K 76 kc ks loc st h) ∧ (¬ x ≤ 0 → wps rm K Q c_M_cut_70 kc ks loc (st) h)) := rfl
theorem s_M_cut_70 {x : Int32} {l0 l1 l2 l3 l4 : Option Value} {l : eg_Lo} : wps rm K Q c_M_cut_70 kc ks (l0 :: l1 :: l2 :: l3 :: l4 :: some (.int x) :: l) (st) h = wps rm K Q c_M_cut_72 kc ks (l0 :: l1 :: l2 :: l3 :: l4 :: some (.int x) :: l) (.int x :: st) h := rfl
theorem s_M_cut_72 {x : Int32} : wps rm K Q c_M_cut_72 kc ks loc (.int x :: st) h = wps rm K Q c_M_cut_73 kc ks loc (.long (x.toInt64) :: st) h := rfl
theorem s_M_cut_73  : wps rm K Q c_M_cut_73 kc ks loc (st) h = K 80 kc ks loc st h := rfl
theorem s_M_cut_76 {x : Int32} {l0 l1 l2 l3 l4 : Option Value} {l : eg_Lo} : wps rm K Q c_M_cut_76 kc ks (l0 :: l1 :: l2 :: l3 :: l4 :: some (.int x) :: l) (st) h = wps rm K Q c_M_cut_78 kc ks (l0 :: l1 :: l2 :: l3 :: l4 :: some (.int x) :: l) (.int x :: st) h := rfl
theorem s_M_cut_78 {x : Int32} : wps rm K Q c_M_cut_78 kc ks loc (.int x :: st) h = wps rm K Q c_M_cut_79 kc ks loc (.int (-x) :: st) h := rfl
theorem s_M_cut_79 {x : Int32} : wps rm K Q c_M_cut_79 kc ks loc (.int x :: st) h = wps rm K Q c_M_cut_80 kc ks loc (.long (x.toInt64) :: st) h := rfl
theorem s_M_cut_80 {x : Int64} : wps rm K Q c_M_cut_80 kc ks loc (.long x :: st) h = wps rm K Q c_M_cut_82 kc ks (eg_set2 loc 10 (.long x)) (st) h := rfl
theorem s_M_cut_82 {x : Int64} {l0 l1 l2 l3 l4 l5 : Option Value} {l : eg_Lo} : wps rm K Q c_M_cut_82 kc ks (l0 :: l1 :: l2 :: l3 :: l4 :: l5 :: some (.long x) :: l) (st) h = wps rm K Q c_M_cut_84 kc ks (l0 :: l1 :: l2 :: l3 :: l4 :: l5 :: some (.long x) :: l) (.long x :: st) h := rfl
theorem s_M_cut_84 {x : Nat} {l : eg_Lo} : wps rm K Q c_M_cut_84 kc ks (some (.ref x) :: l) (st) h = wps rm K Q c_M_cut_85 kc ks (some (.ref x) :: l) (.ref x :: st) h := rfl
theorem s_M_cut_85 {x : Nat} : wps rm K Q c_M_cut_85 kc ks loc (.ref (x + 1) :: st) h = eg_gf h x 12 40 (fun v => wps rm K Q c_M_cut_88 kc ks loc (v :: st) h) := rfl
theorem s_M_cut_88 {x y : Int64} : wps rm K Q c_M_cut_88 kc ks loc (.long y :: .long x :: st) h = wps rm K Q c_M_cut_89 kc ks loc (.long (x * y) :: st) h := rfl
theorem s_M_cut_89 {x : Nat} {l : eg_Lo} : wps rm K Q c_M_cut_89 kc ks (some (.ref x) :: l) (st) h = wps rm K Q c_M_cut_90 kc ks (some (.ref x) :: l) (.ref x :: st) h := rfl
theorem s_M_cut_90 {x : Nat} : wps rm K Q c_M_cut_90 kc ks loc (.ref (x + 1) :: st) h = eg_gf h x 12 39 (fun v => wps rm K Q c_M_cut_93 kc ks loc (v :: st) h) := rfl
theorem s_M_cut_93 {x : Int64} {l0 l1 l2 l3 l4 l5 l6 l7 l8 l9 : Option Value} {l : eg_Lo} : wps rm K Q c_M_cut_93 kc ks (l0 :: l1 :: l2 :: l3 :: l4 :: l5 :: l6 :: l7 :: l8 :: l9 :: some (.long x) :: l) (st) h = wps rm K Q c_M_cut_95 kc ks (l0 :: l1 :: l2 :: l3 :: l4 :: l5 :: l6 :: l7 :: l8 :: l9 :: some (.long x) :: l) (.long x :: st) h := rfl
theorem s_M_cut_95 {x y : Int64} : wps rm K Q c_M_cut_95 kc ks loc (.long y :: .long x :: st) h = wps rm K Q c_M_cut_96 kc ks loc (.long (x * y) :: st) h := rfl
theorem s_M_cut_96 {x y : Int64} : wps rm K Q c_M_cut_96 kc ks loc (.long y :: .long x :: st) h = wps rm K Q c_M_cut_97 kc ks loc (.int (lg_cmp x y) :: st) h := rfl
theorem s_M_cut_97 {x : Int32} : wps rm K Q c_M_cut_97 kc ks loc (.int x :: st) h = ((x ≤ 0 → K 112 kc ks loc st h) ∧ (¬ x ≤ 0 → wps rm K Q c_M_cut_100 kc ks loc (st) h)) := rfl
theorem s_M_cut_100 {x : Nat} {l : eg_Lo} : wps rm K Q c_M_cut_100 kc ks (some (.ref x) :: l) (st) h = wps rm K Q c_M_cut_101 kc ks (some (.ref x) :: l) (.ref x :: st) h := rfl
theorem s_M_cut_101 {x : Int64} {l0 l1 l2 l3 l4 l5 : Option Value} {l : eg_Lo} : wps rm K Q c_M_cut_101 kc ks (l0 :: l1 :: l2 :: l3 :: l4 :: l5 :: some (.long x) :: l) (st) h = wps rm K Q c_M_cut_103 kc ks (l0 :: l1 :: l2 :: l3 :: l4 :: l5 :: some (.long x) :: l) (.long x :: st) h := rfl
theorem s_M_cut_103 {x : Nat} {v : Value} : wps rm K Q c_M_cut_103 kc ks loc (v :: .ref (x + 1) :: st) h = eg_pf h x 12 39 v (fun h9 => wps rm K Q c_M_cut_106 kc ks loc (st) h9) := rfl
theorem s_M_cut_106 {x : Nat} {l : eg_Lo} : wps rm K Q c_M_cut_106 kc ks (some (.ref x) :: l) (st) h = wps rm K Q c_M_cut_107 kc ks (some (.ref x) :: l) (.ref x :: st) h := rfl
theorem s_M_cut_107 {x : Int64} {l0 l1 l2 l3 l4 l5 l6 l7 l8 l9 : Option Value} {l : eg_Lo} : wps rm K Q c_M_cut_107 kc ks (l0 :: l1 :: l2 :: l3 :: l4 :: l5 :: l6 :: l7 :: l8 :: l9 :: some (.long x) :: l) (st) h = wps rm K Q c_M_cut_109 kc ks (l0 :: l1 :: l2 :: l3 :: l4 :: l5 :: l6 :: l7 :: l8 :: l9 :: some (.long x) :: l) (.long x :: st) h := rfl
theorem s_M_cut_109 {x : Nat} {v : Value} : wps rm K Q c_M_cut_109 kc ks loc (v :: .ref (x + 1) :: st) h = eg_pf h x 12 40 v (fun h9 => wps rm K Q c_M_cut_112 kc ks loc (st) h9) := rfl
theorem s_M_cut_112 {x : Int64} {l0 l1 l2 l3 l4 l5 l6 l7 : Option Value} {l : eg_Lo} : wps rm K Q c_M_cut_112 kc ks (l0 :: l1 :: l2 :: l3 :: l4 :: l5 :: l6 :: l7 :: some (.long x) :: l) (st) h = wps rm K Q c_M_cut_114 kc ks (l0 :: l1 :: l2 :: l3 :: l4 :: l5 :: l6 :: l7 :: some (.long x) :: l) (.long x :: st) h := rfl
theorem s_M_cut_114 {x : Nat} {l : eg_Lo} : wps rm K Q c_M_cut_114 kc ks (some (.ref x) :: l) (st) h = wps rm K Q c_M_cut_115 kc ks (some (.ref x) :: l) (.ref x :: st) h := rfl
theorem s_M_cut_115 {x : Nat} : wps rm K Q c_M_cut_115 kc ks loc (.ref (x + 1) :: st) h = eg_gf h x 12 42 (fun v => wps rm K Q c_M_cut_118 kc ks loc (v :: st) h) := rfl
theorem s_M_cut_118 {x y : Int64} : wps rm K Q c_M_cut_118 kc ks loc (.long y :: .long x :: st) h = wps rm K Q c_M_cut_119 kc ks loc (.long (x * y) :: st) h := rfl
theorem s_M_cut_119 {x : Nat} {l : eg_Lo} : wps rm K Q c_M_cut_119 kc ks (some (.ref x) :: l) (st) h = wps rm K Q c_M_cut_120 kc ks (some (.ref x) :: l) (.ref x :: st) h := rfl
theorem s_M_cut_120 {x : Nat} : wps rm K Q c_M_cut_120 kc ks loc (.ref (x + 1) :: st) h = eg_gf h x 12 41 (fun v => wps rm K Q c_M_cut_123 kc ks loc (v :: st) h) := rfl
theorem s_M_cut_123 {x : Int64} {l0 l1 l2 l3 l4 l5 l6 l7 l8 l9 : Option Value} {l : eg_Lo} : wps rm K Q c_M_cut_123 kc ks (l0 :: l1 :: l2 :: l3 :: l4 :: l5 :: l6 :: l7 :: l8 :: l9 :: some (.long x) :: l) (st) h = wps rm K Q c_M_cut_125 kc ks (l0 :: l1 :: l2 :: l3 :: l4 :: l5 :: l6 :: l7 :: l8 :: l9 :: some (.long x) :: l) (.long x :: st) h := rfl
theorem s_M_cut_125 {x y : Int64} : wps rm K Q c_M_cut_125 kc ks loc (.long y :: .long x :: st) h = wps rm K Q c_M_cut_126 kc ks loc (.long (x * y) :: st) h := rfl
theorem s_M_cut_126 {x y : Int64} : wps rm K Q c_M_cut_126 kc ks loc (.long y :: .long x :: st) h = wps rm K Q c_M_cut_127 kc ks loc (.int (lg_cmp x y) :: st) h := rfl
theorem s_M_cut_127 {x : Int32} : wps rm K Q c_M_cut_127 kc ks loc (.int x :: st) h = ((0 ≤ x → K 142 kc ks loc st h) ∧ (¬ 0 ≤ x → wps rm K Q c_M_cut_130 kc ks loc (st) h)) := rfl
theorem s_M_cut_130 {x : Nat} {l : eg_Lo} : wps rm K Q c_M_cut_130 kc ks (some (.ref x) :: l) (st) h = wps rm K Q c_M_cut_131 kc ks (some (.ref x) :: l) (.ref x :: st) h := rfl
theorem s_M_cut_131 {x : Int64} {l0 l1 l2 l3 l4 l5 l6 l7 : Option Value} {l : eg_Lo} : wps rm K Q c_M_cut_131 kc ks (l0 :: l1 :: l2 :: l3 :: l4 :: l5 :: l6 :: l7 :: some (.long x) :: l) (st) h = wps rm K Q c_M_cut_133 kc ks (l0 :: l1 :: l2 :: l3 :: l4 :: l5 :: l6 :: l7 :: some (.long x) :: l) (.long x :: st) h := rfl
theorem s_M_cut_133 {x : Nat} {v : Value} : wps rm K Q c_M_cut_133 kc ks loc (v :: .ref (x + 1) :: st) h = eg_pf h x 12 41 v (fun h9 => wps rm K Q c_M_cut_136 kc ks loc (st) h9) := rfl
theorem s_M_cut_136 {x : Nat} {l : eg_Lo} : wps rm K Q c_M_cut_136 kc ks (some (.ref x) :: l) (st) h = wps rm K Q c_M_cut_137 kc ks (some (.ref x) :: l) (.ref x :: st) h := rfl
theorem s_M_cut_137 {x : Int64} {l0 l1 l2 l3 l4 l5 l6 l7 l8 l9 : Option Value} {l : eg_Lo} : wps rm K Q c_M_cut_137 kc ks (l0 :: l1 :: l2 :: l3 :: l4 :: l5 :: l6 :: l7 :: l8 :: l9 :: some (.long x) :: l) (st) h = wps rm K Q c_M_cut_139 kc ks (l0 :: l1 :: l2 :: l3 :: l4 :: l5 :: l6 :: l7 :: l8 :: l9 :: some (.long x) :: l) (.long x :: st) h := rfl
theorem s_M_cut_139 {x : Nat} {v : Value} : wps rm K Q c_M_cut_139 kc ks loc (v :: .ref (x + 1) :: st) h = eg_pf h x 12 42 v (fun h9 => wps rm K Q c_M_cut_142 kc ks loc (st) h9) := rfl
theorem s_M_cut_142  : wps rm K Q c_M_cut_142 kc ks loc (st) h = wps rm K Q c_M_cut_143 kc ks loc (.int (1) :: st) h := rfl
theorem s_M_cut_143 {x : Int32} : wps rm K Q c_M_cut_143 kc ks loc ([.int x]) h = (kc = rm.cells ∧ ((1 : Nat) = 1 → x = 0 ∨ x = 1) ∧ Q (some (.int x)) h) := rfl
def T_M_cut : List (Nat × List eg_I) := [(25, c_M_cut_25), (26, c_M_cut_26), (27, c_M_cut_27), (39, c_M_cut_39), (44, c_M_cut_44), (59, c_M_cut_59), (63, c_M_cut_63), (76, c_M_cut_76), (80, c_M_cut_80), (112, c_M_cut_112), (142, c_M_cut_142)]
theorem j_M_cut_25 {R : Nat → Nat → Nat → eg_Lo → List Value → List eg_E → Prop} {f pc0 : Nat} : eg_run rm R Q T_M_cut (f + 1) 25 kc ks loc st h = wps rm (eg_run rm R Q T_M_cut f) Q c_M_cut_25 kc ks loc st h := rfl
theorem j_M_cut_26 {R : Nat → Nat → Nat → eg_Lo → List Value → List eg_E → Prop} {f pc0 : Nat} : eg_run rm R Q T_M_cut (f + 1) 26 kc ks loc st h = wps rm (eg_run rm R Q T_M_cut f) Q c_M_cut_26 kc ks loc st h := rfl
theorem j_M_cut_27 {R : Nat → Nat → Nat → eg_Lo → List Value → List eg_E → Prop} {f pc0 : Nat} : eg_run rm R Q T_M_cut (f + 1) 27 kc ks loc st h = wps rm (eg_run rm R Q T_M_cut f) Q c_M_cut_27 kc ks loc st h := rfl
theorem j_M_cut_39 {R : Nat → Nat → Nat → eg_Lo → List Value → List eg_E → Prop} {f pc0 : Nat} : eg_run rm R Q T_M_cut (f + 1) 39 kc ks loc st h = wps rm (eg_run rm R Q T_M_cut f) Q c_M_cut_39 kc ks loc st h := rfl
theorem j_M_cut_44 {R : Nat → Nat → Nat → eg_Lo → List Value → List eg_E → Prop} {f pc0 : Nat} : eg_run rm R Q T_M_cut (f + 1) 44 kc ks loc st h = wps rm (eg_run rm R Q T_M_cut f) Q c_M_cut_44 kc ks loc st h := rfl
theorem j_M_cut_59 {R : Nat → Nat → Nat → eg_Lo → List Value → List eg_E → Prop} {f pc0 : Nat} : eg_run rm R Q T_M_cut (f + 1) 59 kc ks loc st h = wps rm (eg_run rm R Q T_M_cut f) Q c_M_cut_59 kc ks loc st h := rfl
theorem j_M_cut_63 {R : Nat → Nat → Nat → eg_Lo → List Value → List eg_E → Prop} {f pc0 : Nat} : eg_run rm R Q T_M_cut (f + 1) 63 kc ks loc st h = wps rm (eg_run rm R Q T_M_cut f) Q c_M_cut_63 kc ks loc st h := rfl
theorem j_M_cut_76 {R : Nat → Nat → Nat → eg_Lo → List Value → List eg_E → Prop} {f pc0 : Nat} : eg_run rm R Q T_M_cut (f + 1) 76 kc ks loc st h = wps rm (eg_run rm R Q T_M_cut f) Q c_M_cut_76 kc ks loc st h := rfl
theorem j_M_cut_80 {R : Nat → Nat → Nat → eg_Lo → List Value → List eg_E → Prop} {f pc0 : Nat} : eg_run rm R Q T_M_cut (f + 1) 80 kc ks loc st h = wps rm (eg_run rm R Q T_M_cut f) Q c_M_cut_80 kc ks loc st h := rfl
theorem j_M_cut_112 {R : Nat → Nat → Nat → eg_Lo → List Value → List eg_E → Prop} {f pc0 : Nat} : eg_run rm R Q T_M_cut (f + 1) 112 kc ks loc st h = wps rm (eg_run rm R Q T_M_cut f) Q c_M_cut_112 kc ks loc st h := rfl
theorem j_M_cut_142 {R : Nat → Nat → Nat → eg_Lo → List Value → List eg_E → Prop} {f pc0 : Nat} : eg_run rm R Q T_M_cut (f + 1) 142 kc ks loc st h = wps rm (eg_run rm R Q T_M_cut f) Q c_M_cut_142 kc ks loc st h := rfl
end
theorem q_M_cut : (T_M_cut.all fun q => eg_seq m_M_cut q.1 q.2) = true := by decide +kernel
theorem b_M_cut {as : List Value} {h : List eg_E} {Q : Option Value → List eg_E → Prop} (hf : (eg_fl as).length ≤ 12) (hw : wps (eg_rm m_M_cut) (eg_run (eg_rm m_M_cut) (eg_R m_M_cut Q (h.length + 0)) Q T_M_cut 13) Q c_M_cut_0 0 0 (eg_entry 12 as) [] h) : eg_Runs n_M_cut as h Q := eg_begin (d := m_M_cut) rfl (by decide) (by decide +kernel) q_M_cut hf hw
/-! ===== M_goesInto ===== -/
def c_M_goesInto_209 : List eg_I := .inl (209, 1, .ireturn, 0, 1) :: []
def c_M_goesInto_208 : List eg_I := .inl (208, 1, .iconst (0), 0, 0) :: c_M_goesInto_209
def c_M_goesInto_205 : List eg_I := .inl (205, 3, .goto (4), 209, 0) :: []
def c_M_goesInto_204 : List eg_I := .inl (204, 1, .iconst (1), 0, 0) :: c_M_goesInto_205
def c_M_goesInto_201 : List eg_I := .inl (201, 3, .ifCond .le (7), 208, 0) :: c_M_goesInto_204
def c_M_goesInto_200 : List eg_I := .inl (200, 1, .lcmp, 0, 0) :: c_M_goesInto_201
def c_M_goesInto_199 : List eg_I := .inl (199, 1, .sipush (0), 0, 0) :: c_M_goesInto_200
def c_M_goesInto_196 : List eg_I := .inl (196, 3, .getfield 308, 12, 41) :: c_M_goesInto_199
def c_M_goesInto_195 : List eg_I := .inl (195, 1, .aload 0, 0, 0) :: c_M_goesInto_196
def c_M_goesInto_192 : List eg_I := .inl (192, 3, .ifCond .ge (16), 208, 0) :: c_M_goesInto_195
def c_M_goesInto_191 : List eg_I := .inl (191, 1, .lcmp, 0, 0) :: c_M_goesInto_192
def c_M_goesInto_188 : List eg_I := .inl (188, 3, .getfield 299, 12, 40) :: c_M_goesInto_191
def c_M_goesInto_187 : List eg_I := .inl (187, 1, .aload 0, 0, 0) :: c_M_goesInto_188
def c_M_goesInto_184 : List eg_I := .inl (184, 3, .getfield 302, 12, 39) :: c_M_goesInto_187
def c_M_goesInto_183 : List eg_I := .inl (183, 1, .aload 0, 0, 0) :: c_M_goesInto_184
def c_M_goesInto_180 : List eg_I := .inl (180, 3, .ifCond .ge (28), 208, 0) :: c_M_goesInto_183
def c_M_goesInto_179 : List eg_I := .inl (179, 1, .lcmp, 0, 0) :: c_M_goesInto_180
def c_M_goesInto_178 : List eg_I := .inl (178, 1, .lmul, 0, 0) :: c_M_goesInto_179
def c_M_goesInto_175 : List eg_I := .inl (175, 3, .getfield 299, 12, 40) :: c_M_goesInto_178
def c_M_goesInto_174 : List eg_I := .inl (174, 1, .aload 0, 0, 0) :: c_M_goesInto_175
def c_M_goesInto_171 : List eg_I := .inl (171, 3, .getfield 308, 12, 41) :: c_M_goesInto_174
def c_M_goesInto_170 : List eg_I := .inl (170, 1, .aload 0, 0, 0) :: c_M_goesInto_171
def c_M_goesInto_169 : List eg_I := .inl (169, 1, .lmul, 0, 0) :: c_M_goesInto_170
def c_M_goesInto_166 : List eg_I := .inl (166, 3, .getfield 305, 12, 42) :: c_M_goesInto_169
def c_M_goesInto_165 : List eg_I := .inl (165, 1, .aload 0, 0, 0) :: c_M_goesInto_166
def c_M_goesInto_162 : List eg_I := .inl (162, 3, .getfield 302, 12, 39) :: c_M_goesInto_165
def c_M_goesInto_161 : List eg_I := .inl (161, 1, .aload 0, 0, 0) :: c_M_goesInto_162
def c_M_goesInto_158 : List eg_I := .inl (158, 3, .ifCond .eq (50), 208, 0) :: c_M_goesInto_161
def c_M_goesInto_156 : List eg_I := .inl (156, 2, .iload 4, 0, 0) :: c_M_goesInto_158
def c_M_goesInto_154 : List eg_I := .inl (154, 2, .istore 4, 0, 0) :: c_M_goesInto_156
def c_M_goesInto_153 : List eg_I := .inl (153, 1, .iconst (0), 0, 0) :: c_M_goesInto_154
def c_M_goesInto_150 : List eg_I := .inl (150, 3, .goto (4), 154, 0) :: []
def c_M_goesInto_149 : List eg_I := .inl (149, 1, .iconst (1), 0, 0) :: c_M_goesInto_150
def c_M_goesInto_146 : List eg_I := .inl (146, 3, .ifCond .eq (7), 153, 0) :: c_M_goesInto_149
def c_M_goesInto_143 : List eg_I := .inr (143, 1, 315, n_M_cut, 4, 12, 0, 0) :: c_M_goesInto_146
def c_M_goesInto_142 : List eg_I := .inl (142, 1, .iaload, 0, 0) :: c_M_goesInto_143
def c_M_goesInto_141 : List eg_I := .inl (141, 1, .iadd, 0, 0) :: c_M_goesInto_142
def c_M_goesInto_140 : List eg_I := .inl (140, 1, .iconst (5), 0, 0) :: c_M_goesInto_141
def c_M_goesInto_139 : List eg_I := .inl (139, 1, .imul, 0, 0) :: c_M_goesInto_140
def c_M_goesInto_138 : List eg_I := .inl (138, 1, .iload 1, 0, 0) :: c_M_goesInto_139
def c_M_goesInto_136 : List eg_I := .inl (136, 2, .iconst (6), 0, 0) :: c_M_goesInto_138
def c_M_goesInto_133 : List eg_I := .inl (133, 3, .getfield 66, 12, 21) :: c_M_goesInto_136
def c_M_goesInto_132 : List eg_I := .inl (132, 1, .aload 0, 0, 0) :: c_M_goesInto_133
def c_M_goesInto_131 : List eg_I := .inl (131, 1, .iaload, 0, 0) :: c_M_goesInto_132
def c_M_goesInto_130 : List eg_I := .inl (130, 1, .iadd, 0, 0) :: c_M_goesInto_131
def c_M_goesInto_129 : List eg_I := .inl (129, 1, .iconst (4), 0, 0) :: c_M_goesInto_130
def c_M_goesInto_128 : List eg_I := .inl (128, 1, .imul, 0, 0) :: c_M_goesInto_129
def c_M_goesInto_127 : List eg_I := .inl (127, 1, .iload 1, 0, 0) :: c_M_goesInto_128
def c_M_goesInto_125 : List eg_I := .inl (125, 2, .iconst (6), 0, 0) :: c_M_goesInto_127
def c_M_goesInto_122 : List eg_I := .inl (122, 3, .getfield 66, 12, 21) :: c_M_goesInto_125
def c_M_goesInto_121 : List eg_I := .inl (121, 1, .aload 0, 0, 0) :: c_M_goesInto_122
def c_M_goesInto_120 : List eg_I := .inl (120, 1, .iaload, 0, 0) :: c_M_goesInto_121
def c_M_goesInto_119 : List eg_I := .inl (119, 1, .iload 3, 0, 0) :: c_M_goesInto_120
def c_M_goesInto_116 : List eg_I := .inl (116, 3, .getfield 19, 12, 3) :: c_M_goesInto_119
def c_M_goesInto_115 : List eg_I := .inl (115, 1, .aload 0, 0, 0) :: c_M_goesInto_116
def c_M_goesInto_114 : List eg_I := .inl (114, 1, .iaload, 0, 0) :: c_M_goesInto_115
def c_M_goesInto_113 : List eg_I := .inl (113, 1, .iload 2, 0, 0) :: c_M_goesInto_114
def c_M_goesInto_110 : List eg_I := .inl (110, 3, .getfield 19, 12, 3) :: c_M_goesInto_113
def c_M_goesInto_109 : List eg_I := .inl (109, 1, .aload 0, 0, 0) :: c_M_goesInto_110
def c_M_goesInto_108 : List eg_I := .inl (108, 1, .aload 0, 0, 0) :: c_M_goesInto_109
def c_M_goesInto_105 : List eg_I := .inl (105, 3, .ifCond .eq (48), 153, 0) :: c_M_goesInto_108
def c_M_goesInto_102 : List eg_I := .inr (102, 1, 315, n_M_cut, 4, 12, 0, 0) :: c_M_goesInto_105
def c_M_goesInto_101 : List eg_I := .inl (101, 1, .iaload, 0, 0) :: c_M_goesInto_102
def c_M_goesInto_100 : List eg_I := .inl (100, 1, .iadd, 0, 0) :: c_M_goesInto_101
def c_M_goesInto_99 : List eg_I := .inl (99, 1, .iconst (3), 0, 0) :: c_M_goesInto_100
def c_M_goesInto_98 : List eg_I := .inl (98, 1, .imul, 0, 0) :: c_M_goesInto_99
def c_M_goesInto_97 : List eg_I := .inl (97, 1, .iload 1, 0, 0) :: c_M_goesInto_98
def c_M_goesInto_95 : List eg_I := .inl (95, 2, .iconst (6), 0, 0) :: c_M_goesInto_97
def c_M_goesInto_92 : List eg_I := .inl (92, 3, .getfield 66, 12, 21) :: c_M_goesInto_95
def c_M_goesInto_91 : List eg_I := .inl (91, 1, .aload 0, 0, 0) :: c_M_goesInto_92
def c_M_goesInto_90 : List eg_I := .inl (90, 1, .iaload, 0, 0) :: c_M_goesInto_91
def c_M_goesInto_89 : List eg_I := .inl (89, 1, .iadd, 0, 0) :: c_M_goesInto_90
def c_M_goesInto_88 : List eg_I := .inl (88, 1, .iconst (2), 0, 0) :: c_M_goesInto_89
def c_M_goesInto_87 : List eg_I := .inl (87, 1, .imul, 0, 0) :: c_M_goesInto_88
def c_M_goesInto_86 : List eg_I := .inl (86, 1, .iload 1, 0, 0) :: c_M_goesInto_87
def c_M_goesInto_84 : List eg_I := .inl (84, 2, .iconst (6), 0, 0) :: c_M_goesInto_86
def c_M_goesInto_81 : List eg_I := .inl (81, 3, .getfield 66, 12, 21) :: c_M_goesInto_84
def c_M_goesInto_80 : List eg_I := .inl (80, 1, .aload 0, 0, 0) :: c_M_goesInto_81
def c_M_goesInto_79 : List eg_I := .inl (79, 1, .iaload, 0, 0) :: c_M_goesInto_80
def c_M_goesInto_78 : List eg_I := .inl (78, 1, .iload 3, 0, 0) :: c_M_goesInto_79
def c_M_goesInto_75 : List eg_I := .inl (75, 3, .getfield 16, 12, 2) :: c_M_goesInto_78
def c_M_goesInto_74 : List eg_I := .inl (74, 1, .aload 0, 0, 0) :: c_M_goesInto_75
def c_M_goesInto_73 : List eg_I := .inl (73, 1, .iaload, 0, 0) :: c_M_goesInto_74
def c_M_goesInto_72 : List eg_I := .inl (72, 1, .iload 2, 0, 0) :: c_M_goesInto_73
def c_M_goesInto_69 : List eg_I := .inl (69, 3, .getfield 16, 12, 2) :: c_M_goesInto_72
def c_M_goesInto_68 : List eg_I := .inl (68, 1, .aload 0, 0, 0) :: c_M_goesInto_69
def c_M_goesInto_67 : List eg_I := .inl (67, 1, .aload 0, 0, 0) :: c_M_goesInto_68
def c_M_goesInto_64 : List eg_I := .inl (64, 3, .ifCond .eq (89), 153, 0) :: c_M_goesInto_67
def c_M_goesInto_61 : List eg_I := .inr (61, 1, 315, n_M_cut, 4, 12, 0, 0) :: c_M_goesInto_64
def c_M_goesInto_60 : List eg_I := .inl (60, 1, .iaload, 0, 0) :: c_M_goesInto_61
def c_M_goesInto_59 : List eg_I := .inl (59, 1, .iadd, 0, 0) :: c_M_goesInto_60
def c_M_goesInto_58 : List eg_I := .inl (58, 1, .iconst (1), 0, 0) :: c_M_goesInto_59
def c_M_goesInto_57 : List eg_I := .inl (57, 1, .imul, 0, 0) :: c_M_goesInto_58
def c_M_goesInto_56 : List eg_I := .inl (56, 1, .iload 1, 0, 0) :: c_M_goesInto_57
def c_M_goesInto_54 : List eg_I := .inl (54, 2, .iconst (6), 0, 0) :: c_M_goesInto_56
def c_M_goesInto_51 : List eg_I := .inl (51, 3, .getfield 66, 12, 21) :: c_M_goesInto_54
def c_M_goesInto_50 : List eg_I := .inl (50, 1, .aload 0, 0, 0) :: c_M_goesInto_51
def c_M_goesInto_49 : List eg_I := .inl (49, 1, .iaload, 0, 0) :: c_M_goesInto_50
def c_M_goesInto_48 : List eg_I := .inl (48, 1, .imul, 0, 0) :: c_M_goesInto_49
def c_M_goesInto_47 : List eg_I := .inl (47, 1, .iload 1, 0, 0) :: c_M_goesInto_48
def c_M_goesInto_45 : List eg_I := .inl (45, 2, .iconst (6), 0, 0) :: c_M_goesInto_47
def c_M_goesInto_42 : List eg_I := .inl (42, 3, .getfield 66, 12, 21) :: c_M_goesInto_45
def c_M_goesInto_41 : List eg_I := .inl (41, 1, .aload 0, 0, 0) :: c_M_goesInto_42
def c_M_goesInto_40 : List eg_I := .inl (40, 1, .iaload, 0, 0) :: c_M_goesInto_41
def c_M_goesInto_39 : List eg_I := .inl (39, 1, .iload 3, 0, 0) :: c_M_goesInto_40
def c_M_goesInto_36 : List eg_I := .inl (36, 3, .getfield 13, 12, 1) :: c_M_goesInto_39
def c_M_goesInto_35 : List eg_I := .inl (35, 1, .aload 0, 0, 0) :: c_M_goesInto_36
def c_M_goesInto_34 : List eg_I := .inl (34, 1, .iaload, 0, 0) :: c_M_goesInto_35
def c_M_goesInto_33 : List eg_I := .inl (33, 1, .iload 2, 0, 0) :: c_M_goesInto_34
def c_M_goesInto_30 : List eg_I := .inl (30, 3, .getfield 13, 12, 1) :: c_M_goesInto_33
def c_M_goesInto_29 : List eg_I := .inl (29, 1, .aload 0, 0, 0) :: c_M_goesInto_30
def c_M_goesInto_28 : List eg_I := .inl (28, 1, .aload 0, 0, 0) :: c_M_goesInto_29
def c_M_goesInto_25 : List eg_I := .inl (25, 3, .putfield 305, 12, 42) :: c_M_goesInto_28
def c_M_goesInto_22 : List eg_I := .inl (22, 3, .sipush (1000000), 311, 0) :: c_M_goesInto_25
def c_M_goesInto_21 : List eg_I := .inl (21, 1, .aload 0, 0, 0) :: c_M_goesInto_22
def c_M_goesInto_18 : List eg_I := .inl (18, 3, .putfield 308, 12, 41) :: c_M_goesInto_21
def c_M_goesInto_15 : List eg_I := .inl (15, 3, .sipush (1000001), 313, 0) :: c_M_goesInto_18
def c_M_goesInto_14 : List eg_I := .inl (14, 1, .aload 0, 0, 0) :: c_M_goesInto_15
def c_M_goesInto_11 : List eg_I := .inl (11, 3, .putfield 299, 12, 40) :: c_M_goesInto_14
def c_M_goesInto_8 : List eg_I := .inl (8, 3, .sipush (1000000), 311, 0) :: c_M_goesInto_11
def c_M_goesInto_7 : List eg_I := .inl (7, 1, .aload 0, 0, 0) :: c_M_goesInto_8
def c_M_goesInto_4 : List eg_I := .inl (4, 3, .putfield 302, 12, 39) :: c_M_goesInto_7
def c_M_goesInto_1 : List eg_I := .inl (1, 3, .sipush (-1), 136, 0) :: c_M_goesInto_4
def c_M_goesInto_0 : List eg_I := .inl (0, 1, .aload 0, 0, 0) :: c_M_goesInto_1
section
variable {rm : Room} {K : Nat → Nat → Nat → eg_Lo → List Value → List eg_E → Prop} {Q : Option Value → List eg_E → Prop} {kc ks : Nat} {loc : eg_Lo} {st : List Value} {h : List eg_E}
theorem s_M_goesInto_0 {x : Nat} {l : eg_Lo} : wps rm K Q c_M_goesInto_0 kc ks (some (.ref x) :: l) (st) h = wps rm K Q c_M_goesInto_1 kc ks (some (.ref x) :: l) (.ref x :: st) h := rfl
theorem s_M_goesInto_1  : wps rm K Q c_M_goesInto_1 kc ks loc (st) h = wps rm K Q c_M_goesInto_4 kc ks loc (.long (-1) :: st) h := rfl
theorem s_M_goesInto_4 {x : Nat} {v : Value} : wps rm K Q c_M_goesInto_4 kc ks loc (v :: .ref (x + 1) :: st) h = eg_pf h x 12 39 v (fun h9 => wps rm K Q c_M_goesInto_7 kc ks loc (st) h9) := rfl
theorem s_M_goesInto_7 {x : Nat} {l : eg_Lo} : wps rm K Q c_M_goesInto_7 kc ks (some (.ref x) :: l) (st) h = wps rm K Q c_M_goesInto_8 kc ks (some (.ref x) :: l) (.ref x :: st) h := rfl
theorem s_M_goesInto_8  : wps rm K Q c_M_goesInto_8 kc ks loc (st) h = wps rm K Q c_M_goesInto_11 kc ks loc (.long (1000000) :: st) h := rfl
theorem s_M_goesInto_11 {x : Nat} {v : Value} : wps rm K Q c_M_goesInto_11 kc ks loc (v :: .ref (x + 1) :: st) h = eg_pf h x 12 40 v (fun h9 => wps rm K Q c_M_goesInto_14 kc ks loc (st) h9) := rfl
theorem s_M_goesInto_14 {x : Nat} {l : eg_Lo} : wps rm K Q c_M_goesInto_14 kc ks (some (.ref x) :: l) (st) h = wps rm K Q c_M_goesInto_15 kc ks (some (.ref x) :: l) (.ref x :: st) h := rfl
theorem s_M_goesInto_15  : wps rm K Q c_M_goesInto_15 kc ks loc (st) h = wps rm K Q c_M_goesInto_18 kc ks loc (.long (1000001) :: st) h := rfl
theorem s_M_goesInto_18 {x : Nat} {v : Value} : wps rm K Q c_M_goesInto_18 kc ks loc (v :: .ref (x + 1) :: st) h = eg_pf h x 12 41 v (fun h9 => wps rm K Q c_M_goesInto_21 kc ks loc (st) h9) := rfl
theorem s_M_goesInto_21 {x : Nat} {l : eg_Lo} : wps rm K Q c_M_goesInto_21 kc ks (some (.ref x) :: l) (st) h = wps rm K Q c_M_goesInto_22 kc ks (some (.ref x) :: l) (.ref x :: st) h := rfl
theorem s_M_goesInto_22  : wps rm K Q c_M_goesInto_22 kc ks loc (st) h = wps rm K Q c_M_goesInto_25 kc ks loc (.long (1000000) :: st) h := rfl
theorem s_M_goesInto_25 {x : Nat} {v : Value} : wps rm K Q c_M_goesInto_25 kc ks loc (v :: .ref (x + 1) :: st) h = eg_pf h x 12 42 v (fun h9 => wps rm K Q c_M_goesInto_28 kc ks loc (st) h9) := rfl
theorem s_M_goesInto_28 {x : Nat} {l : eg_Lo} : wps rm K Q c_M_goesInto_28 kc ks (some (.ref x) :: l) (st) h = wps rm K Q c_M_goesInto_29 kc ks (some (.ref x) :: l) (.ref x :: st) h := rfl
theorem s_M_goesInto_29 {x : Nat} {l : eg_Lo} : wps rm K Q c_M_goesInto_29 kc ks (some (.ref x) :: l) (st) h = wps rm K Q c_M_goesInto_30 kc ks (some (.ref x) :: l) (.ref x :: st) h := rfl
theorem s_M_goesInto_30 {x : Nat} : wps rm K Q c_M_goesInto_30 kc ks loc (.ref (x + 1) :: st) h = eg_gf h x 12 1 (fun v => wps rm K Q c_M_goesInto_33 kc ks loc (v :: st) h) := rfl
theorem s_M_goesInto_33 {x : Int32} {l0 l1 : Option Value} {l : eg_Lo} : wps rm K Q c_M_goesInto_33 kc ks (l0 :: l1 :: some (.int x) :: l) (st) h = wps rm K Q c_M_goesInto_34 kc ks (l0 :: l1 :: some (.int x) :: l) (.int x :: st) h := rfl
theorem s_M_goesInto_34 {x : Nat} {i : Int32} : wps rm K Q c_M_goesInto_34 kc ks loc (.int i :: .ref (x + 1) :: st) h = eg_ia h x i (fun v => wps rm K Q c_M_goesInto_35 kc ks loc (.int v :: st) h) := rfl
theorem s_M_goesInto_35 {x : Nat} {l : eg_Lo} : wps rm K Q c_M_goesInto_35 kc ks (some (.ref x) :: l) (st) h = wps rm K Q c_M_goesInto_36 kc ks (some (.ref x) :: l) (.ref x :: st) h := rfl
theorem s_M_goesInto_36 {x : Nat} : wps rm K Q c_M_goesInto_36 kc ks loc (.ref (x + 1) :: st) h = eg_gf h x 12 1 (fun v => wps rm K Q c_M_goesInto_39 kc ks loc (v :: st) h) := rfl
theorem s_M_goesInto_39 {x : Int32} {l0 l1 l2 : Option Value} {l : eg_Lo} : wps rm K Q c_M_goesInto_39 kc ks (l0 :: l1 :: l2 :: some (.int x) :: l) (st) h = wps rm K Q c_M_goesInto_40 kc ks (l0 :: l1 :: l2 :: some (.int x) :: l) (.int x :: st) h := rfl
theorem s_M_goesInto_40 {x : Nat} {i : Int32} : wps rm K Q c_M_goesInto_40 kc ks loc (.int i :: .ref (x + 1) :: st) h = eg_ia h x i (fun v => wps rm K Q c_M_goesInto_41 kc ks loc (.int v :: st) h) := rfl
theorem s_M_goesInto_41 {x : Nat} {l : eg_Lo} : wps rm K Q c_M_goesInto_41 kc ks (some (.ref x) :: l) (st) h = wps rm K Q c_M_goesInto_42 kc ks (some (.ref x) :: l) (.ref x :: st) h := rfl
theorem s_M_goesInto_42 {x : Nat} : wps rm K Q c_M_goesInto_42 kc ks loc (.ref (x + 1) :: st) h = eg_gf h x 12 21 (fun v => wps rm K Q c_M_goesInto_45 kc ks loc (v :: st) h) := rfl
theorem s_M_goesInto_45  : wps rm K Q c_M_goesInto_45 kc ks loc (st) h = wps rm K Q c_M_goesInto_47 kc ks loc (.int (6) :: st) h := rfl
theorem s_M_goesInto_47 {x : Int32} {l0 : Option Value} {l : eg_Lo} : wps rm K Q c_M_goesInto_47 kc ks (l0 :: some (.int x) :: l) (st) h = wps rm K Q c_M_goesInto_48 kc ks (l0 :: some (.int x) :: l) (.int x :: st) h := rfl
theorem s_M_goesInto_48 {x y : Int32} : wps rm K Q c_M_goesInto_48 kc ks loc (.int y :: .int x :: st) h = wps rm K Q c_M_goesInto_49 kc ks loc (.int (x * y) :: st) h := rfl
theorem s_M_goesInto_49 {x : Nat} {i : Int32} : wps rm K Q c_M_goesInto_49 kc ks loc (.int i :: .ref (x + 1) :: st) h = eg_ia h x i (fun v => wps rm K Q c_M_goesInto_50 kc ks loc (.int v :: st) h) := rfl
theorem s_M_goesInto_50 {x : Nat} {l : eg_Lo} : wps rm K Q c_M_goesInto_50 kc ks (some (.ref x) :: l) (st) h = wps rm K Q c_M_goesInto_51 kc ks (some (.ref x) :: l) (.ref x :: st) h := rfl
theorem s_M_goesInto_51 {x : Nat} : wps rm K Q c_M_goesInto_51 kc ks loc (.ref (x + 1) :: st) h = eg_gf h x 12 21 (fun v => wps rm K Q c_M_goesInto_54 kc ks loc (v :: st) h) := rfl
theorem s_M_goesInto_54  : wps rm K Q c_M_goesInto_54 kc ks loc (st) h = wps rm K Q c_M_goesInto_56 kc ks loc (.int (6) :: st) h := rfl
theorem s_M_goesInto_56 {x : Int32} {l0 : Option Value} {l : eg_Lo} : wps rm K Q c_M_goesInto_56 kc ks (l0 :: some (.int x) :: l) (st) h = wps rm K Q c_M_goesInto_57 kc ks (l0 :: some (.int x) :: l) (.int x :: st) h := rfl
theorem s_M_goesInto_57 {x y : Int32} : wps rm K Q c_M_goesInto_57 kc ks loc (.int y :: .int x :: st) h = wps rm K Q c_M_goesInto_58 kc ks loc (.int (x * y) :: st) h := rfl
theorem s_M_goesInto_58  : wps rm K Q c_M_goesInto_58 kc ks loc (st) h = wps rm K Q c_M_goesInto_59 kc ks loc (.int (1) :: st) h := rfl
theorem s_M_goesInto_59 {x y : Int32} : wps rm K Q c_M_goesInto_59 kc ks loc (.int y :: .int x :: st) h = wps rm K Q c_M_goesInto_60 kc ks loc (.int (x + y) :: st) h := rfl
theorem s_M_goesInto_60 {x : Nat} {i : Int32} : wps rm K Q c_M_goesInto_60 kc ks loc (.int i :: .ref (x + 1) :: st) h = eg_ia h x i (fun v => wps rm K Q c_M_goesInto_61 kc ks loc (.int v :: st) h) := rfl
theorem s_M_goesInto_61  {a1 : Value} {a2 : Value} {a3 : Value} {a4 : Value} {x : Nat} : wps rm K Q c_M_goesInto_61 kc ks loc (a4 :: a3 :: a2 :: a1 :: .ref (x + 1) :: st) h = (eg_cls h x 12 ∧ st.length ≤ 4 ∧ eg_Cs n_M_cut (.ref (x + 1) :: [a1, a2, a3, a4]) h (fun v h9 => wps rm K Q c_M_goesInto_64 kc ks loc (v.toList ++ st) h9)) := eg_c1_4
theorem s_M_goesInto_64 {x : Int32} : wps rm K Q c_M_goesInto_64 kc ks loc (.int x :: st) h = ((x = 0 → K 153 kc ks loc st h) ∧ (¬ x = 0 → wps rm K Q c_M_goesInto_67 kc ks loc (st) h)) := rfl
theorem s_M_goesInto_67 {x : Nat} {l : eg_Lo} : wps rm K Q c_M_goesInto_67 kc ks (some (.ref x) :: l) (st) h = wps rm K Q c_M_goesInto_68 kc ks (some (.ref x) :: l) (.ref x :: st) h := rfl
theorem s_M_goesInto_68 {x : Nat} {l : eg_Lo} : wps rm K Q c_M_goesInto_68 kc ks (some (.ref x) :: l) (st) h = wps rm K Q c_M_goesInto_69 kc ks (some (.ref x) :: l) (.ref x :: st) h := rfl
theorem s_M_goesInto_69 {x : Nat} : wps rm K Q c_M_goesInto_69 kc ks loc (.ref (x + 1) :: st) h = eg_gf h x 12 2 (fun v => wps rm K Q c_M_goesInto_72 kc ks loc (v :: st) h) := rfl
theorem s_M_goesInto_72 {x : Int32} {l0 l1 : Option Value} {l : eg_Lo} : wps rm K Q c_M_goesInto_72 kc ks (l0 :: l1 :: some (.int x) :: l) (st) h = wps rm K Q c_M_goesInto_73 kc ks (l0 :: l1 :: some (.int x) :: l) (.int x :: st) h := rfl
theorem s_M_goesInto_73 {x : Nat} {i : Int32} : wps rm K Q c_M_goesInto_73 kc ks loc (.int i :: .ref (x + 1) :: st) h = eg_ia h x i (fun v => wps rm K Q c_M_goesInto_74 kc ks loc (.int v :: st) h) := rfl
theorem s_M_goesInto_74 {x : Nat} {l : eg_Lo} : wps rm K Q c_M_goesInto_74 kc ks (some (.ref x) :: l) (st) h = wps rm K Q c_M_goesInto_75 kc ks (some (.ref x) :: l) (.ref x :: st) h := rfl
theorem s_M_goesInto_75 {x : Nat} : wps rm K Q c_M_goesInto_75 kc ks loc (.ref (x + 1) :: st) h = eg_gf h x 12 2 (fun v => wps rm K Q c_M_goesInto_78 kc ks loc (v :: st) h) := rfl
theorem s_M_goesInto_78 {x : Int32} {l0 l1 l2 : Option Value} {l : eg_Lo} : wps rm K Q c_M_goesInto_78 kc ks (l0 :: l1 :: l2 :: some (.int x) :: l) (st) h = wps rm K Q c_M_goesInto_79 kc ks (l0 :: l1 :: l2 :: some (.int x) :: l) (.int x :: st) h := rfl
theorem s_M_goesInto_79 {x : Nat} {i : Int32} : wps rm K Q c_M_goesInto_79 kc ks loc (.int i :: .ref (x + 1) :: st) h = eg_ia h x i (fun v => wps rm K Q c_M_goesInto_80 kc ks loc (.int v :: st) h) := rfl
theorem s_M_goesInto_80 {x : Nat} {l : eg_Lo} : wps rm K Q c_M_goesInto_80 kc ks (some (.ref x) :: l) (st) h = wps rm K Q c_M_goesInto_81 kc ks (some (.ref x) :: l) (.ref x :: st) h := rfl
theorem s_M_goesInto_81 {x : Nat} : wps rm K Q c_M_goesInto_81 kc ks loc (.ref (x + 1) :: st) h = eg_gf h x 12 21 (fun v => wps rm K Q c_M_goesInto_84 kc ks loc (v :: st) h) := rfl
theorem s_M_goesInto_84  : wps rm K Q c_M_goesInto_84 kc ks loc (st) h = wps rm K Q c_M_goesInto_86 kc ks loc (.int (6) :: st) h := rfl
theorem s_M_goesInto_86 {x : Int32} {l0 : Option Value} {l : eg_Lo} : wps rm K Q c_M_goesInto_86 kc ks (l0 :: some (.int x) :: l) (st) h = wps rm K Q c_M_goesInto_87 kc ks (l0 :: some (.int x) :: l) (.int x :: st) h := rfl
theorem s_M_goesInto_87 {x y : Int32} : wps rm K Q c_M_goesInto_87 kc ks loc (.int y :: .int x :: st) h = wps rm K Q c_M_goesInto_88 kc ks loc (.int (x * y) :: st) h := rfl
theorem s_M_goesInto_88  : wps rm K Q c_M_goesInto_88 kc ks loc (st) h = wps rm K Q c_M_goesInto_89 kc ks loc (.int (2) :: st) h := rfl
theorem s_M_goesInto_89 {x y : Int32} : wps rm K Q c_M_goesInto_89 kc ks loc (.int y :: .int x :: st) h = wps rm K Q c_M_goesInto_90 kc ks loc (.int (x + y) :: st) h := rfl
theorem s_M_goesInto_90 {x : Nat} {i : Int32} : wps rm K Q c_M_goesInto_90 kc ks loc (.int i :: .ref (x + 1) :: st) h = eg_ia h x i (fun v => wps rm K Q c_M_goesInto_91 kc ks loc (.int v :: st) h) := rfl
theorem s_M_goesInto_91 {x : Nat} {l : eg_Lo} : wps rm K Q c_M_goesInto_91 kc ks (some (.ref x) :: l) (st) h = wps rm K Q c_M_goesInto_92 kc ks (some (.ref x) :: l) (.ref x :: st) h := rfl
theorem s_M_goesInto_92 {x : Nat} : wps rm K Q c_M_goesInto_92 kc ks loc (.ref (x + 1) :: st) h = eg_gf h x 12 21 (fun v => wps rm K Q c_M_goesInto_95 kc ks loc (v :: st) h) := rfl
theorem s_M_goesInto_95  : wps rm K Q c_M_goesInto_95 kc ks loc (st) h = wps rm K Q c_M_goesInto_97 kc ks loc (.int (6) :: st) h := rfl
theorem s_M_goesInto_97 {x : Int32} {l0 : Option Value} {l : eg_Lo} : wps rm K Q c_M_goesInto_97 kc ks (l0 :: some (.int x) :: l) (st) h = wps rm K Q c_M_goesInto_98 kc ks (l0 :: some (.int x) :: l) (.int x :: st) h := rfl
theorem s_M_goesInto_98 {x y : Int32} : wps rm K Q c_M_goesInto_98 kc ks loc (.int y :: .int x :: st) h = wps rm K Q c_M_goesInto_99 kc ks loc (.int (x * y) :: st) h := rfl
theorem s_M_goesInto_99  : wps rm K Q c_M_goesInto_99 kc ks loc (st) h = wps rm K Q c_M_goesInto_100 kc ks loc (.int (3) :: st) h := rfl
theorem s_M_goesInto_100 {x y : Int32} : wps rm K Q c_M_goesInto_100 kc ks loc (.int y :: .int x :: st) h = wps rm K Q c_M_goesInto_101 kc ks loc (.int (x + y) :: st) h := rfl
theorem s_M_goesInto_101 {x : Nat} {i : Int32} : wps rm K Q c_M_goesInto_101 kc ks loc (.int i :: .ref (x + 1) :: st) h = eg_ia h x i (fun v => wps rm K Q c_M_goesInto_102 kc ks loc (.int v :: st) h) := rfl
theorem s_M_goesInto_102  {a1 : Value} {a2 : Value} {a3 : Value} {a4 : Value} {x : Nat} : wps rm K Q c_M_goesInto_102 kc ks loc (a4 :: a3 :: a2 :: a1 :: .ref (x + 1) :: st) h = (eg_cls h x 12 ∧ st.length ≤ 4 ∧ eg_Cs n_M_cut (.ref (x + 1) :: [a1, a2, a3, a4]) h (fun v h9 => wps rm K Q c_M_goesInto_105 kc ks loc (v.toList ++ st) h9)) := eg_c1_4
theorem s_M_goesInto_105 {x : Int32} : wps rm K Q c_M_goesInto_105 kc ks loc (.int x :: st) h = ((x = 0 → K 153 kc ks loc st h) ∧ (¬ x = 0 → wps rm K Q c_M_goesInto_108 kc ks loc (st) h)) := rfl
theorem s_M_goesInto_108 {x : Nat} {l : eg_Lo} : wps rm K Q c_M_goesInto_108 kc ks (some (.ref x) :: l) (st) h = wps rm K Q c_M_goesInto_109 kc ks (some (.ref x) :: l) (.ref x :: st) h := rfl
theorem s_M_goesInto_109 {x : Nat} {l : eg_Lo} : wps rm K Q c_M_goesInto_109 kc ks (some (.ref x) :: l) (st) h = wps rm K Q c_M_goesInto_110 kc ks (some (.ref x) :: l) (.ref x :: st) h := rfl
theorem s_M_goesInto_110 {x : Nat} : wps rm K Q c_M_goesInto_110 kc ks loc (.ref (x + 1) :: st) h = eg_gf h x 12 3 (fun v => wps rm K Q c_M_goesInto_113 kc ks loc (v :: st) h) := rfl
theorem s_M_goesInto_113 {x : Int32} {l0 l1 : Option Value} {l : eg_Lo} : wps rm K Q c_M_goesInto_113 kc ks (l0 :: l1 :: some (.int x) :: l) (st) h = wps rm K Q c_M_goesInto_114 kc ks (l0 :: l1 :: some (.int x) :: l) (.int x :: st) h := rfl
theorem s_M_goesInto_114 {x : Nat} {i : Int32} : wps rm K Q c_M_goesInto_114 kc ks loc (.int i :: .ref (x + 1) :: st) h = eg_ia h x i (fun v => wps rm K Q c_M_goesInto_115 kc ks loc (.int v :: st) h) := rfl
theorem s_M_goesInto_115 {x : Nat} {l : eg_Lo} : wps rm K Q c_M_goesInto_115 kc ks (some (.ref x) :: l) (st) h = wps rm K Q c_M_goesInto_116 kc ks (some (.ref x) :: l) (.ref x :: st) h := rfl
theorem s_M_goesInto_116 {x : Nat} : wps rm K Q c_M_goesInto_116 kc ks loc (.ref (x + 1) :: st) h = eg_gf h x 12 3 (fun v => wps rm K Q c_M_goesInto_119 kc ks loc (v :: st) h) := rfl
theorem s_M_goesInto_119 {x : Int32} {l0 l1 l2 : Option Value} {l : eg_Lo} : wps rm K Q c_M_goesInto_119 kc ks (l0 :: l1 :: l2 :: some (.int x) :: l) (st) h = wps rm K Q c_M_goesInto_120 kc ks (l0 :: l1 :: l2 :: some (.int x) :: l) (.int x :: st) h := rfl
theorem s_M_goesInto_120 {x : Nat} {i : Int32} : wps rm K Q c_M_goesInto_120 kc ks loc (.int i :: .ref (x + 1) :: st) h = eg_ia h x i (fun v => wps rm K Q c_M_goesInto_121 kc ks loc (.int v :: st) h) := rfl
theorem s_M_goesInto_121 {x : Nat} {l : eg_Lo} : wps rm K Q c_M_goesInto_121 kc ks (some (.ref x) :: l) (st) h = wps rm K Q c_M_goesInto_122 kc ks (some (.ref x) :: l) (.ref x :: st) h := rfl
theorem s_M_goesInto_122 {x : Nat} : wps rm K Q c_M_goesInto_122 kc ks loc (.ref (x + 1) :: st) h = eg_gf h x 12 21 (fun v => wps rm K Q c_M_goesInto_125 kc ks loc (v :: st) h) := rfl
theorem s_M_goesInto_125  : wps rm K Q c_M_goesInto_125 kc ks loc (st) h = wps rm K Q c_M_goesInto_127 kc ks loc (.int (6) :: st) h := rfl
theorem s_M_goesInto_127 {x : Int32} {l0 : Option Value} {l : eg_Lo} : wps rm K Q c_M_goesInto_127 kc ks (l0 :: some (.int x) :: l) (st) h = wps rm K Q c_M_goesInto_128 kc ks (l0 :: some (.int x) :: l) (.int x :: st) h := rfl
theorem s_M_goesInto_128 {x y : Int32} : wps rm K Q c_M_goesInto_128 kc ks loc (.int y :: .int x :: st) h = wps rm K Q c_M_goesInto_129 kc ks loc (.int (x * y) :: st) h := rfl
theorem s_M_goesInto_129  : wps rm K Q c_M_goesInto_129 kc ks loc (st) h = wps rm K Q c_M_goesInto_130 kc ks loc (.int (4) :: st) h := rfl
theorem s_M_goesInto_130 {x y : Int32} : wps rm K Q c_M_goesInto_130 kc ks loc (.int y :: .int x :: st) h = wps rm K Q c_M_goesInto_131 kc ks loc (.int (x + y) :: st) h := rfl
theorem s_M_goesInto_131 {x : Nat} {i : Int32} : wps rm K Q c_M_goesInto_131 kc ks loc (.int i :: .ref (x + 1) :: st) h = eg_ia h x i (fun v => wps rm K Q c_M_goesInto_132 kc ks loc (.int v :: st) h) := rfl
theorem s_M_goesInto_132 {x : Nat} {l : eg_Lo} : wps rm K Q c_M_goesInto_132 kc ks (some (.ref x) :: l) (st) h = wps rm K Q c_M_goesInto_133 kc ks (some (.ref x) :: l) (.ref x :: st) h := rfl
theorem s_M_goesInto_133 {x : Nat} : wps rm K Q c_M_goesInto_133 kc ks loc (.ref (x + 1) :: st) h = eg_gf h x 12 21 (fun v => wps rm K Q c_M_goesInto_136 kc ks loc (v :: st) h) := rfl
theorem s_M_goesInto_136  : wps rm K Q c_M_goesInto_136 kc ks loc (st) h = wps rm K Q c_M_goesInto_138 kc ks loc (.int (6) :: st) h := rfl
theorem s_M_goesInto_138 {x : Int32} {l0 : Option Value} {l : eg_Lo} : wps rm K Q c_M_goesInto_138 kc ks (l0 :: some (.int x) :: l) (st) h = wps rm K Q c_M_goesInto_139 kc ks (l0 :: some (.int x) :: l) (.int x :: st) h := rfl
theorem s_M_goesInto_139 {x y : Int32} : wps rm K Q c_M_goesInto_139 kc ks loc (.int y :: .int x :: st) h = wps rm K Q c_M_goesInto_140 kc ks loc (.int (x * y) :: st) h := rfl
theorem s_M_goesInto_140  : wps rm K Q c_M_goesInto_140 kc ks loc (st) h = wps rm K Q c_M_goesInto_141 kc ks loc (.int (5) :: st) h := rfl
theorem s_M_goesInto_141 {x y : Int32} : wps rm K Q c_M_goesInto_141 kc ks loc (.int y :: .int x :: st) h = wps rm K Q c_M_goesInto_142 kc ks loc (.int (x + y) :: st) h := rfl
theorem s_M_goesInto_142 {x : Nat} {i : Int32} : wps rm K Q c_M_goesInto_142 kc ks loc (.int i :: .ref (x + 1) :: st) h = eg_ia h x i (fun v => wps rm K Q c_M_goesInto_143 kc ks loc (.int v :: st) h) := rfl
theorem s_M_goesInto_143  {a1 : Value} {a2 : Value} {a3 : Value} {a4 : Value} {x : Nat} : wps rm K Q c_M_goesInto_143 kc ks loc (a4 :: a3 :: a2 :: a1 :: .ref (x + 1) :: st) h = (eg_cls h x 12 ∧ st.length ≤ 4 ∧ eg_Cs n_M_cut (.ref (x + 1) :: [a1, a2, a3, a4]) h (fun v h9 => wps rm K Q c_M_goesInto_146 kc ks loc (v.toList ++ st) h9)) := eg_c1_4
theorem s_M_goesInto_146 {x : Int32} : wps rm K Q c_M_goesInto_146 kc ks loc (.int x :: st) h = ((x = 0 → K 153 kc ks loc st h) ∧ (¬ x = 0 → wps rm K Q c_M_goesInto_149 kc ks loc (st) h)) := rfl
theorem s_M_goesInto_149  : wps rm K Q c_M_goesInto_149 kc ks loc (st) h = wps rm K Q c_M_goesInto_150 kc ks loc (.int (1) :: st) h := rfl
theorem s_M_goesInto_150  : wps rm K Q c_M_goesInto_150 kc ks loc (st) h = K 154 kc ks loc st h := rfl
theorem s_M_goesInto_153  : wps rm K Q c_M_goesInto_153 kc ks loc (st) h = wps rm K Q c_M_goesInto_154 kc ks loc (.int (0) :: st) h := rfl
theorem s_M_goesInto_154 {x : Int32} : wps rm K Q c_M_goesInto_154 kc ks loc (.int x :: st) h = wps rm K Q c_M_goesInto_156 kc ks (eg_set1 loc 4 (.int x)) (st) h := rfl
theorem s_M_goesInto_156 {x : Int32} {l0 l1 l2 l3 : Option Value} {l : eg_Lo} : wps rm K Q c_M_goesInto_156 kc ks (l0 :: l1 :: l2 :: l3 :: some (.int x) :: l) (st) h = wps rm K Q c_M_goesInto_158 kc ks (l0 :: l1 :: l2 :: l3 :: some (.int x) :: l) (.int x :: st) h := rfl
theorem s_M_goesInto_158 {x : Int32} : wps rm K Q c_M_goesInto_158 kc ks loc (.int x :: st) h = ((x = 0 → K 208 kc ks loc st h) ∧ (¬ x = 0 → wps rm K Q c_M_goesInto_161 kc ks loc (st) h)) := rfl
theorem s_M_goesInto_161 {x : Nat} {l : eg_Lo} : wps rm K Q c_M_goesInto_161 kc ks (some (.ref x) :: l) (st) h = wps rm K Q c_M_goesInto_162 kc ks (some (.ref x) :: l) (.ref x :: st) h := rfl
theorem s_M_goesInto_162 {x : Nat} : wps rm K Q c_M_goesInto_162 kc ks loc (.ref (x + 1) :: st) h = eg_gf h x 12 39 (fun v => wps rm K Q c_M_goesInto_165 kc ks loc (v :: st) h) := rfl
theorem s_M_goesInto_165 {x : Nat} {l : eg_Lo} : wps rm K Q c_M_goesInto_165 kc ks (some (.ref x) :: l) (st) h = wps rm K Q c_M_goesInto_166 kc ks (some (.ref x) :: l) (.ref x :: st) h := rfl
theorem s_M_goesInto_166 {x : Nat} : wps rm K Q c_M_goesInto_166 kc ks loc (.ref (x + 1) :: st) h = eg_gf h x 12 42 (fun v => wps rm K Q c_M_goesInto_169 kc ks loc (v :: st) h) := rfl
theorem s_M_goesInto_169 {x y : Int64} : wps rm K Q c_M_goesInto_169 kc ks loc (.long y :: .long x :: st) h = wps rm K Q c_M_goesInto_170 kc ks loc (.long (x * y) :: st) h := rfl
theorem s_M_goesInto_170 {x : Nat} {l : eg_Lo} : wps rm K Q c_M_goesInto_170 kc ks (some (.ref x) :: l) (st) h = wps rm K Q c_M_goesInto_171 kc ks (some (.ref x) :: l) (.ref x :: st) h := rfl
theorem s_M_goesInto_171 {x : Nat} : wps rm K Q c_M_goesInto_171 kc ks loc (.ref (x + 1) :: st) h = eg_gf h x 12 41 (fun v => wps rm K Q c_M_goesInto_174 kc ks loc (v :: st) h) := rfl
theorem s_M_goesInto_174 {x : Nat} {l : eg_Lo} : wps rm K Q c_M_goesInto_174 kc ks (some (.ref x) :: l) (st) h = wps rm K Q c_M_goesInto_175 kc ks (some (.ref x) :: l) (.ref x :: st) h := rfl
theorem s_M_goesInto_175 {x : Nat} : wps rm K Q c_M_goesInto_175 kc ks loc (.ref (x + 1) :: st) h = eg_gf h x 12 40 (fun v => wps rm K Q c_M_goesInto_178 kc ks loc (v :: st) h) := rfl
theorem s_M_goesInto_178 {x y : Int64} : wps rm K Q c_M_goesInto_178 kc ks loc (.long y :: .long x :: st) h = wps rm K Q c_M_goesInto_179 kc ks loc (.long (x * y) :: st) h := rfl
theorem s_M_goesInto_179 {x y : Int64} : wps rm K Q c_M_goesInto_179 kc ks loc (.long y :: .long x :: st) h = wps rm K Q c_M_goesInto_180 kc ks loc (.int (lg_cmp x y) :: st) h := rfl
theorem s_M_goesInto_180 {x : Int32} : wps rm K Q c_M_goesInto_180 kc ks loc (.int x :: st) h = ((0 ≤ x → K 208 kc ks loc st h) ∧ (¬ 0 ≤ x → wps rm K Q c_M_goesInto_183 kc ks loc (st) h)) := rfl
theorem s_M_goesInto_183 {x : Nat} {l : eg_Lo} : wps rm K Q c_M_goesInto_183 kc ks (some (.ref x) :: l) (st) h = wps rm K Q c_M_goesInto_184 kc ks (some (.ref x) :: l) (.ref x :: st) h := rfl
theorem s_M_goesInto_184 {x : Nat} : wps rm K Q c_M_goesInto_184 kc ks loc (.ref (x + 1) :: st) h = eg_gf h x 12 39 (fun v => wps rm K Q c_M_goesInto_187 kc ks loc (v :: st) h) := rfl
theorem s_M_goesInto_187 {x : Nat} {l : eg_Lo} : wps rm K Q c_M_goesInto_187 kc ks (some (.ref x) :: l) (st) h = wps rm K Q c_M_goesInto_188 kc ks (some (.ref x) :: l) (.ref x :: st) h := rfl
theorem s_M_goesInto_188 {x : Nat} : wps rm K Q c_M_goesInto_188 kc ks loc (.ref (x + 1) :: st) h = eg_gf h x 12 40 (fun v => wps rm K Q c_M_goesInto_191 kc ks loc (v :: st) h) := rfl
theorem s_M_goesInto_191 {x y : Int64} : wps rm K Q c_M_goesInto_191 kc ks loc (.long y :: .long x :: st) h = wps rm K Q c_M_goesInto_192 kc ks loc (.int (lg_cmp x y) :: st) h := rfl
theorem s_M_goesInto_192 {x : Int32} : wps rm K Q c_M_goesInto_192 kc ks loc (.int x :: st) h = ((0 ≤ x → K 208 kc ks loc st h) ∧ (¬ 0 ≤ x → wps rm K Q c_M_goesInto_195 kc ks loc (st) h)) := rfl
theorem s_M_goesInto_195 {x : Nat} {l : eg_Lo} : wps rm K Q c_M_goesInto_195 kc ks (some (.ref x) :: l) (st) h = wps rm K Q c_M_goesInto_196 kc ks (some (.ref x) :: l) (.ref x :: st) h := rfl
theorem s_M_goesInto_196 {x : Nat} : wps rm K Q c_M_goesInto_196 kc ks loc (.ref (x + 1) :: st) h = eg_gf h x 12 41 (fun v => wps rm K Q c_M_goesInto_199 kc ks loc (v :: st) h) := rfl
theorem s_M_goesInto_199  : wps rm K Q c_M_goesInto_199 kc ks loc (st) h = wps rm K Q c_M_goesInto_200 kc ks loc (.long (0) :: st) h := rfl
theorem s_M_goesInto_200 {x y : Int64} : wps rm K Q c_M_goesInto_200 kc ks loc (.long y :: .long x :: st) h = wps rm K Q c_M_goesInto_201 kc ks loc (.int (lg_cmp x y) :: st) h := rfl
theorem s_M_goesInto_201 {x : Int32} : wps rm K Q c_M_goesInto_201 kc ks loc (.int x :: st) h = ((x ≤ 0 → K 208 kc ks loc st h) ∧ (¬ x ≤ 0 → wps rm K Q c_M_goesInto_204 kc ks loc (st) h)) := rfl
theorem s_M_goesInto_204  : wps rm K Q c_M_goesInto_204 kc ks loc (st) h = wps rm K Q c_M_goesInto_205 kc ks loc (.int (1) :: st) h := rfl
theorem s_M_goesInto_205  : wps rm K Q c_M_goesInto_205 kc ks loc (st) h = K 209 kc ks loc st h := rfl
theorem s_M_goesInto_208  : wps rm K Q c_M_goesInto_208 kc ks loc (st) h = wps rm K Q c_M_goesInto_209 kc ks loc (.int (0) :: st) h := rfl
theorem s_M_goesInto_209 {x : Int32} : wps rm K Q c_M_goesInto_209 kc ks loc ([.int x]) h = (kc = rm.cells ∧ ((1 : Nat) = 1 → x = 0 ∨ x = 1) ∧ Q (some (.int x)) h) := rfl
def T_M_goesInto : List (Nat × List eg_I) := [(153, c_M_goesInto_153), (154, c_M_goesInto_154), (208, c_M_goesInto_208), (209, c_M_goesInto_209)]
theorem j_M_goesInto_153 {R : Nat → Nat → Nat → eg_Lo → List Value → List eg_E → Prop} {f pc0 : Nat} : eg_run rm R Q T_M_goesInto (f + 1) 153 kc ks loc st h = wps rm (eg_run rm R Q T_M_goesInto f) Q c_M_goesInto_153 kc ks loc st h := rfl
theorem j_M_goesInto_154 {R : Nat → Nat → Nat → eg_Lo → List Value → List eg_E → Prop} {f pc0 : Nat} : eg_run rm R Q T_M_goesInto (f + 1) 154 kc ks loc st h = wps rm (eg_run rm R Q T_M_goesInto f) Q c_M_goesInto_154 kc ks loc st h := rfl
theorem j_M_goesInto_208 {R : Nat → Nat → Nat → eg_Lo → List Value → List eg_E → Prop} {f pc0 : Nat} : eg_run rm R Q T_M_goesInto (f + 1) 208 kc ks loc st h = wps rm (eg_run rm R Q T_M_goesInto f) Q c_M_goesInto_208 kc ks loc st h := rfl
theorem j_M_goesInto_209 {R : Nat → Nat → Nat → eg_Lo → List Value → List eg_E → Prop} {f pc0 : Nat} : eg_run rm R Q T_M_goesInto (f + 1) 209 kc ks loc st h = wps rm (eg_run rm R Q T_M_goesInto f) Q c_M_goesInto_209 kc ks loc st h := rfl
end
theorem q_M_goesInto : (T_M_goesInto.all fun q => eg_seq m_M_goesInto q.1 q.2) = true := by decide +kernel
theorem b_M_goesInto {as : List Value} {h : List eg_E} {Q : Option Value → List eg_E → Prop} (hf : (eg_fl as).length ≤ 5) (hw : wps (eg_rm m_M_goesInto) (eg_run (eg_rm m_M_goesInto) (eg_R m_M_goesInto Q (h.length + 0)) Q T_M_goesInto 6) Q c_M_goesInto_0 0 0 (eg_entry 5 as) [] h) : eg_Runs n_M_goesInto as h Q := eg_begin (d := m_M_goesInto) rfl (by decide) (by decide +kernel) q_M_goesInto hf hw
/-! ===== M_intoOf ===== -/
def c_M_intoOf_29 : List eg_I := .inl (29, 1, .ireturn, 0, 0) :: []
def c_M_intoOf_28 : List eg_I := .inl (28, 1, .iconst (-1), 0, 0) :: c_M_intoOf_29
def c_M_intoOf_25 : List eg_I := .inl (25, 3, .goto (-23), 2, 0) :: []
def c_M_intoOf_22 : List eg_I := .inl (22, 3, .iinc 3 (1), 0, 0) :: c_M_intoOf_25
def c_M_intoOf_21 : List eg_I := .inl (21, 1, .ireturn, 0, 0) :: []
def c_M_intoOf_20 : List eg_I := .inl (20, 1, .iload 3, 0, 0) :: c_M_intoOf_21
def c_M_intoOf_17 : List eg_I := .inl (17, 3, .ifCond .eq (5), 22, 0) :: c_M_intoOf_20
def c_M_intoOf_14 : List eg_I := .inr (14, 1, 318, n_M_goesInto, 3, 12, 0, 0) :: c_M_intoOf_17
def c_M_intoOf_13 : List eg_I := .inl (13, 1, .iload 2, 0, 0) :: c_M_intoOf_14
def c_M_intoOf_12 : List eg_I := .inl (12, 1, .iload 1, 0, 0) :: c_M_intoOf_13
def c_M_intoOf_11 : List eg_I := .inl (11, 1, .iload 3, 0, 0) :: c_M_intoOf_12
def c_M_intoOf_10 : List eg_I := .inl (10, 1, .aload 0, 0, 0) :: c_M_intoOf_11
def c_M_intoOf_7 : List eg_I := .inl (7, 3, .if_icmp .ge (21), 28, 0) :: c_M_intoOf_10
def c_M_intoOf_4 : List eg_I := .inl (4, 3, .getfield 296, 12, 20) :: c_M_intoOf_7
def c_M_intoOf_3 : List eg_I := .inl (3, 1, .aload 0, 0, 0) :: c_M_intoOf_4
def c_M_intoOf_2 : List eg_I := .inl (2, 1, .iload 3, 0, 0) :: c_M_intoOf_3
def c_M_intoOf_1 : List eg_I := .inl (1, 1, .istore 3, 0, 0) :: [.inl (2, 0, .nop, 0, 0)]
def c_M_intoOf_0 : List eg_I := .inl (0, 1, .iconst (0), 0, 0) :: c_M_intoOf_1
section
variable {rm : Room} {K : Nat → Nat → Nat → eg_Lo → List Value → List eg_E → Prop} {Q : Option Value → List eg_E → Prop} {kc ks : Nat} {loc : eg_Lo} {st : List Value} {h : List eg_E}
theorem s_M_intoOf_0  : wps rm K Q c_M_intoOf_0 kc ks loc (st) h = wps rm K Q c_M_intoOf_1 kc ks loc (.int (0) :: st) h := rfl
theorem s_M_intoOf_1 {x : Int32} : wps rm K Q c_M_intoOf_1 kc ks loc (.int x :: st) h = K 2 kc ks (eg_set1 loc 3 (.int x)) (st) h := rfl
theorem s_M_intoOf_2 {x : Int32} {l0 l1 l2 : Option Value} {l : eg_Lo} : wps rm K Q c_M_intoOf_2 kc ks (l0 :: l1 :: l2 :: some (.int x) :: l) (st) h = wps rm K Q c_M_intoOf_3 kc ks (l0 :: l1 :: l2 :: some (.int x) :: l) (.int x :: st) h := rfl
theorem s_M_intoOf_3 {x : Nat} {l : eg_Lo} : wps rm K Q c_M_intoOf_3 kc ks (some (.ref x) :: l) (st) h = wps rm K Q c_M_intoOf_4 kc ks (some (.ref x) :: l) (.ref x :: st) h := rfl
theorem s_M_intoOf_4 {x : Nat} : wps rm K Q c_M_intoOf_4 kc ks loc (.ref (x + 1) :: st) h = eg_gf h x 12 20 (fun v => wps rm K Q c_M_intoOf_7 kc ks loc (v :: st) h) := rfl
theorem s_M_intoOf_7 {x y : Int32} : wps rm K Q c_M_intoOf_7 kc ks loc (.int y :: .int x :: st) h = ((y ≤ x → K 28 kc ks loc st h) ∧ (¬ y ≤ x → wps rm K Q c_M_intoOf_10 kc ks loc (st) h)) := rfl
theorem s_M_intoOf_10 {x : Nat} {l : eg_Lo} : wps rm K Q c_M_intoOf_10 kc ks (some (.ref x) :: l) (st) h = wps rm K Q c_M_intoOf_11 kc ks (some (.ref x) :: l) (.ref x :: st) h := rfl
theorem s_M_intoOf_11 {x : Int32} {l0 l1 l2 : Option Value} {l : eg_Lo} : wps rm K Q c_M_intoOf_11 kc ks (l0 :: l1 :: l2 :: some (.int x) :: l) (st) h = wps rm K Q c_M_intoOf_12 kc ks (l0 :: l1 :: l2 :: some (.int x) :: l) (.int x :: st) h := rfl
theorem s_M_intoOf_12 {x : Int32} {l0 : Option Value} {l : eg_Lo} : wps rm K Q c_M_intoOf_12 kc ks (l0 :: some (.int x) :: l) (st) h = wps rm K Q c_M_intoOf_13 kc ks (l0 :: some (.int x) :: l) (.int x :: st) h := rfl
theorem s_M_intoOf_13 {x : Int32} {l0 l1 : Option Value} {l : eg_Lo} : wps rm K Q c_M_intoOf_13 kc ks (l0 :: l1 :: some (.int x) :: l) (st) h = wps rm K Q c_M_intoOf_14 kc ks (l0 :: l1 :: some (.int x) :: l) (.int x :: st) h := rfl
theorem s_M_intoOf_14  {a1 : Value} {a2 : Value} {a3 : Value} {x : Nat} : wps rm K Q c_M_intoOf_14 kc ks loc (a3 :: a2 :: a1 :: .ref (x + 1) :: st) h = (eg_cls h x 12 ∧ st.length ≤ 4 ∧ eg_Cs n_M_goesInto (.ref (x + 1) :: [a1, a2, a3]) h (fun v h9 => wps rm K Q c_M_intoOf_17 kc ks loc (v.toList ++ st) h9)) := eg_c1_3
theorem s_M_intoOf_17 {x : Int32} : wps rm K Q c_M_intoOf_17 kc ks loc (.int x :: st) h = ((x = 0 → K 22 kc ks loc st h) ∧ (¬ x = 0 → wps rm K Q c_M_intoOf_20 kc ks loc (st) h)) := rfl
theorem s_M_intoOf_20 {x : Int32} {l0 l1 l2 : Option Value} {l : eg_Lo} : wps rm K Q c_M_intoOf_20 kc ks (l0 :: l1 :: l2 :: some (.int x) :: l) (st) h = wps rm K Q c_M_intoOf_21 kc ks (l0 :: l1 :: l2 :: some (.int x) :: l) (.int x :: st) h := rfl
theorem s_M_intoOf_21 {x : Int32} : wps rm K Q c_M_intoOf_21 kc ks loc ([.int x]) h = (kc = rm.cells ∧ (0 = 1 → x = 0 ∨ x = 1) ∧ Q (some (.int x)) h) := rfl
theorem s_M_intoOf_22 {x : Int32} {l0 l1 l2 : Option Value} {l9 : eg_Lo} : wps rm K Q c_M_intoOf_22 kc ks (l0 :: l1 :: l2 :: some (.int x) :: l9) (st) h = wps rm K Q c_M_intoOf_25 kc ks (eg_set1 (l0 :: l1 :: l2 :: some (.int x) :: l9) 3 (.int (x + (1)))) (st) h := rfl
theorem s_M_intoOf_25  : wps rm K Q c_M_intoOf_25 kc ks loc (st) h = K 2 kc ks loc st h := rfl
theorem s_M_intoOf_28  : wps rm K Q c_M_intoOf_28 kc ks loc (st) h = wps rm K Q c_M_intoOf_29 kc ks loc (.int (-1) :: st) h := rfl
theorem s_M_intoOf_29 {x : Int32} : wps rm K Q c_M_intoOf_29 kc ks loc ([.int x]) h = (kc = rm.cells ∧ (0 = 1 → x = 0 ∨ x = 1) ∧ Q (some (.int x)) h) := rfl
def T_M_intoOf : List (Nat × List eg_I) := [(22, c_M_intoOf_22), (28, c_M_intoOf_28)]
theorem j_M_intoOf_22 {R : Nat → Nat → Nat → eg_Lo → List Value → List eg_E → Prop} {f pc0 : Nat} : eg_run rm R Q T_M_intoOf (f + 1) 22 kc ks loc st h = wps rm (eg_run rm R Q T_M_intoOf f) Q c_M_intoOf_22 kc ks loc st h := rfl
theorem j_M_intoOf_28 {R : Nat → Nat → Nat → eg_Lo → List Value → List eg_E → Prop} {f pc0 : Nat} : eg_run rm R Q T_M_intoOf (f + 1) 28 kc ks loc st h = wps rm (eg_run rm R Q T_M_intoOf f) Q c_M_intoOf_28 kc ks loc st h := rfl
theorem j_M_intoOf_2 {R : Nat → Nat → Nat → eg_Lo → List Value → List eg_E → Prop} {f pc0 : Nat} : eg_run rm R Q T_M_intoOf (f + 1) 2 kc ks loc st h = R 2 kc ks loc st h := rfl
end
theorem q_M_intoOf : (T_M_intoOf.all fun q => eg_seq m_M_intoOf q.1 q.2) = true := by decide +kernel
theorem b_M_intoOf {as : List Value} {h : List eg_E} {Q : Option Value → List eg_E → Prop} (hf : (eg_fl as).length ≤ 4) (hw : wps (eg_rm m_M_intoOf) (eg_run (eg_rm m_M_intoOf) (eg_R m_M_intoOf Q (h.length + 0)) Q T_M_intoOf 4) Q c_M_intoOf_0 0 0 (eg_entry 4 as) [] h) : eg_Runs n_M_intoOf as h Q := eg_begin (d := m_M_intoOf) rfl (by decide) (by decide +kernel) q_M_intoOf hf hw
theorem p_M_intoOf_2 {Q : Option Value → List eg_E → Prop} {n0 kc ks : Nat} {loc : eg_Lo} {st : List Value} {h : List eg_E} (hw : wps (eg_rm m_M_intoOf) (eg_run (eg_rm m_M_intoOf) (eg_R m_M_intoOf Q n0) Q T_M_intoOf 4) Q c_M_intoOf_2 kc ks loc st h) : eg_R m_M_intoOf Q n0 2 kc ks loc st h := eg_go (by decide +kernel) q_M_intoOf hw
/-! ===== M_move ===== -/
def c_M_move_75 : List eg_I := .inl (75, 1, .lreturn, 0, 0) :: []
def c_M_move_74 : List eg_I := .inl (74, 1, .i2l, 0, 0) :: c_M_move_75
def c_M_move_71 : List eg_I := .inr (71, 1, 321, n_M_intoOf, 2, 12, 0, 0) :: c_M_move_74
def c_M_move_68 : List eg_I := .inr (68, 0, 103, n_M_at_II, 2, 12, 0, 0) :: c_M_move_71
def c_M_move_67 : List eg_I := .inl (67, 1, .iload 3, 0, 0) :: c_M_move_68
def c_M_move_66 : List eg_I := .inl (66, 1, .iload 1, 0, 0) :: c_M_move_67
def c_M_move_63 : List eg_I := .inr (63, 0, 103, n_M_at_II, 2, 12, 0, 0) :: c_M_move_66
def c_M_move_62 : List eg_I := .inl (62, 1, .iload 2, 0, 0) :: c_M_move_63
def c_M_move_61 : List eg_I := .inl (61, 1, .iload 1, 0, 0) :: c_M_move_62
def c_M_move_60 : List eg_I := .inl (60, 1, .aload 0, 0, 0) :: c_M_move_61
def c_M_move_59 : List eg_I := .inl (59, 1, .lreturn, 0, 0) :: []
def c_M_move_56 : List eg_I := .inr (56, 1, 112, n_M_finding, 1, 12, 0, 0) :: c_M_move_59
def c_M_move_53 : List eg_I := .inl (53, 3, .sipush (-1000000000000000007), 126, 0) :: c_M_move_56
def c_M_move_52 : List eg_I := .inl (52, 1, .aload 0, 0, 0) :: c_M_move_53
def c_M_move_49 : List eg_I := .inl (49, 3, .ifCond .eq (11), 60, 0) :: c_M_move_52
def c_M_move_48 : List eg_I := .inl (48, 1, .baload, 0, 0) :: c_M_move_49
def c_M_move_45 : List eg_I := .inr (45, 0, 103, n_M_at_II, 2, 12, 0, 0) :: c_M_move_48
def c_M_move_44 : List eg_I := .inl (44, 1, .iload 3, 0, 0) :: c_M_move_45
def c_M_move_43 : List eg_I := .inl (43, 1, .iload 1, 0, 0) :: c_M_move_44
def c_M_move_40 : List eg_I := .inl (40, 3, .getfield 22, 12, 4) :: c_M_move_43
def c_M_move_39 : List eg_I := .inl (39, 1, .aload 0, 0, 0) :: c_M_move_40
def c_M_move_36 : List eg_I := .inl (36, 3, .ifCond .ne (16), 52, 0) :: c_M_move_39
def c_M_move_35 : List eg_I := .inl (35, 1, .baload, 0, 0) :: c_M_move_36
def c_M_move_32 : List eg_I := .inr (32, 0, 103, n_M_at_II, 2, 12, 0, 0) :: c_M_move_35
def c_M_move_31 : List eg_I := .inl (31, 1, .iload 2, 0, 0) :: c_M_move_32
def c_M_move_30 : List eg_I := .inl (30, 1, .iload 1, 0, 0) :: c_M_move_31
def c_M_move_27 : List eg_I := .inl (27, 3, .getfield 22, 12, 4) :: c_M_move_30
def c_M_move_26 : List eg_I := .inl (26, 1, .aload 0, 0, 0) :: c_M_move_27
def c_M_move_25 : List eg_I := .inl (25, 1, .lreturn, 0, 0) :: []
def c_M_move_22 : List eg_I := .inr (22, 1, 112, n_M_finding, 1, 12, 0, 0) :: c_M_move_25
def c_M_move_19 : List eg_I := .inl (19, 3, .sipush (-1000000000000000001), 110, 0) :: c_M_move_22
def c_M_move_18 : List eg_I := .inl (18, 1, .aload 0, 0, 0) :: c_M_move_19
def c_M_move_15 : List eg_I := .inl (15, 3, .ifCond .ne (11), 26, 0) :: c_M_move_18
def c_M_move_12 : List eg_I := .inr (12, 1, 122, n_M_isPoint, 2, 12, 0, 0) :: c_M_move_15
def c_M_move_11 : List eg_I := .inl (11, 1, .iload 3, 0, 0) :: c_M_move_12
def c_M_move_10 : List eg_I := .inl (10, 1, .iload 1, 0, 0) :: c_M_move_11
def c_M_move_9 : List eg_I := .inl (9, 1, .aload 0, 0, 0) :: c_M_move_10
def c_M_move_6 : List eg_I := .inl (6, 3, .ifCond .eq (12), 18, 0) :: c_M_move_9
def c_M_move_3 : List eg_I := .inr (3, 1, 122, n_M_isPoint, 2, 12, 0, 0) :: c_M_move_6
def c_M_move_2 : List eg_I := .inl (2, 1, .iload 2, 0, 0) :: c_M_move_3
def c_M_move_1 : List eg_I := .inl (1, 1, .iload 1, 0, 0) :: c_M_move_2
def c_M_move_0 : List eg_I := .inl (0, 1, .aload 0, 0, 0) :: c_M_move_1
section
variable {rm : Room} {K : Nat → Nat → Nat → eg_Lo → List Value → List eg_E → Prop} {Q : Option Value → List eg_E → Prop} {kc ks : Nat} {loc : eg_Lo} {st : List Value} {h : List eg_E}
theorem s_M_move_0 {x : Nat} {l : eg_Lo} : wps rm K Q c_M_move_0 kc ks (some (.ref x) :: l) (st) h = wps rm K Q c_M_move_1 kc ks (some (.ref x) :: l) (.ref x :: st) h := rfl
theorem s_M_move_1 {x : Int32} {l0 : Option Value} {l : eg_Lo} : wps rm K Q c_M_move_1 kc ks (l0 :: some (.int x) :: l) (st) h = wps rm K Q c_M_move_2 kc ks (l0 :: some (.int x) :: l) (.int x :: st) h := rfl
theorem s_M_move_2 {x : Int32} {l0 l1 : Option Value} {l : eg_Lo} : wps rm K Q c_M_move_2 kc ks (l0 :: l1 :: some (.int x) :: l) (st) h = wps rm K Q c_M_move_3 kc ks (l0 :: l1 :: some (.int x) :: l) (.int x :: st) h := rfl
theorem s_M_move_3  {a1 : Value} {a2 : Value} {x : Nat} : wps rm K Q c_M_move_3 kc ks loc (a2 :: a1 :: .ref (x + 1) :: st) h = (eg_cls h x 12 ∧ st.length ≤ 4 ∧ eg_Cs n_M_isPoint (.ref (x + 1) :: [a1, a2]) h (fun v h9 => wps rm K Q c_M_move_6 kc ks loc (v.toList ++ st) h9)) := eg_c1_2
theorem s_M_move_6 {x : Int32} : wps rm K Q c_M_move_6 kc ks loc (.int x :: st) h = ((x = 0 → K 18 kc ks loc st h) ∧ (¬ x = 0 → wps rm K Q c_M_move_9 kc ks loc (st) h)) := rfl
theorem s_M_move_9 {x : Nat} {l : eg_Lo} : wps rm K Q c_M_move_9 kc ks (some (.ref x) :: l) (st) h = wps rm K Q c_M_move_10 kc ks (some (.ref x) :: l) (.ref x :: st) h := rfl
theorem s_M_move_10 {x : Int32} {l0 : Option Value} {l : eg_Lo} : wps rm K Q c_M_move_10 kc ks (l0 :: some (.int x) :: l) (st) h = wps rm K Q c_M_move_11 kc ks (l0 :: some (.int x) :: l) (.int x :: st) h := rfl
theorem s_M_move_11 {x : Int32} {l0 l1 l2 : Option Value} {l : eg_Lo} : wps rm K Q c_M_move_11 kc ks (l0 :: l1 :: l2 :: some (.int x) :: l) (st) h = wps rm K Q c_M_move_12 kc ks (l0 :: l1 :: l2 :: some (.int x) :: l) (.int x :: st) h := rfl
theorem s_M_move_12  {a1 : Value} {a2 : Value} {x : Nat} : wps rm K Q c_M_move_12 kc ks loc (a2 :: a1 :: .ref (x + 1) :: st) h = (eg_cls h x 12 ∧ st.length ≤ 4 ∧ eg_Cs n_M_isPoint (.ref (x + 1) :: [a1, a2]) h (fun v h9 => wps rm K Q c_M_move_15 kc ks loc (v.toList ++ st) h9)) := eg_c1_2
theorem s_M_move_15 {x : Int32} : wps rm K Q c_M_move_15 kc ks loc (.int x :: st) h = ((¬ x = 0 → K 26 kc ks loc st h) ∧ (x = 0 → wps rm K Q c_M_move_18 kc ks loc (st) h)) := rfl
theorem s_M_move_18 {x : Nat} {l : eg_Lo} : wps rm K Q c_M_move_18 kc ks (some (.ref x) :: l) (st) h = wps rm K Q c_M_move_19 kc ks (some (.ref x) :: l) (.ref x :: st) h := rfl
theorem s_M_move_19  : wps rm K Q c_M_move_19 kc ks loc (st) h = wps rm K Q c_M_move_22 kc ks loc (.long (-1000000000000000001) :: st) h := rfl
theorem s_M_move_22  {a1 : Value} {x : Nat} : wps rm K Q c_M_move_22 kc ks loc (a1 :: .ref (x + 1) :: st) h = (eg_cls h x 12 ∧ st.length ≤ 4 ∧ eg_Cs n_M_finding (.ref (x + 1) :: [a1]) h (fun v h9 => wps rm K Q c_M_move_25 kc ks loc (v.toList ++ st) h9)) := eg_c1_1
theorem s_M_move_25 {x : Int64} : wps rm K Q c_M_move_25 kc ks loc ([.long x]) h = (kc = rm.cells ∧ Q (some (.long x)) h) := rfl
theorem s_M_move_26 {x : Nat} {l : eg_Lo} : wps rm K Q c_M_move_26 kc ks (some (.ref x) :: l) (st) h = wps rm K Q c_M_move_27 kc ks (some (.ref x) :: l) (.ref x :: st) h := rfl
theorem s_M_move_27 {x : Nat} : wps rm K Q c_M_move_27 kc ks loc (.ref (x + 1) :: st) h = eg_gf h x 12 4 (fun v => wps rm K Q c_M_move_30 kc ks loc (v :: st) h) := rfl
theorem s_M_move_30 {x : Int32} {l0 : Option Value} {l : eg_Lo} : wps rm K Q c_M_move_30 kc ks (l0 :: some (.int x) :: l) (st) h = wps rm K Q c_M_move_31 kc ks (l0 :: some (.int x) :: l) (.int x :: st) h := rfl
theorem s_M_move_31 {x : Int32} {l0 l1 : Option Value} {l : eg_Lo} : wps rm K Q c_M_move_31 kc ks (l0 :: l1 :: some (.int x) :: l) (st) h = wps rm K Q c_M_move_32 kc ks (l0 :: l1 :: some (.int x) :: l) (.int x :: st) h := rfl
theorem s_M_move_32  {a1 : Value} {a2 : Value} : wps rm K Q c_M_move_32 kc ks loc (a2 :: a1 :: st) h = (st.length ≤ 4 ∧ eg_Cs n_M_at_II [a1, a2] h (fun v h9 => wps rm K Q c_M_move_35 kc ks loc (v.toList ++ st) h9)) := eg_c0_2
theorem s_M_move_35 {x : Nat} {i : Int32} : wps rm K Q c_M_move_35 kc ks loc (.int i :: .ref (x + 1) :: st) h = eg_ba h x i (fun v => wps rm K Q c_M_move_36 kc ks loc (.int v :: st) h) := rfl
theorem s_M_move_36 {x : Int32} : wps rm K Q c_M_move_36 kc ks loc (.int x :: st) h = ((¬ x = 0 → K 52 kc ks loc st h) ∧ (x = 0 → wps rm K Q c_M_move_39 kc ks loc (st) h)) := rfl
theorem s_M_move_39 {x : Nat} {l : eg_Lo} : wps rm K Q c_M_move_39 kc ks (some (.ref x) :: l) (st) h = wps rm K Q c_M_move_40 kc ks (some (.ref x) :: l) (.ref x :: st) h := rfl
theorem s_M_move_40 {x : Nat} : wps rm K Q c_M_move_40 kc ks loc (.ref (x + 1) :: st) h = eg_gf h x 12 4 (fun v => wps rm K Q c_M_move_43 kc ks loc (v :: st) h) := rfl
theorem s_M_move_43 {x : Int32} {l0 : Option Value} {l : eg_Lo} : wps rm K Q c_M_move_43 kc ks (l0 :: some (.int x) :: l) (st) h = wps rm K Q c_M_move_44 kc ks (l0 :: some (.int x) :: l) (.int x :: st) h := rfl
theorem s_M_move_44 {x : Int32} {l0 l1 l2 : Option Value} {l : eg_Lo} : wps rm K Q c_M_move_44 kc ks (l0 :: l1 :: l2 :: some (.int x) :: l) (st) h = wps rm K Q c_M_move_45 kc ks (l0 :: l1 :: l2 :: some (.int x) :: l) (.int x :: st) h := rfl
theorem s_M_move_45  {a1 : Value} {a2 : Value} : wps rm K Q c_M_move_45 kc ks loc (a2 :: a1 :: st) h = (st.length ≤ 4 ∧ eg_Cs n_M_at_II [a1, a2] h (fun v h9 => wps rm K Q c_M_move_48 kc ks loc (v.toList ++ st) h9)) := eg_c0_2
theorem s_M_move_48 {x : Nat} {i : Int32} : wps rm K Q c_M_move_48 kc ks loc (.int i :: .ref (x + 1) :: st) h = eg_ba h x i (fun v => wps rm K Q c_M_move_49 kc ks loc (.int v :: st) h) := rfl
theorem s_M_move_49 {x : Int32} : wps rm K Q c_M_move_49 kc ks loc (.int x :: st) h = ((x = 0 → K 60 kc ks loc st h) ∧ (¬ x = 0 → wps rm K Q c_M_move_52 kc ks loc (st) h)) := rfl
theorem s_M_move_52 {x : Nat} {l : eg_Lo} : wps rm K Q c_M_move_52 kc ks (some (.ref x) :: l) (st) h = wps rm K Q c_M_move_53 kc ks (some (.ref x) :: l) (.ref x :: st) h := rfl
theorem s_M_move_53  : wps rm K Q c_M_move_53 kc ks loc (st) h = wps rm K Q c_M_move_56 kc ks loc (.long (-1000000000000000007) :: st) h := rfl
theorem s_M_move_56  {a1 : Value} {x : Nat} : wps rm K Q c_M_move_56 kc ks loc (a1 :: .ref (x + 1) :: st) h = (eg_cls h x 12 ∧ st.length ≤ 4 ∧ eg_Cs n_M_finding (.ref (x + 1) :: [a1]) h (fun v h9 => wps rm K Q c_M_move_59 kc ks loc (v.toList ++ st) h9)) := eg_c1_1
theorem s_M_move_59 {x : Int64} : wps rm K Q c_M_move_59 kc ks loc ([.long x]) h = (kc = rm.cells ∧ Q (some (.long x)) h) := rfl
theorem s_M_move_60 {x : Nat} {l : eg_Lo} : wps rm K Q c_M_move_60 kc ks (some (.ref x) :: l) (st) h = wps rm K Q c_M_move_61 kc ks (some (.ref x) :: l) (.ref x :: st) h := rfl
theorem s_M_move_61 {x : Int32} {l0 : Option Value} {l : eg_Lo} : wps rm K Q c_M_move_61 kc ks (l0 :: some (.int x) :: l) (st) h = wps rm K Q c_M_move_62 kc ks (l0 :: some (.int x) :: l) (.int x :: st) h := rfl
theorem s_M_move_62 {x : Int32} {l0 l1 : Option Value} {l : eg_Lo} : wps rm K Q c_M_move_62 kc ks (l0 :: l1 :: some (.int x) :: l) (st) h = wps rm K Q c_M_move_63 kc ks (l0 :: l1 :: some (.int x) :: l) (.int x :: st) h := rfl
theorem s_M_move_63  {a1 : Value} {a2 : Value} : wps rm K Q c_M_move_63 kc ks loc (a2 :: a1 :: st) h = (st.length ≤ 4 ∧ eg_Cs n_M_at_II [a1, a2] h (fun v h9 => wps rm K Q c_M_move_66 kc ks loc (v.toList ++ st) h9)) := eg_c0_2
theorem s_M_move_66 {x : Int32} {l0 : Option Value} {l : eg_Lo} : wps rm K Q c_M_move_66 kc ks (l0 :: some (.int x) :: l) (st) h = wps rm K Q c_M_move_67 kc ks (l0 :: some (.int x) :: l) (.int x :: st) h := rfl
theorem s_M_move_67 {x : Int32} {l0 l1 l2 : Option Value} {l : eg_Lo} : wps rm K Q c_M_move_67 kc ks (l0 :: l1 :: l2 :: some (.int x) :: l) (st) h = wps rm K Q c_M_move_68 kc ks (l0 :: l1 :: l2 :: some (.int x) :: l) (.int x :: st) h := rfl
theorem s_M_move_68  {a1 : Value} {a2 : Value} : wps rm K Q c_M_move_68 kc ks loc (a2 :: a1 :: st) h = (st.length ≤ 4 ∧ eg_Cs n_M_at_II [a1, a2] h (fun v h9 => wps rm K Q c_M_move_71 kc ks loc (v.toList ++ st) h9)) := eg_c0_2
theorem s_M_move_71  {a1 : Value} {a2 : Value} {x : Nat} : wps rm K Q c_M_move_71 kc ks loc (a2 :: a1 :: .ref (x + 1) :: st) h = (eg_cls h x 12 ∧ st.length ≤ 4 ∧ eg_Cs n_M_intoOf (.ref (x + 1) :: [a1, a2]) h (fun v h9 => wps rm K Q c_M_move_74 kc ks loc (v.toList ++ st) h9)) := eg_c1_2
theorem s_M_move_74 {x : Int32} : wps rm K Q c_M_move_74 kc ks loc (.int x :: st) h = wps rm K Q c_M_move_75 kc ks loc (.long (x.toInt64) :: st) h := rfl
theorem s_M_move_75 {x : Int64} : wps rm K Q c_M_move_75 kc ks loc ([.long x]) h = (kc = rm.cells ∧ Q (some (.long x)) h) := rfl
def T_M_move : List (Nat × List eg_I) := [(18, c_M_move_18), (26, c_M_move_26), (52, c_M_move_52), (60, c_M_move_60)]
theorem j_M_move_18 {R : Nat → Nat → Nat → eg_Lo → List Value → List eg_E → Prop} {f pc0 : Nat} : eg_run rm R Q T_M_move (f + 1) 18 kc ks loc st h = wps rm (eg_run rm R Q T_M_move f) Q c_M_move_18 kc ks loc st h := rfl
theorem j_M_move_26 {R : Nat → Nat → Nat → eg_Lo → List Value → List eg_E → Prop} {f pc0 : Nat} : eg_run rm R Q T_M_move (f + 1) 26 kc ks loc st h = wps rm (eg_run rm R Q T_M_move f) Q c_M_move_26 kc ks loc st h := rfl
theorem j_M_move_52 {R : Nat → Nat → Nat → eg_Lo → List Value → List eg_E → Prop} {f pc0 : Nat} : eg_run rm R Q T_M_move (f + 1) 52 kc ks loc st h = wps rm (eg_run rm R Q T_M_move f) Q c_M_move_52 kc ks loc st h := rfl
theorem j_M_move_60 {R : Nat → Nat → Nat → eg_Lo → List Value → List eg_E → Prop} {f pc0 : Nat} : eg_run rm R Q T_M_move (f + 1) 60 kc ks loc st h = wps rm (eg_run rm R Q T_M_move f) Q c_M_move_60 kc ks loc st h := rfl
end
theorem q_M_move : (T_M_move.all fun q => eg_seq m_M_move q.1 q.2) = true := by decide +kernel
theorem b_M_move {as : List Value} {h : List eg_E} {Q : Option Value → List eg_E → Prop} (hf : (eg_fl as).length ≤ 4) (hw : wps (eg_rm m_M_move) (eg_run (eg_rm m_M_move) (eg_R m_M_move Q (h.length + 0)) Q T_M_move 6) Q c_M_move_0 0 0 (eg_entry 4 as) [] h) : eg_Runs n_M_move as h Q := eg_begin (d := m_M_move) rfl (by decide) (by decide +kernel) q_M_move hf hw
/-! ===== M_path ===== -/
def c_M_path_73 : List eg_I := .inl (73, 1, .lreturn, 0, 0) :: []
def c_M_path_70 : List eg_I := .inl (70, 3, .sipush (-1), 136, 0) :: c_M_path_73
def c_M_path_67 : List eg_I := .inl (67, 3, .goto (-48), 19, 0) :: []
def c_M_path_64 : List eg_I := .inl (64, 3, .iinc 3 (1), 0, 0) :: c_M_path_67
def c_M_path_63 : List eg_I := .inl (63, 1, .istore 2, 0, 0) :: c_M_path_64
def c_M_path_62 : List eg_I := .inl (62, 1, .iload 3, 0, 0) :: c_M_path_63
def c_M_path_61 : List eg_I := .inl (61, 1, .lreturn, 0, 0) :: []
def c_M_path_60 : List eg_I := .inl (60, 1, .i2l, 0, 0) :: c_M_path_61
def c_M_path_59 : List eg_I := .inl (59, 1, .iload 2, 0, 0) :: c_M_path_60
def c_M_path_56 : List eg_I := .inl (56, 3, .ifCond .lt (6), 62, 0) :: c_M_path_59
def c_M_path_53 : List eg_I := .inr (53, 1, 321, n_M_intoOf, 2, 12, 0, 0) :: c_M_path_56
def c_M_path_50 : List eg_I := .inr (50, 0, 103, n_M_at_II, 2, 12, 0, 0) :: c_M_path_53
def c_M_path_49 : List eg_I := .inl (49, 1, .iload 3, 0, 0) :: c_M_path_50
def c_M_path_48 : List eg_I := .inl (48, 1, .iload 1, 0, 0) :: c_M_path_49
def c_M_path_45 : List eg_I := .inr (45, 0, 103, n_M_at_II, 2, 12, 0, 0) :: c_M_path_48
def c_M_path_44 : List eg_I := .inl (44, 1, .iload 2, 0, 0) :: c_M_path_45
def c_M_path_43 : List eg_I := .inl (43, 1, .iload 1, 0, 0) :: c_M_path_44
def c_M_path_42 : List eg_I := .inl (42, 1, .aload 0, 0, 0) :: c_M_path_43
def c_M_path_39 : List eg_I := .inl (39, 3, .ifCond .lt (23), 62, 0) :: c_M_path_42
def c_M_path_38 : List eg_I := .inl (38, 1, .iload 2, 0, 0) :: c_M_path_39
def c_M_path_35 : List eg_I := .inl (35, 3, .ifCond .eq (29), 64, 0) :: c_M_path_38
def c_M_path_32 : List eg_I := .inr (32, 1, 185, n_M_isHere, 2, 12, 0, 0) :: c_M_path_35
def c_M_path_31 : List eg_I := .inl (31, 1, .iload 3, 0, 0) :: c_M_path_32
def c_M_path_30 : List eg_I := .inl (30, 1, .iload 1, 0, 0) :: c_M_path_31
def c_M_path_29 : List eg_I := .inl (29, 1, .aload 0, 0, 0) :: c_M_path_30
def c_M_path_26 : List eg_I := .inl (26, 3, .if_icmp .ge (44), 70, 0) :: c_M_path_29
def c_M_path_25 : List eg_I := .inl (25, 1, .iaload, 0, 0) :: c_M_path_26
def c_M_path_24 : List eg_I := .inl (24, 1, .iload 1, 0, 0) :: c_M_path_25
def c_M_path_21 : List eg_I := .inl (21, 3, .getfield 9, 12, 0) :: c_M_path_24
def c_M_path_20 : List eg_I := .inl (20, 1, .aload 0, 0, 0) :: c_M_path_21
def c_M_path_19 : List eg_I := .inl (19, 1, .iload 3, 0, 0) :: c_M_path_20
def c_M_path_18 : List eg_I := .inl (18, 1, .istore 3, 0, 0) :: [.inl (19, 0, .nop, 0, 0)]
def c_M_path_17 : List eg_I := .inl (17, 1, .iconst (0), 0, 0) :: c_M_path_18
def c_M_path_16 : List eg_I := .inl (16, 1, .istore 2, 0, 0) :: c_M_path_17
def c_M_path_15 : List eg_I := .inl (15, 1, .iconst (-1), 0, 0) :: c_M_path_16
def c_M_path_14 : List eg_I := .inl (14, 1, .lreturn, 0, 0) :: []
def c_M_path_11 : List eg_I := .inr (11, 1, 112, n_M_finding, 1, 12, 0, 0) :: c_M_path_14
def c_M_path_8 : List eg_I := .inl (8, 3, .sipush (-1000000000000000001), 110, 0) :: c_M_path_11
def c_M_path_7 : List eg_I := .inl (7, 1, .aload 0, 0, 0) :: c_M_path_8
def c_M_path_4 : List eg_I := .inl (4, 3, .ifCond .ne (11), 15, 0) :: c_M_path_7
def c_M_path_1 : List eg_I := .inr (1, 0, 99, n_M_isPart, 1, 12, 0, 0) :: c_M_path_4
def c_M_path_0 : List eg_I := .inl (0, 1, .iload 1, 0, 0) :: c_M_path_1
section
variable {rm : Room} {K : Nat → Nat → Nat → eg_Lo → List Value → List eg_E → Prop} {Q : Option Value → List eg_E → Prop} {kc ks : Nat} {loc : eg_Lo} {st : List Value} {h : List eg_E}
theorem s_M_path_0 {x : Int32} {l0 : Option Value} {l : eg_Lo} : wps rm K Q c_M_path_0 kc ks (l0 :: some (.int x) :: l) (st) h = wps rm K Q c_M_path_1 kc ks (l0 :: some (.int x) :: l) (.int x :: st) h := rfl
theorem s_M_path_1  {a1 : Value} : wps rm K Q c_M_path_1 kc ks loc (a1 :: st) h = (st.length ≤ 4 ∧ eg_Cs n_M_isPart [a1] h (fun v h9 => wps rm K Q c_M_path_4 kc ks loc (v.toList ++ st) h9)) := eg_c0_1
theorem s_M_path_4 {x : Int32} : wps rm K Q c_M_path_4 kc ks loc (.int x :: st) h = ((¬ x = 0 → K 15 kc ks loc st h) ∧ (x = 0 → wps rm K Q c_M_path_7 kc ks loc (st) h)) := rfl
theorem s_M_path_7 {x : Nat} {l : eg_Lo} : wps rm K Q c_M_path_7 kc ks (some (.ref x) :: l) (st) h = wps rm K Q c_M_path_8 kc ks (some (.ref x) :: l) (.ref x :: st) h := rfl
theorem s_M_path_8  : wps rm K Q c_M_path_8 kc ks loc (st) h = wps rm K Q c_M_path_11 kc ks loc (.long (-1000000000000000001) :: st) h := rfl
theorem s_M_path_11  {a1 : Value} {x : Nat} : wps rm K Q c_M_path_11 kc ks loc (a1 :: .ref (x + 1) :: st) h = (eg_cls h x 12 ∧ st.length ≤ 4 ∧ eg_Cs n_M_finding (.ref (x + 1) :: [a1]) h (fun v h9 => wps rm K Q c_M_path_14 kc ks loc (v.toList ++ st) h9)) := eg_c1_1
theorem s_M_path_14 {x : Int64} : wps rm K Q c_M_path_14 kc ks loc ([.long x]) h = (kc = rm.cells ∧ Q (some (.long x)) h) := rfl
theorem s_M_path_15  : wps rm K Q c_M_path_15 kc ks loc (st) h = wps rm K Q c_M_path_16 kc ks loc (.int (-1) :: st) h := rfl
theorem s_M_path_16 {x : Int32} : wps rm K Q c_M_path_16 kc ks loc (.int x :: st) h = wps rm K Q c_M_path_17 kc ks (eg_set1 loc 2 (.int x)) (st) h := rfl
theorem s_M_path_17  : wps rm K Q c_M_path_17 kc ks loc (st) h = wps rm K Q c_M_path_18 kc ks loc (.int (0) :: st) h := rfl
theorem s_M_path_18 {x : Int32} : wps rm K Q c_M_path_18 kc ks loc (.int x :: st) h = K 19 kc ks (eg_set1 loc 3 (.int x)) (st) h := rfl
theorem s_M_path_19 {x : Int32} {l0 l1 l2 : Option Value} {l : eg_Lo} : wps rm K Q c_M_path_19 kc ks (l0 :: l1 :: l2 :: some (.int x) :: l) (st) h = wps rm K Q c_M_path_20 kc ks (l0 :: l1 :: l2 :: some (.int x) :: l) (.int x :: st) h := rfl
theorem s_M_path_20 {x : Nat} {l : eg_Lo} : wps rm K Q c_M_path_20 kc ks (some (.ref x) :: l) (st) h = wps rm K Q c_M_path_21 kc ks (some (.ref x) :: l) (.ref x :: st) h := rfl
theorem s_M_path_21 {x : Nat} : wps rm K Q c_M_path_21 kc ks loc (.ref (x + 1) :: st) h = eg_gf h x 12 0 (fun v => wps rm K Q c_M_path_24 kc ks loc (v :: st) h) := rfl
theorem s_M_path_24 {x : Int32} {l0 : Option Value} {l : eg_Lo} : wps rm K Q c_M_path_24 kc ks (l0 :: some (.int x) :: l) (st) h = wps rm K Q c_M_path_25 kc ks (l0 :: some (.int x) :: l) (.int x :: st) h := rfl
theorem s_M_path_25 {x : Nat} {i : Int32} : wps rm K Q c_M_path_25 kc ks loc (.int i :: .ref (x + 1) :: st) h = eg_ia h x i (fun v => wps rm K Q c_M_path_26 kc ks loc (.int v :: st) h) := rfl
theorem s_M_path_26 {x y : Int32} : wps rm K Q c_M_path_26 kc ks loc (.int y :: .int x :: st) h = ((y ≤ x → K 70 kc ks loc st h) ∧ (¬ y ≤ x → wps rm K Q c_M_path_29 kc ks loc (st) h)) := rfl
theorem s_M_path_29 {x : Nat} {l : eg_Lo} : wps rm K Q c_M_path_29 kc ks (some (.ref x) :: l) (st) h = wps rm K Q c_M_path_30 kc ks (some (.ref x) :: l) (.ref x :: st) h := rfl
theorem s_M_path_30 {x : Int32} {l0 : Option Value} {l : eg_Lo} : wps rm K Q c_M_path_30 kc ks (l0 :: some (.int x) :: l) (st) h = wps rm K Q c_M_path_31 kc ks (l0 :: some (.int x) :: l) (.int x :: st) h := rfl
theorem s_M_path_31 {x : Int32} {l0 l1 l2 : Option Value} {l : eg_Lo} : wps rm K Q c_M_path_31 kc ks (l0 :: l1 :: l2 :: some (.int x) :: l) (st) h = wps rm K Q c_M_path_32 kc ks (l0 :: l1 :: l2 :: some (.int x) :: l) (.int x :: st) h := rfl
theorem s_M_path_32  {a1 : Value} {a2 : Value} {x : Nat} : wps rm K Q c_M_path_32 kc ks loc (a2 :: a1 :: .ref (x + 1) :: st) h = (eg_cls h x 12 ∧ st.length ≤ 4 ∧ eg_Cs n_M_isHere (.ref (x + 1) :: [a1, a2]) h (fun v h9 => wps rm K Q c_M_path_35 kc ks loc (v.toList ++ st) h9)) := eg_c1_2
theorem s_M_path_35 {x : Int32} : wps rm K Q c_M_path_35 kc ks loc (.int x :: st) h = ((x = 0 → K 64 kc ks loc st h) ∧ (¬ x = 0 → wps rm K Q c_M_path_38 kc ks loc (st) h)) := rfl
theorem s_M_path_38 {x : Int32} {l0 l1 : Option Value} {l : eg_Lo} : wps rm K Q c_M_path_38 kc ks (l0 :: l1 :: some (.int x) :: l) (st) h = wps rm K Q c_M_path_39 kc ks (l0 :: l1 :: some (.int x) :: l) (.int x :: st) h := rfl
theorem s_M_path_39 {x : Int32} : wps rm K Q c_M_path_39 kc ks loc (.int x :: st) h = ((x < 0 → K 62 kc ks loc st h) ∧ (¬ x < 0 → wps rm K Q c_M_path_42 kc ks loc (st) h)) := rfl
theorem s_M_path_42 {x : Nat} {l : eg_Lo} : wps rm K Q c_M_path_42 kc ks (some (.ref x) :: l) (st) h = wps rm K Q c_M_path_43 kc ks (some (.ref x) :: l) (.ref x :: st) h := rfl
theorem s_M_path_43 {x : Int32} {l0 : Option Value} {l : eg_Lo} : wps rm K Q c_M_path_43 kc ks (l0 :: some (.int x) :: l) (st) h = wps rm K Q c_M_path_44 kc ks (l0 :: some (.int x) :: l) (.int x :: st) h := rfl
theorem s_M_path_44 {x : Int32} {l0 l1 : Option Value} {l : eg_Lo} : wps rm K Q c_M_path_44 kc ks (l0 :: l1 :: some (.int x) :: l) (st) h = wps rm K Q c_M_path_45 kc ks (l0 :: l1 :: some (.int x) :: l) (.int x :: st) h := rfl
theorem s_M_path_45  {a1 : Value} {a2 : Value} : wps rm K Q c_M_path_45 kc ks loc (a2 :: a1 :: st) h = (st.length ≤ 4 ∧ eg_Cs n_M_at_II [a1, a2] h (fun v h9 => wps rm K Q c_M_path_48 kc ks loc (v.toList ++ st) h9)) := eg_c0_2
theorem s_M_path_48 {x : Int32} {l0 : Option Value} {l : eg_Lo} : wps rm K Q c_M_path_48 kc ks (l0 :: some (.int x) :: l) (st) h = wps rm K Q c_M_path_49 kc ks (l0 :: some (.int x) :: l) (.int x :: st) h := rfl
theorem s_M_path_49 {x : Int32} {l0 l1 l2 : Option Value} {l : eg_Lo} : wps rm K Q c_M_path_49 kc ks (l0 :: l1 :: l2 :: some (.int x) :: l) (st) h = wps rm K Q c_M_path_50 kc ks (l0 :: l1 :: l2 :: some (.int x) :: l) (.int x :: st) h := rfl
theorem s_M_path_50  {a1 : Value} {a2 : Value} : wps rm K Q c_M_path_50 kc ks loc (a2 :: a1 :: st) h = (st.length ≤ 4 ∧ eg_Cs n_M_at_II [a1, a2] h (fun v h9 => wps rm K Q c_M_path_53 kc ks loc (v.toList ++ st) h9)) := eg_c0_2
theorem s_M_path_53  {a1 : Value} {a2 : Value} {x : Nat} : wps rm K Q c_M_path_53 kc ks loc (a2 :: a1 :: .ref (x + 1) :: st) h = (eg_cls h x 12 ∧ st.length ≤ 4 ∧ eg_Cs n_M_intoOf (.ref (x + 1) :: [a1, a2]) h (fun v h9 => wps rm K Q c_M_path_56 kc ks loc (v.toList ++ st) h9)) := eg_c1_2
theorem s_M_path_56 {x : Int32} : wps rm K Q c_M_path_56 kc ks loc (.int x :: st) h = ((x < 0 → K 62 kc ks loc st h) ∧ (¬ x < 0 → wps rm K Q c_M_path_59 kc ks loc (st) h)) := rfl
theorem s_M_path_59 {x : Int32} {l0 l1 : Option Value} {l : eg_Lo} : wps rm K Q c_M_path_59 kc ks (l0 :: l1 :: some (.int x) :: l) (st) h = wps rm K Q c_M_path_60 kc ks (l0 :: l1 :: some (.int x) :: l) (.int x :: st) h := rfl
theorem s_M_path_60 {x : Int32} : wps rm K Q c_M_path_60 kc ks loc (.int x :: st) h = wps rm K Q c_M_path_61 kc ks loc (.long (x.toInt64) :: st) h := rfl
theorem s_M_path_61 {x : Int64} : wps rm K Q c_M_path_61 kc ks loc ([.long x]) h = (kc = rm.cells ∧ Q (some (.long x)) h) := rfl
theorem s_M_path_62 {x : Int32} {l0 l1 l2 : Option Value} {l : eg_Lo} : wps rm K Q c_M_path_62 kc ks (l0 :: l1 :: l2 :: some (.int x) :: l) (st) h = wps rm K Q c_M_path_63 kc ks (l0 :: l1 :: l2 :: some (.int x) :: l) (.int x :: st) h := rfl
theorem s_M_path_63 {x : Int32} : wps rm K Q c_M_path_63 kc ks loc (.int x :: st) h = wps rm K Q c_M_path_64 kc ks (eg_set1 loc 2 (.int x)) (st) h := rfl
theorem s_M_path_64 {x : Int32} {l0 l1 l2 : Option Value} {l9 : eg_Lo} : wps rm K Q c_M_path_64 kc ks (l0 :: l1 :: l2 :: some (.int x) :: l9) (st) h = wps rm K Q c_M_path_67 kc ks (eg_set1 (l0 :: l1 :: l2 :: some (.int x) :: l9) 3 (.int (x + (1)))) (st) h := rfl
theorem s_M_path_67  : wps rm K Q c_M_path_67 kc ks loc (st) h = K 19 kc ks loc st h := rfl
theorem s_M_path_70  : wps rm K Q c_M_path_70 kc ks loc (st) h = wps rm K Q c_M_path_73 kc ks loc (.long (-1) :: st) h := rfl
theorem s_M_path_73 {x : Int64} : wps rm K Q c_M_path_73 kc ks loc ([.long x]) h = (kc = rm.cells ∧ Q (some (.long x)) h) := rfl
def T_M_path : List (Nat × List eg_I) := [(15, c_M_path_15), (62, c_M_path_62), (64, c_M_path_64), (70, c_M_path_70)]
theorem j_M_path_15 {R : Nat → Nat → Nat → eg_Lo → List Value → List eg_E → Prop} {f pc0 : Nat} : eg_run rm R Q T_M_path (f + 1) 15 kc ks loc st h = wps rm (eg_run rm R Q T_M_path f) Q c_M_path_15 kc ks loc st h := rfl
theorem j_M_path_62 {R : Nat → Nat → Nat → eg_Lo → List Value → List eg_E → Prop} {f pc0 : Nat} : eg_run rm R Q T_M_path (f + 1) 62 kc ks loc st h = wps rm (eg_run rm R Q T_M_path f) Q c_M_path_62 kc ks loc st h := rfl
theorem j_M_path_64 {R : Nat → Nat → Nat → eg_Lo → List Value → List eg_E → Prop} {f pc0 : Nat} : eg_run rm R Q T_M_path (f + 1) 64 kc ks loc st h = wps rm (eg_run rm R Q T_M_path f) Q c_M_path_64 kc ks loc st h := rfl
theorem j_M_path_70 {R : Nat → Nat → Nat → eg_Lo → List Value → List eg_E → Prop} {f pc0 : Nat} : eg_run rm R Q T_M_path (f + 1) 70 kc ks loc st h = wps rm (eg_run rm R Q T_M_path f) Q c_M_path_70 kc ks loc st h := rfl
theorem j_M_path_19 {R : Nat → Nat → Nat → eg_Lo → List Value → List eg_E → Prop} {f pc0 : Nat} : eg_run rm R Q T_M_path (f + 1) 19 kc ks loc st h = R 19 kc ks loc st h := rfl
end
theorem q_M_path : (T_M_path.all fun q => eg_seq m_M_path q.1 q.2) = true := by decide +kernel
theorem b_M_path {as : List Value} {h : List eg_E} {Q : Option Value → List eg_E → Prop} (hf : (eg_fl as).length ≤ 4) (hw : wps (eg_rm m_M_path) (eg_run (eg_rm m_M_path) (eg_R m_M_path Q (h.length + 0)) Q T_M_path 6) Q c_M_path_0 0 0 (eg_entry 4 as) [] h) : eg_Runs n_M_path as h Q := eg_begin (d := m_M_path) rfl (by decide) (by decide +kernel) q_M_path hf hw
theorem p_M_path_19 {Q : Option Value → List eg_E → Prop} {n0 kc ks : Nat} {loc : eg_Lo} {st : List Value} {h : List eg_E} (hw : wps (eg_rm m_M_path) (eg_run (eg_rm m_M_path) (eg_R m_M_path Q n0) Q T_M_path 6) Q c_M_path_19 kc ks loc st h) : eg_R m_M_path Q n0 19 kc ks loc st h := eg_go (by decide +kernel) q_M_path hw
/-! ===== M_told ===== -/
def c_M_told_89 : List eg_I := .inl (89, 1, .lreturn, 0, 0) :: []
def c_M_told_86 : List eg_I := .inl (86, 3, .getfield 91, 12, 26) :: c_M_told_89
def c_M_told_85 : List eg_I := .inl (85, 1, .aload 0, 0, 0) :: c_M_told_86
def c_M_told_82 : List eg_I := .inl (82, 3, .goto (7), 89, 0) :: []
def c_M_told_81 : List eg_I := .inl (81, 1, .i2l, 0, 0) :: c_M_told_82
def c_M_told_78 : List eg_I := .inl (78, 3, .getfield 296, 12, 20) :: c_M_told_81
def c_M_told_77 : List eg_I := .inl (77, 1, .aload 0, 0, 0) :: c_M_told_78
def c_M_told_74 : List eg_I := .inl (74, 3, .if_icmp .ne (11), 85, 0) :: c_M_told_77
def c_M_told_73 : List eg_I := .inl (73, 1, .iconst (2), 0, 0) :: c_M_told_74
def c_M_told_72 : List eg_I := .inl (72, 1, .iload 1, 0, 0) :: c_M_told_73
def c_M_told_69 : List eg_I := .inl (69, 3, .goto (20), 89, 0) :: []
def c_M_told_68 : List eg_I := .inl (68, 1, .i2l, 0, 0) :: c_M_told_69
def c_M_told_65 : List eg_I := .inl (65, 3, .getfield 277, 12, 17) :: c_M_told_68
def c_M_told_64 : List eg_I := .inl (64, 1, .aload 0, 0, 0) :: c_M_told_65
def c_M_told_61 : List eg_I := .inl (61, 3, .if_icmp .ne (11), 72, 0) :: c_M_told_64
def c_M_told_60 : List eg_I := .inl (60, 1, .iconst (1), 0, 0) :: c_M_told_61
def c_M_told_59 : List eg_I := .inl (59, 1, .iload 1, 0, 0) :: c_M_told_60
def c_M_told_56 : List eg_I := .inl (56, 3, .goto (33), 89, 0) :: []
def c_M_told_55 : List eg_I := .inl (55, 1, .i2l, 0, 0) :: c_M_told_56
def c_M_told_54 : List eg_I := .inl (54, 1, .iload 2, 0, 0) :: c_M_told_55
def c_M_told_51 : List eg_I := .inl (51, 3, .ifCond .ne (8), 59, 0) :: c_M_told_54
def c_M_told_50 : List eg_I := .inl (50, 1, .iload 1, 0, 0) :: c_M_told_51
def c_M_told_47 : List eg_I := .inl (47, 3, .goto (-26), 21, 0) :: []
def c_M_told_44 : List eg_I := .inl (44, 3, .iinc 3 (1), 0, 0) :: c_M_told_47
def c_M_told_43 : List eg_I := .inl (43, 1, .istore 2, 0, 0) :: c_M_told_44
def c_M_told_42 : List eg_I := .inl (42, 1, .iadd, 0, 0) :: c_M_told_43
def c_M_told_41 : List eg_I := .inl (41, 1, .iconst (0), 0, 0) :: c_M_told_42
def c_M_told_38 : List eg_I := .inl (38, 3, .goto (4), 42, 0) :: []
def c_M_told_37 : List eg_I := .inl (37, 1, .iconst (1), 0, 0) :: c_M_told_38
def c_M_told_34 : List eg_I := .inl (34, 3, .ifCond .le (7), 41, 0) :: c_M_told_37
def c_M_told_33 : List eg_I := .inl (33, 1, .iaload, 0, 0) :: c_M_told_34
def c_M_told_32 : List eg_I := .inl (32, 1, .iload 3, 0, 0) :: c_M_told_33
def c_M_told_29 : List eg_I := .inl (29, 3, .getfield 32, 12, 7) :: c_M_told_32
def c_M_told_28 : List eg_I := .inl (28, 1, .aload 0, 0, 0) :: c_M_told_29
def c_M_told_27 : List eg_I := .inl (27, 1, .iload 2, 0, 0) :: c_M_told_28
def c_M_told_24 : List eg_I := .inl (24, 3, .if_icmp .ge (26), 50, 0) :: c_M_told_27
def c_M_told_22 : List eg_I := .inl (22, 2, .iconst (6), 0, 0) :: c_M_told_24
def c_M_told_21 : List eg_I := .inl (21, 1, .iload 3, 0, 0) :: c_M_told_22
def c_M_told_20 : List eg_I := .inl (20, 1, .istore 3, 0, 0) :: [.inl (21, 0, .nop, 0, 0)]
def c_M_told_19 : List eg_I := .inl (19, 1, .iconst (0), 0, 0) :: c_M_told_20
def c_M_told_18 : List eg_I := .inl (18, 1, .istore 2, 0, 0) :: c_M_told_19
def c_M_told_17 : List eg_I := .inl (17, 1, .iconst (0), 0, 0) :: c_M_told_18
def c_M_told_16 : List eg_I := .inl (16, 1, .lreturn, 0, 0) :: []
def c_M_told_13 : List eg_I := .inr (13, 1, 112, n_M_finding, 1, 12, 0, 0) :: c_M_told_16
def c_M_told_10 : List eg_I := .inl (10, 3, .sipush (-1000000000000000001), 110, 0) :: c_M_told_13
def c_M_told_9 : List eg_I := .inl (9, 1, .aload 0, 0, 0) :: c_M_told_10
def c_M_told_6 : List eg_I := .inl (6, 3, .ifCond .ne (11), 17, 0) :: c_M_told_9
def c_M_told_3 : List eg_I := .inr (3, 0, 95, n_M_isIn, 3, 12, 0, 0) :: c_M_told_6
def c_M_told_2 : List eg_I := .inl (2, 1, .iconst (3), 0, 0) :: c_M_told_3
def c_M_told_1 : List eg_I := .inl (1, 1, .iconst (0), 0, 0) :: c_M_told_2
def c_M_told_0 : List eg_I := .inl (0, 1, .iload 1, 0, 0) :: c_M_told_1
section
variable {rm : Room} {K : Nat → Nat → Nat → eg_Lo → List Value → List eg_E → Prop} {Q : Option Value → List eg_E → Prop} {kc ks : Nat} {loc : eg_Lo} {st : List Value} {h : List eg_E}
theorem s_M_told_0 {x : Int32} {l0 : Option Value} {l : eg_Lo} : wps rm K Q c_M_told_0 kc ks (l0 :: some (.int x) :: l) (st) h = wps rm K Q c_M_told_1 kc ks (l0 :: some (.int x) :: l) (.int x :: st) h := rfl
theorem s_M_told_1  : wps rm K Q c_M_told_1 kc ks loc (st) h = wps rm K Q c_M_told_2 kc ks loc (.int (0) :: st) h := rfl
theorem s_M_told_2  : wps rm K Q c_M_told_2 kc ks loc (st) h = wps rm K Q c_M_told_3 kc ks loc (.int (3) :: st) h := rfl
theorem s_M_told_3  {a1 : Value} {a2 : Value} {a3 : Value} : wps rm K Q c_M_told_3 kc ks loc (a3 :: a2 :: a1 :: st) h = (st.length ≤ 4 ∧ eg_Cs n_M_isIn [a1, a2, a3] h (fun v h9 => wps rm K Q c_M_told_6 kc ks loc (v.toList ++ st) h9)) := eg_c0_3
theorem s_M_told_6 {x : Int32} : wps rm K Q c_M_told_6 kc ks loc (.int x :: st) h = ((¬ x = 0 → K 17 kc ks loc st h) ∧ (x = 0 → wps rm K Q c_M_told_9 kc ks loc (st) h)) := rfl
theorem s_M_told_9 {x : Nat} {l : eg_Lo} : wps rm K Q c_M_told_9 kc ks (some (.ref x) :: l) (st) h = wps rm K Q c_M_told_10 kc ks (some (.ref x) :: l) (.ref x :: st) h := rfl
theorem s_M_told_10  : wps rm K Q c_M_told_10 kc ks loc (st) h = wps rm K Q c_M_told_13 kc ks loc (.long (-1000000000000000001) :: st) h := rfl
theorem s_M_told_13  {a1 : Value} {x : Nat} : wps rm K Q c_M_told_13 kc ks loc (a1 :: .ref (x + 1) :: st) h = (eg_cls h x 12 ∧ st.length ≤ 4 ∧ eg_Cs n_M_finding (.ref (x + 1) :: [a1]) h (fun v h9 => wps rm K Q c_M_told_16 kc ks loc (v.toList ++ st) h9)) := eg_c1_1
theorem s_M_told_16 {x : Int64} : wps rm K Q c_M_told_16 kc ks loc ([.long x]) h = (kc = rm.cells ∧ Q (some (.long x)) h) := rfl
theorem s_M_told_17  : wps rm K Q c_M_told_17 kc ks loc (st) h = wps rm K Q c_M_told_18 kc ks loc (.int (0) :: st) h := rfl
theorem s_M_told_18 {x : Int32} : wps rm K Q c_M_told_18 kc ks loc (.int x :: st) h = wps rm K Q c_M_told_19 kc ks (eg_set1 loc 2 (.int x)) (st) h := rfl
theorem s_M_told_19  : wps rm K Q c_M_told_19 kc ks loc (st) h = wps rm K Q c_M_told_20 kc ks loc (.int (0) :: st) h := rfl
theorem s_M_told_20 {x : Int32} : wps rm K Q c_M_told_20 kc ks loc (.int x :: st) h = K 21 kc ks (eg_set1 loc 3 (.int x)) (st) h := rfl
theorem s_M_told_21 {x : Int32} {l0 l1 l2 : Option Value} {l : eg_Lo} : wps rm K Q c_M_told_21 kc ks (l0 :: l1 :: l2 :: some (.int x) :: l) (st) h = wps rm K Q c_M_told_22 kc ks (l0 :: l1 :: l2 :: some (.int x) :: l) (.int x :: st) h := rfl
theorem s_M_told_22  : wps rm K Q c_M_told_22 kc ks loc (st) h = wps rm K Q c_M_told_24 kc ks loc (.int (6) :: st) h := rfl
theorem s_M_told_24 {x y : Int32} : wps rm K Q c_M_told_24 kc ks loc (.int y :: .int x :: st) h = ((y ≤ x → K 50 kc ks loc st h) ∧ (¬ y ≤ x → wps rm K Q c_M_told_27 kc ks loc (st) h)) := rfl
theorem s_M_told_27 {x : Int32} {l0 l1 : Option Value} {l : eg_Lo} : wps rm K Q c_M_told_27 kc ks (l0 :: l1 :: some (.int x) :: l) (st) h = wps rm K Q c_M_told_28 kc ks (l0 :: l1 :: some (.int x) :: l) (.int x :: st) h := rfl
theorem s_M_told_28 {x : Nat} {l : eg_Lo} : wps rm K Q c_M_told_28 kc ks (some (.ref x) :: l) (st) h = wps rm K Q c_M_told_29 kc ks (some (.ref x) :: l) (.ref x :: st) h := rfl
theorem s_M_told_29 {x : Nat} : wps rm K Q c_M_told_29 kc ks loc (.ref (x + 1) :: st) h = eg_gf h x 12 7 (fun v => wps rm K Q c_M_told_32 kc ks loc (v :: st) h) := rfl
theorem s_M_told_32 {x : Int32} {l0 l1 l2 : Option Value} {l : eg_Lo} : wps rm K Q c_M_told_32 kc ks (l0 :: l1 :: l2 :: some (.int x) :: l) (st) h = wps rm K Q c_M_told_33 kc ks (l0 :: l1 :: l2 :: some (.int x) :: l) (.int x :: st) h := rfl
theorem s_M_told_33 {x : Nat} {i : Int32} : wps rm K Q c_M_told_33 kc ks loc (.int i :: .ref (x + 1) :: st) h = eg_ia h x i (fun v => wps rm K Q c_M_told_34 kc ks loc (.int v :: st) h) := rfl
theorem s_M_told_34 {x : Int32} : wps rm K Q c_M_told_34 kc ks loc (.int x :: st) h = ((x ≤ 0 → K 41 kc ks loc st h) ∧ (¬ x ≤ 0 → wps rm K Q c_M_told_37 kc ks loc (st) h)) := rfl
theorem s_M_told_37  : wps rm K Q c_M_told_37 kc ks loc (st) h = wps rm K Q c_M_told_38 kc ks loc (.int (1) :: st) h := rfl
theorem s_M_told_38  : wps rm K Q c_M_told_38 kc ks loc (st) h = K 42 kc ks loc st h := rfl
theorem s_M_told_41  : wps rm K Q c_M_told_41 kc ks loc (st) h = wps rm K Q c_M_told_42 kc ks loc (.int (0) :: st) h := rfl
theorem s_M_told_42 {x y : Int32} : wps rm K Q c_M_told_42 kc ks loc (.int y :: .int x :: st) h = wps rm K Q c_M_told_43 kc ks loc (.int (x + y) :: st) h := rfl
theorem s_M_told_43 {x : Int32} : wps rm K Q c_M_told_43 kc ks loc (.int x :: st) h = wps rm K Q c_M_told_44 kc ks (eg_set1 loc 2 (.int x)) (st) h := rfl
theorem s_M_told_44 {x : Int32} {l0 l1 l2 : Option Value} {l9 : eg_Lo} : wps rm K Q c_M_told_44 kc ks (l0 :: l1 :: l2 :: some (.int x) :: l9) (st) h = wps rm K Q c_M_told_47 kc ks (eg_set1 (l0 :: l1 :: l2 :: some (.int x) :: l9) 3 (.int (x + (1)))) (st) h := rfl
theorem s_M_told_47  : wps rm K Q c_M_told_47 kc ks loc (st) h = K 21 kc ks loc st h := rfl
theorem s_M_told_50 {x : Int32} {l0 : Option Value} {l : eg_Lo} : wps rm K Q c_M_told_50 kc ks (l0 :: some (.int x) :: l) (st) h = wps rm K Q c_M_told_51 kc ks (l0 :: some (.int x) :: l) (.int x :: st) h := rfl
theorem s_M_told_51 {x : Int32} : wps rm K Q c_M_told_51 kc ks loc (.int x :: st) h = ((¬ x = 0 → K 59 kc ks loc st h) ∧ (x = 0 → wps rm K Q c_M_told_54 kc ks loc (st) h)) := rfl
theorem s_M_told_54 {x : Int32} {l0 l1 : Option Value} {l : eg_Lo} : wps rm K Q c_M_told_54 kc ks (l0 :: l1 :: some (.int x) :: l) (st) h = wps rm K Q c_M_told_55 kc ks (l0 :: l1 :: some (.int x) :: l) (.int x :: st) h := rfl
theorem s_M_told_55 {x : Int32} : wps rm K Q c_M_told_55 kc ks loc (.int x :: st) h = wps rm K Q c_M_told_56 kc ks loc (.long (x.toInt64) :: st) h := rfl
theorem s_M_told_56  : wps rm K Q c_M_told_56 kc ks loc (st) h = K 89 kc ks loc st h := rfl
theorem s_M_told_59 {x : Int32} {l0 : Option Value} {l : eg_Lo} : wps rm K Q c_M_told_59 kc ks (l0 :: some (.int x) :: l) (st) h = wps rm K Q c_M_told_60 kc ks (l0 :: some (.int x) :: l) (.int x :: st) h := rfl
theorem s_M_told_60  : wps rm K Q c_M_told_60 kc ks loc (st) h = wps rm K Q c_M_told_61 kc ks loc (.int (1) :: st) h := rfl
theorem s_M_told_61 {x y : Int32} : wps rm K Q c_M_told_61 kc ks loc (.int y :: .int x :: st) h = ((¬ x = y → K 72 kc ks loc st h) ∧ (x = y → wps rm K Q c_M_told_64 kc ks loc (st) h)) := rfl
theorem s_M_told_64 {x : Nat} {l : eg_Lo} : wps rm K Q c_M_told_64 kc ks (some (.ref x) :: l) (st) h = wps rm K Q c_M_told_65 kc ks (some (.ref x) :: l) (.ref x :: st) h := rfl
theorem s_M_told_65 {x : Nat} : wps rm K Q c_M_told_65 kc ks loc (.ref (x + 1) :: st) h = eg_gf h x 12 17 (fun v => wps rm K Q c_M_told_68 kc ks loc (v :: st) h) := rfl
theorem s_M_told_68 {x : Int32} : wps rm K Q c_M_told_68 kc ks loc (.int x :: st) h = wps rm K Q c_M_told_69 kc ks loc (.long (x.toInt64) :: st) h := rfl
theorem s_M_told_69  : wps rm K Q c_M_told_69 kc ks loc (st) h = K 89 kc ks loc st h := rfl
theorem s_M_told_72 {x : Int32} {l0 : Option Value} {l : eg_Lo} : wps rm K Q c_M_told_72 kc ks (l0 :: some (.int x) :: l) (st) h = wps rm K Q c_M_told_73 kc ks (l0 :: some (.int x) :: l) (.int x :: st) h := rfl
theorem s_M_told_73  : wps rm K Q c_M_told_73 kc ks loc (st) h = wps rm K Q c_M_told_74 kc ks loc (.int (2) :: st) h := rfl
theorem s_M_told_74 {x y : Int32} : wps rm K Q c_M_told_74 kc ks loc (.int y :: .int x :: st) h = ((¬ x = y → K 85 kc ks loc st h) ∧ (x = y → wps rm K Q c_M_told_77 kc ks loc (st) h)) := rfl
theorem s_M_told_77 {x : Nat} {l : eg_Lo} : wps rm K Q c_M_told_77 kc ks (some (.ref x) :: l) (st) h = wps rm K Q c_M_told_78 kc ks (some (.ref x) :: l) (.ref x :: st) h := rfl
theorem s_M_told_78 {x : Nat} : wps rm K Q c_M_told_78 kc ks loc (.ref (x + 1) :: st) h = eg_gf h x 12 20 (fun v => wps rm K Q c_M_told_81 kc ks loc (v :: st) h) := rfl
theorem s_M_told_81 {x : Int32} : wps rm K Q c_M_told_81 kc ks loc (.int x :: st) h = wps rm K Q c_M_told_82 kc ks loc (.long (x.toInt64) :: st) h := rfl
theorem s_M_told_82  : wps rm K Q c_M_told_82 kc ks loc (st) h = K 89 kc ks loc st h := rfl
theorem s_M_told_85 {x : Nat} {l : eg_Lo} : wps rm K Q c_M_told_85 kc ks (some (.ref x) :: l) (st) h = wps rm K Q c_M_told_86 kc ks (some (.ref x) :: l) (.ref x :: st) h := rfl
theorem s_M_told_86 {x : Nat} : wps rm K Q c_M_told_86 kc ks loc (.ref (x + 1) :: st) h = eg_gf h x 12 26 (fun v => wps rm K Q c_M_told_89 kc ks loc (v :: st) h) := rfl
theorem s_M_told_89 {x : Int64} : wps rm K Q c_M_told_89 kc ks loc ([.long x]) h = (kc = rm.cells ∧ Q (some (.long x)) h) := rfl
def T_M_told : List (Nat × List eg_I) := [(17, c_M_told_17), (41, c_M_told_41), (42, c_M_told_42), (50, c_M_told_50), (59, c_M_told_59), (72, c_M_told_72), (85, c_M_told_85), (89, c_M_told_89)]
theorem j_M_told_17 {R : Nat → Nat → Nat → eg_Lo → List Value → List eg_E → Prop} {f pc0 : Nat} : eg_run rm R Q T_M_told (f + 1) 17 kc ks loc st h = wps rm (eg_run rm R Q T_M_told f) Q c_M_told_17 kc ks loc st h := rfl
theorem j_M_told_41 {R : Nat → Nat → Nat → eg_Lo → List Value → List eg_E → Prop} {f pc0 : Nat} : eg_run rm R Q T_M_told (f + 1) 41 kc ks loc st h = wps rm (eg_run rm R Q T_M_told f) Q c_M_told_41 kc ks loc st h := rfl
theorem j_M_told_42 {R : Nat → Nat → Nat → eg_Lo → List Value → List eg_E → Prop} {f pc0 : Nat} : eg_run rm R Q T_M_told (f + 1) 42 kc ks loc st h = wps rm (eg_run rm R Q T_M_told f) Q c_M_told_42 kc ks loc st h := rfl
theorem j_M_told_50 {R : Nat → Nat → Nat → eg_Lo → List Value → List eg_E → Prop} {f pc0 : Nat} : eg_run rm R Q T_M_told (f + 1) 50 kc ks loc st h = wps rm (eg_run rm R Q T_M_told f) Q c_M_told_50 kc ks loc st h := rfl
theorem j_M_told_59 {R : Nat → Nat → Nat → eg_Lo → List Value → List eg_E → Prop} {f pc0 : Nat} : eg_run rm R Q T_M_told (f + 1) 59 kc ks loc st h = wps rm (eg_run rm R Q T_M_told f) Q c_M_told_59 kc ks loc st h := rfl
theorem j_M_told_72 {R : Nat → Nat → Nat → eg_Lo → List Value → List eg_E → Prop} {f pc0 : Nat} : eg_run rm R Q T_M_told (f + 1) 72 kc ks loc st h = wps rm (eg_run rm R Q T_M_told f) Q c_M_told_72 kc ks loc st h := rfl
theorem j_M_told_85 {R : Nat → Nat → Nat → eg_Lo → List Value → List eg_E → Prop} {f pc0 : Nat} : eg_run rm R Q T_M_told (f + 1) 85 kc ks loc st h = wps rm (eg_run rm R Q T_M_told f) Q c_M_told_85 kc ks loc st h := rfl
theorem j_M_told_89 {R : Nat → Nat → Nat → eg_Lo → List Value → List eg_E → Prop} {f pc0 : Nat} : eg_run rm R Q T_M_told (f + 1) 89 kc ks loc st h = wps rm (eg_run rm R Q T_M_told f) Q c_M_told_89 kc ks loc st h := rfl
theorem j_M_told_21 {R : Nat → Nat → Nat → eg_Lo → List Value → List eg_E → Prop} {f pc0 : Nat} : eg_run rm R Q T_M_told (f + 1) 21 kc ks loc st h = R 21 kc ks loc st h := rfl
end
theorem q_M_told : (T_M_told.all fun q => eg_seq m_M_told q.1 q.2) = true := by decide +kernel
theorem b_M_told {as : List Value} {h : List eg_E} {Q : Option Value → List eg_E → Prop} (hf : (eg_fl as).length ≤ 4) (hw : wps (eg_rm m_M_told) (eg_run (eg_rm m_M_told) (eg_R m_M_told Q (h.length + 0)) Q T_M_told 10) Q c_M_told_0 0 0 (eg_entry 4 as) [] h) : eg_Runs n_M_told as h Q := eg_begin (d := m_M_told) rfl (by decide) (by decide +kernel) q_M_told hf hw
theorem p_M_told_21 {Q : Option Value → List eg_E → Prop} {n0 kc ks : Nat} {loc : eg_Lo} {st : List Value} {h : List eg_E} (hw : wps (eg_rm m_M_told) (eg_run (eg_rm m_M_told) (eg_R m_M_told Q n0) Q T_M_told 10) Q c_M_told_21 kc ks loc st h) : eg_R m_M_told Q n0 21 kc ks loc st h := eg_go (by decide +kernel) q_M_told hw
