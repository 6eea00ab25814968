/-! ===== M_init ===== -/
def c_M_init_209 : List eg_I := .inl (209, 1, .return_, 0, 0) :: []
def c_M_init_206 : List eg_I := .inl (206, 3, .putfield 88, 12, 33) :: c_M_init_209
def c_M_init_204 : List eg_I := .inl (204, 2, .newarray .long, 1, 0) :: c_M_init_206
def c_M_init_203 : List eg_I := .inl (203, 1, .iconst (3), 0, 0) :: c_M_init_204
def c_M_init_202 : List eg_I := .inl (202, 1, .aload 0, 0, 0) :: c_M_init_203
def c_M_init_199 : List eg_I := .inl (199, 3, .putfield 85, 12, 28) :: c_M_init_202
def c_M_init_197 : List eg_I := .inl (197, 2, .newarray .double, 3, 0) :: c_M_init_199
def c_M_init_195 : List eg_I := .inl (195, 2, .iconst (48), 0, 0) :: c_M_init_197
def c_M_init_194 : List eg_I := .inl (194, 1, .aload 0, 0, 0) :: c_M_init_195
def c_M_init_191 : List eg_I := .inl (191, 3, .putfield 82, 12, 27) :: c_M_init_194
def c_M_init_189 : List eg_I := .inl (189, 2, .newarray .int, 0, 0) :: c_M_init_191
def c_M_init_187 : List eg_I := .inl (187, 2, .iconst (48), 0, 0) :: c_M_init_189
def c_M_init_186 : List eg_I := .inl (186, 1, .aload 0, 0, 0) :: c_M_init_187
def c_M_init_183 : List eg_I := .inl (183, 3, .putfield 78, 12, 25) :: c_M_init_186
def c_M_init_181 : List eg_I := .inl (181, 2, .newarray .double, 3, 0) :: c_M_init_183
def c_M_init_178 : List eg_I := .inl (178, 3, .iconst (192), 0, 0) :: c_M_init_181
def c_M_init_177 : List eg_I := .inl (177, 1, .aload 0, 0, 0) :: c_M_init_178
def c_M_init_174 : List eg_I := .inl (174, 3, .putfield 75, 12, 24) :: c_M_init_177
def c_M_init_172 : List eg_I := .inl (172, 2, .newarray .int, 0, 0) :: c_M_init_174
def c_M_init_169 : List eg_I := .inl (169, 3, .iconst (192), 0, 0) :: c_M_init_172
def c_M_init_168 : List eg_I := .inl (168, 1, .aload 0, 0, 0) :: c_M_init_169
def c_M_init_165 : List eg_I := .inl (165, 3, .putfield 72, 12, 23) :: c_M_init_168
def c_M_init_163 : List eg_I := .inl (163, 2, .newarray .int, 0, 0) :: c_M_init_165
def c_M_init_162 : List eg_I := .inl (162, 1, .iconst (4), 0, 0) :: c_M_init_163
def c_M_init_161 : List eg_I := .inl (161, 1, .aload 0, 0, 0) :: c_M_init_162
def c_M_init_158 : List eg_I := .inl (158, 3, .putfield 69, 12, 22) :: c_M_init_161
def c_M_init_156 : List eg_I := .inl (156, 2, .newarray .int, 0, 0) :: c_M_init_158
def c_M_init_155 : List eg_I := .inl (155, 1, .iconst (4), 0, 0) :: c_M_init_156
def c_M_init_154 : List eg_I := .inl (154, 1, .aload 0, 0, 0) :: c_M_init_155
def c_M_init_151 : List eg_I := .inl (151, 3, .putfield 66, 12, 21) :: c_M_init_154
def c_M_init_149 : List eg_I := .inl (149, 2, .newarray .int, 0, 0) :: c_M_init_151
def c_M_init_147 : List eg_I := .inl (147, 2, .iconst (36), 0, 0) :: c_M_init_149
def c_M_init_146 : List eg_I := .inl (146, 1, .aload 0, 0, 0) :: c_M_init_147
def c_M_init_143 : List eg_I := .inl (143, 3, .putfield 63, 12, 19) :: c_M_init_146
def c_M_init_141 : List eg_I := .inl (141, 2, .newarray .int, 0, 0) :: c_M_init_143
def c_M_init_139 : List eg_I := .inl (139, 2, .iconst (10), 0, 0) :: c_M_init_141
def c_M_init_138 : List eg_I := .inl (138, 1, .aload 0, 0, 0) :: c_M_init_139
def c_M_init_135 : List eg_I := .inl (135, 3, .putfield 60, 12, 18) :: c_M_init_138
def c_M_init_133 : List eg_I := .inl (133, 2, .newarray .int, 0, 0) :: c_M_init_135
def c_M_init_131 : List eg_I := .inl (131, 2, .iconst (10), 0, 0) :: c_M_init_133
def c_M_init_130 : List eg_I := .inl (130, 1, .aload 0, 0, 0) :: c_M_init_131
def c_M_init_127 : List eg_I := .inl (127, 3, .putfield 57, 12, 16) :: c_M_init_130
def c_M_init_125 : List eg_I := .inl (125, 2, .newarray .int, 0, 0) :: c_M_init_127
def c_M_init_124 : List eg_I := .inl (124, 1, .iconst (3), 0, 0) :: c_M_init_125
def c_M_init_123 : List eg_I := .inl (123, 1, .aload 0, 0, 0) :: c_M_init_124
def c_M_init_120 : List eg_I := .inl (120, 3, .putfield 54, 12, 15) :: c_M_init_123
def c_M_init_118 : List eg_I := .inl (118, 2, .newarray .long, 1, 0) :: c_M_init_120
def c_M_init_116 : List eg_I := .inl (116, 2, .iconst (9), 0, 0) :: c_M_init_118
def c_M_init_115 : List eg_I := .inl (115, 1, .aload 0, 0, 0) :: c_M_init_116
def c_M_init_112 : List eg_I := .inl (112, 3, .putfield 51, 12, 13) :: c_M_init_115
def c_M_init_110 : List eg_I := .inl (110, 2, .newarray .long, 1, 0) :: c_M_init_112
def c_M_init_108 : List eg_I := .inl (108, 2, .iconst (24), 0, 0) :: c_M_init_110
def c_M_init_107 : List eg_I := .inl (107, 1, .aload 0, 0, 0) :: c_M_init_108
def c_M_init_104 : List eg_I := .inl (104, 3, .putfield 48, 12, 12) :: c_M_init_107
def c_M_init_102 : List eg_I := .inl (102, 2, .newarray .long, 1, 0) :: c_M_init_104
def c_M_init_100 : List eg_I := .inl (100, 2, .iconst (18), 0, 0) :: c_M_init_102
def c_M_init_99 : List eg_I := .inl (99, 1, .aload 0, 0, 0) :: c_M_init_100
def c_M_init_96 : List eg_I := .inl (96, 3, .putfield 45, 12, 11) :: c_M_init_99
def c_M_init_94 : List eg_I := .inl (94, 2, .newarray .long, 1, 0) :: c_M_init_96
def c_M_init_92 : List eg_I := .inl (92, 2, .iconst (6), 0, 0) :: c_M_init_94
def c_M_init_91 : List eg_I := .inl (91, 1, .aload 0, 0, 0) :: c_M_init_92
def c_M_init_88 : List eg_I := .inl (88, 3, .putfield 41, 12, 10) :: c_M_init_91
def c_M_init_86 : List eg_I := .inl (86, 2, .newarray .long, 1, 0) :: c_M_init_88
def c_M_init_84 : List eg_I := .inl (84, 2, .iconst (6), 0, 0) :: c_M_init_86
def c_M_init_83 : List eg_I := .inl (83, 1, .aload 0, 0, 0) :: c_M_init_84
def c_M_init_80 : List eg_I := .inl (80, 3, .putfield 38, 12, 9) :: c_M_init_83
def c_M_init_78 : List eg_I := .inl (78, 2, .newarray .int, 0, 0) :: c_M_init_80
def c_M_init_76 : List eg_I := .inl (76, 2, .iconst (36), 0, 0) :: c_M_init_78
def c_M_init_75 : List eg_I := .inl (75, 1, .aload 0, 0, 0) :: c_M_init_76
def c_M_init_72 : List eg_I := .inl (72, 3, .putfield 35, 12, 8) :: c_M_init_75
def c_M_init_70 : List eg_I := .inl (70, 2, .newarray .int, 0, 0) :: c_M_init_72
def c_M_init_68 : List eg_I := .inl (68, 2, .iconst (6), 0, 0) :: c_M_init_70
def c_M_init_67 : List eg_I := .inl (67, 1, .aload 0, 0, 0) :: c_M_init_68
def c_M_init_64 : List eg_I := .inl (64, 3, .putfield 32, 12, 7) :: c_M_init_67
def c_M_init_62 : List eg_I := .inl (62, 2, .newarray .int, 0, 0) :: c_M_init_64
def c_M_init_60 : List eg_I := .inl (60, 2, .iconst (6), 0, 0) :: c_M_init_62
def c_M_init_59 : List eg_I := .inl (59, 1, .aload 0, 0, 0) :: c_M_init_60
def c_M_init_56 : List eg_I := .inl (56, 3, .putfield 29, 12, 6) :: c_M_init_59
def c_M_init_54 : List eg_I := .inl (54, 2, .newarray .int, 0, 0) :: c_M_init_56
def c_M_init_52 : List eg_I := .inl (52, 2, .iconst (9), 0, 0) :: c_M_init_54
def c_M_init_51 : List eg_I := .inl (51, 1, .aload 0, 0, 0) :: c_M_init_52
def c_M_init_48 : List eg_I := .inl (48, 3, .putfield 26, 12, 5) :: c_M_init_51
def c_M_init_46 : List eg_I := .inl (46, 2, .newarray .int, 0, 0) :: c_M_init_48
def c_M_init_44 : List eg_I := .inl (44, 2, .iconst (9), 0, 0) :: c_M_init_46
def c_M_init_43 : List eg_I := .inl (43, 1, .aload 0, 0, 0) :: c_M_init_44
def c_M_init_40 : List eg_I := .inl (40, 3, .putfield 22, 12, 4) :: c_M_init_43
def c_M_init_38 : List eg_I := .inl (38, 2, .newarray .boolean, 2, 0) :: c_M_init_40
def c_M_init_36 : List eg_I := .inl (36, 2, .iconst (64), 0, 0) :: c_M_init_38
def c_M_init_35 : List eg_I := .inl (35, 1, .aload 0, 0, 0) :: c_M_init_36
def c_M_init_32 : List eg_I := .inl (32, 3, .putfield 19, 12, 3) :: c_M_init_35
def c_M_init_30 : List eg_I := .inl (30, 2, .newarray .int, 0, 0) :: c_M_init_32
def c_M_init_28 : List eg_I := .inl (28, 2, .iconst (64), 0, 0) :: c_M_init_30
def c_M_init_27 : List eg_I := .inl (27, 1, .aload 0, 0, 0) :: c_M_init_28
def c_M_init_24 : List eg_I := .inl (24, 3, .putfield 16, 12, 2) :: c_M_init_27
def c_M_init_22 : List eg_I := .inl (22, 2, .newarray .int, 0, 0) :: c_M_init_24
def c_M_init_20 : List eg_I := .inl (20, 2, .iconst (64), 0, 0) :: c_M_init_22
def c_M_init_19 : List eg_I := .inl (19, 1, .aload 0, 0, 0) :: c_M_init_20
def c_M_init_16 : List eg_I := .inl (16, 3, .putfield 13, 12, 1) :: c_M_init_19
def c_M_init_14 : List eg_I := .inl (14, 2, .newarray .int, 0, 0) :: c_M_init_16
def c_M_init_12 : List eg_I := .inl (12, 2, .iconst (64), 0, 0) :: c_M_init_14
def c_M_init_11 : List eg_I := .inl (11, 1, .aload 0, 0, 0) :: c_M_init_12
def c_M_init_8 : List eg_I := .inl (8, 3, .putfield 9, 12, 0) :: c_M_init_11
def c_M_init_6 : List eg_I := .inl (6, 2, .newarray .int, 0, 0) :: c_M_init_8
def c_M_init_5 : List eg_I := .inl (5, 1, .iconst (4), 0, 0) :: c_M_init_6
def c_M_init_4 : List eg_I := .inl (4, 1, .aload 0, 0, 0) :: c_M_init_5
def c_M_init_1 : List eg_I := .inl (1, 3, .athrow, 3, 0) :: c_M_init_4
def c_M_init_0 : List eg_I := .inl (0, 1, .aload 0, 0, 0) :: c_M_init_1
section
variable {rm : Room} {K : Nat → Nat → Nat → eg_Lo → List Value → List eg_E → Prop} {Q : Option Value → List eg_E → Prop} {kc ks : Nat} {loc : eg_Lo} {st : List Value} {h : List eg_E}
theorem s_M_init_0 {x : Nat} {l : eg_Lo} : wps rm K Q c_M_init_0 kc ks (some (.ref x) :: l) (st) h = wps rm K Q c_M_init_1 kc ks (some (.ref x) :: l) (.ref x :: st) h := rfl
theorem s_M_init_1 {x : Nat} : wps rm K Q c_M_init_1 kc ks loc (.ref (x + 1) :: st) h = (st.length ≤ 4 ∧ wps rm K Q c_M_init_4 kc ks loc (st) h) := rfl
theorem s_M_init_4 {x : Nat} {l : eg_Lo} : wps rm K Q c_M_init_4 kc ks (some (.ref x) :: l) (st) h = wps rm K Q c_M_init_5 kc ks (some (.ref x) :: l) (.ref x :: st) h := rfl
theorem s_M_init_5  : wps rm K Q c_M_init_5 kc ks loc (st) h = wps rm K Q c_M_init_6 kc ks loc (.int (4) :: st) h := rfl
theorem s_M_init_6 {x : Int32} : wps rm K Q c_M_init_6 kc ks loc (.int x :: st) h = (¬ x < 0 ∧ x.toNatClampNeg ≤ 1000 ∧ kc + 1 ≤ rm.cells ∧ ks + x.toNatClampNeg ≤ rm.slots ∧ wps rm K Q c_M_init_8 (kc + 1) (ks + x.toNatClampNeg) loc (.ref (h.length + 1) :: st) (h ++ [.inl (0, eg_zero 0 x.toNatClampNeg)])) := rfl
theorem s_M_init_8 {x : Nat} {v : Value} : wps rm K Q c_M_init_8 kc ks loc (v :: .ref (x + 1) :: st) h = eg_pf h x 12 0 v (fun h9 => wps rm K Q c_M_init_11 kc ks loc (st) h9) := rfl
theorem s_M_init_11 {x : Nat} {l : eg_Lo} : wps rm K Q c_M_init_11 kc ks (some (.ref x) :: l) (st) h = wps rm K Q c_M_init_12 kc ks (some (.ref x) :: l) (.ref x :: st) h := rfl
theorem s_M_init_12  : wps rm K Q c_M_init_12 kc ks loc (st) h = wps rm K Q c_M_init_14 kc ks loc (.int (64) :: st) h := rfl
theorem s_M_init_14 {x : Int32} : wps rm K Q c_M_init_14 kc ks loc (.int x :: st) h = (¬ x < 0 ∧ x.toNatClampNeg ≤ 1000 ∧ kc + 1 ≤ rm.cells ∧ ks + x.toNatClampNeg ≤ rm.slots ∧ wps rm K Q c_M_init_16 (kc + 1) (ks + x.toNatClampNeg) loc (.ref (h.length + 1) :: st) (h ++ [.inl (0, eg_zero 0 x.toNatClampNeg)])) := rfl
theorem s_M_init_16 {x : Nat} {v : Value} : wps rm K Q c_M_init_16 kc ks loc (v :: .ref (x + 1) :: st) h = eg_pf h x 12 1 v (fun h9 => wps rm K Q c_M_init_19 kc ks loc (st) h9) := rfl
theorem s_M_init_19 {x : Nat} {l : eg_Lo} : wps rm K Q c_M_init_19 kc ks (some (.ref x) :: l) (st) h = wps rm K Q c_M_init_20 kc ks (some (.ref x) :: l) (.ref x :: st) h := rfl
theorem s_M_init_20  : wps rm K Q c_M_init_20 kc ks loc (st) h = wps rm K Q c_M_init_22 kc ks loc (.int (64) :: st) h := rfl
theorem s_M_init_22 {x : Int32} : wps rm K Q c_M_init_22 kc ks loc (.int x :: st) h = (¬ x < 0 ∧ x.toNatClampNeg ≤ 1000 ∧ kc + 1 ≤ rm.cells ∧ ks + x.toNatClampNeg ≤ rm.slots ∧ wps rm K Q c_M_init_24 (kc + 1) (ks + x.toNatClampNeg) loc (.ref (h.length + 1) :: st) (h ++ [.inl (0, eg_zero 0 x.toNatClampNeg)])) := rfl
theorem s_M_init_24 {x : Nat} {v : Value} : wps rm K Q c_M_init_24 kc ks loc (v :: .ref (x + 1) :: st) h = eg_pf h x 12 2 v (fun h9 => wps rm K Q c_M_init_27 kc ks loc (st) h9) := rfl
theorem s_M_init_27 {x : Nat} {l : eg_Lo} : wps rm K Q c_M_init_27 kc ks (some (.ref x) :: l) (st) h = wps rm K Q c_M_init_28 kc ks (some (.ref x) :: l) (.ref x :: st) h := rfl
theorem s_M_init_28  : wps rm K Q c_M_init_28 kc ks loc (st) h = wps rm K Q c_M_init_30 kc ks loc (.int (64) :: st) h := rfl
theorem s_M_init_30 {x : Int32} : wps rm K Q c_M_init_30 kc ks loc (.int x :: st) h = (¬ x < 0 ∧ x.toNatClampNeg ≤ 1000 ∧ kc + 1 ≤ rm.cells ∧ ks + x.toNatClampNeg ≤ rm.slots ∧ wps rm K Q c_M_init_32 (kc + 1) (ks + x.toNatClampNeg) loc (.ref (h.length + 1) :: st) (h ++ [.inl (0, eg_zero 0 x.toNatClampNeg)])) := rfl
theorem s_M_init_32 {x : Nat} {v : Value} : wps rm K Q c_M_init_32 kc ks loc (v :: .ref (x + 1) :: st) h = eg_pf h x 12 3 v (fun h9 => wps rm K Q c_M_init_35 kc ks loc (st) h9) := rfl
theorem s_M_init_35 {x : Nat} {l : eg_Lo} : wps rm K Q c_M_init_35 kc ks (some (.ref x) :: l) (st) h = wps rm K Q c_M_init_36 kc ks (some (.ref x) :: l) (.ref x :: st) h := rfl
theorem s_M_init_36  : wps rm K Q c_M_init_36 kc ks loc (st) h = wps rm K Q c_M_init_38 kc ks loc (.int (64) :: st) h := rfl
theorem s_M_init_38 {x : Int32} : wps rm K Q c_M_init_38 kc ks loc (.int x :: st) h = (¬ x < 0 ∧ x.toNatClampNeg ≤ 1000 ∧ kc + 1 ≤ rm.cells ∧ ks + x.toNatClampNeg ≤ rm.slots ∧ wps rm K Q c_M_init_40 (kc + 1) (ks + x.toNatClampNeg) loc (.ref (h.length + 1) :: st) (h ++ [.inl (2, eg_zero 2 x.toNatClampNeg)])) := rfl
theorem s_M_init_40 {x : Nat} {v : Value} : wps rm K Q c_M_init_40 kc ks loc (v :: .ref (x + 1) :: st) h = eg_pf h x 12 4 v (fun h9 => wps rm K Q c_M_init_43 kc ks loc (st) h9) := rfl
theorem s_M_init_43 {x : Nat} {l : eg_Lo} : wps rm K Q c_M_init_43 kc ks (some (.ref x) :: l) (st) h = wps rm K Q c_M_init_44 kc ks (some (.ref x) :: l) (.ref x :: st) h := rfl
theorem s_M_init_44  : wps rm K Q c_M_init_44 kc ks loc (st) h = wps rm K Q c_M_init_46 kc ks loc (.int (9) :: st) h := rfl
theorem s_M_init_46 {x : Int32} : wps rm K Q c_M_init_46 kc ks loc (.int x :: st) h = (¬ x < 0 ∧ x.toNatClampNeg ≤ 1000 ∧ kc + 1 ≤ rm.cells ∧ ks + x.toNatClampNeg ≤ rm.slots ∧ wps rm K Q c_M_init_48 (kc + 1) (ks + x.toNatClampNeg) loc (.ref (h.length + 1) :: st) (h ++ [.inl (0, eg_zero 0 x.toNatClampNeg)])) := rfl
theorem s_M_init_48 {x : Nat} {v : Value} : wps rm K Q c_M_init_48 kc ks loc (v :: .ref (x + 1) :: st) h = eg_pf h x 12 5 v (fun h9 => wps rm K Q c_M_init_51 kc ks loc (st) h9) := rfl
theorem s_M_init_51 {x : Nat} {l : eg_Lo} : wps rm K Q c_M_init_51 kc ks (some (.ref x) :: l) (st) h = wps rm K Q c_M_init_52 kc ks (some (.ref x) :: l) (.ref x :: st) h := rfl
theorem s_M_init_52  : wps rm K Q c_M_init_52 kc ks loc (st) h = wps rm K Q c_M_init_54 kc ks loc (.int (9) :: st) h := rfl
theorem s_M_init_54 {x : Int32} : wps rm K Q c_M_init_54 kc ks loc (.int x :: st) h = (¬ x < 0 ∧ x.toNatClampNeg ≤ 1000 ∧ kc + 1 ≤ rm.cells ∧ ks + x.toNatClampNeg ≤ rm.slots ∧ wps rm K Q c_M_init_56 (kc + 1) (ks + x.toNatClampNeg) loc (.ref (h.length + 1) :: st) (h ++ [.inl (0, eg_zero 0 x.toNatClampNeg)])) := rfl
theorem s_M_init_56 {x : Nat} {v : Value} : wps rm K Q c_M_init_56 kc ks loc (v :: .ref (x + 1) :: st) h = eg_pf h x 12 6 v (fun h9 => wps rm K Q c_M_init_59 kc ks loc (st) h9) := rfl
theorem s_M_init_59 {x : Nat} {l : eg_Lo} : wps rm K Q c_M_init_59 kc ks (some (.ref x) :: l) (st) h = wps rm K Q c_M_init_60 kc ks (some (.ref x) :: l) (.ref x :: st) h := rfl
theorem s_M_init_60  : wps rm K Q c_M_init_60 kc ks loc (st) h = wps rm K Q c_M_init_62 kc ks loc (.int (6) :: st) h := rfl
theorem s_M_init_62 {x : Int32} : wps rm K Q c_M_init_62 kc ks loc (.int x :: st) h = (¬ x < 0 ∧ x.toNatClampNeg ≤ 1000 ∧ kc + 1 ≤ rm.cells ∧ ks + x.toNatClampNeg ≤ rm.slots ∧ wps rm K Q c_M_init_64 (kc + 1) (ks + x.toNatClampNeg) loc (.ref (h.length + 1) :: st) (h ++ [.inl (0, eg_zero 0 x.toNatClampNeg)])) := rfl
theorem s_M_init_64 {x : Nat} {v : Value} : wps rm K Q c_M_init_64 kc ks loc (v :: .ref (x + 1) :: st) h = eg_pf h x 12 7 v (fun h9 => wps rm K Q c_M_init_67 kc ks loc (st) h9) := rfl
theorem s_M_init_67 {x : Nat} {l : eg_Lo} : wps rm K Q c_M_init_67 kc ks (some (.ref x) :: l) (st) h = wps rm K Q c_M_init_68 kc ks (some (.ref x) :: l) (.ref x :: st) h := rfl
theorem s_M_init_68  : wps rm K Q c_M_init_68 kc ks loc (st) h = wps rm K Q c_M_init_70 kc ks loc (.int (6) :: st) h := rfl
theorem s_M_init_70 {x : Int32} : wps rm K Q c_M_init_70 kc ks loc (.int x :: st) h = (¬ x < 0 ∧ x.toNatClampNeg ≤ 1000 ∧ kc + 1 ≤ rm.cells ∧ ks + x.toNatClampNeg ≤ rm.slots ∧ wps rm K Q c_M_init_72 (kc + 1) (ks + x.toNatClampNeg) loc (.ref (h.length + 1) :: st) (h ++ [.inl (0, eg_zero 0 x.toNatClampNeg)])) := rfl
theorem s_M_init_72 {x : Nat} {v : Value} : wps rm K Q c_M_init_72 kc ks loc (v :: .ref (x + 1) :: st) h = eg_pf h x 12 8 v (fun h9 => wps rm K Q c_M_init_75 kc ks loc (st) h9) := rfl
theorem s_M_init_75 {x : Nat} {l : eg_Lo} : wps rm K Q c_M_init_75 kc ks (some (.ref x) :: l) (st) h = wps rm K Q c_M_init_76 kc ks (some (.ref x) :: l) (.ref x :: st) h := rfl
theorem s_M_init_76  : wps rm K Q c_M_init_76 kc ks loc (st) h = wps rm K Q c_M_init_78 kc ks loc (.int (36) :: st) h := rfl
theorem s_M_init_78 {x : Int32} : wps rm K Q c_M_init_78 kc ks loc (.int x :: st) h = (¬ x < 0 ∧ x.toNatClampNeg ≤ 1000 ∧ kc + 1 ≤ rm.cells ∧ ks + x.toNatClampNeg ≤ rm.slots ∧ wps rm K Q c_M_init_80 (kc + 1) (ks + x.toNatClampNeg) loc (.ref (h.length + 1) :: st) (h ++ [.inl (0, eg_zero 0 x.toNatClampNeg)])) := rfl
theorem s_M_init_80 {x : Nat} {v : Value} : wps rm K Q c_M_init_80 kc ks loc (v :: .ref (x + 1) :: st) h = eg_pf h x 12 9 v (fun h9 => wps rm K Q c_M_init_83 kc ks loc (st) h9) := rfl
theorem s_M_init_83 {x : Nat} {l : eg_Lo} : wps rm K Q c_M_init_83 kc ks (some (.ref x) :: l) (st) h = wps rm K Q c_M_init_84 kc ks (some (.ref x) :: l) (.ref x :: st) h := rfl
theorem s_M_init_84  : wps rm K Q c_M_init_84 kc ks loc (st) h = wps rm K Q c_M_init_86 kc ks loc (.int (6) :: st) h := rfl
theorem s_M_init_86 {x : Int32} : wps rm K Q c_M_init_86 kc ks loc (.int x :: st) h = (¬ x < 0 ∧ x.toNatClampNeg ≤ 1000 ∧ kc + 1 ≤ rm.cells ∧ ks + x.toNatClampNeg ≤ rm.slots ∧ wps rm K Q c_M_init_88 (kc + 1) (ks + x.toNatClampNeg) loc (.ref (h.length + 1) :: st) (h ++ [.inl (1, eg_zero 1 x.toNatClampNeg)])) := rfl
theorem s_M_init_88 {x : Nat} {v : Value} : wps rm K Q c_M_init_88 kc ks loc (v :: .ref (x + 1) :: st) h = eg_pf h x 12 10 v (fun h9 => wps rm K Q c_M_init_91 kc ks loc (st) h9) := rfl
theorem s_M_init_91 {x : Nat} {l : eg_Lo} : wps rm K Q c_M_init_91 kc ks (some (.ref x) :: l) (st) h = wps rm K Q c_M_init_92 kc ks (some (.ref x) :: l) (.ref x :: st) h := rfl
theorem s_M_init_92  : wps rm K Q c_M_init_92 kc ks loc (st) h = wps rm K Q c_M_init_94 kc ks loc (.int (6) :: st) h := rfl
theorem s_M_init_94 {x : Int32} : wps rm K Q c_M_init_94 kc ks loc (.int x :: st) h = (¬ x < 0 ∧ x.toNatClampNeg ≤ 1000 ∧ kc + 1 ≤ rm.cells ∧ ks + x.toNatClampNeg ≤ rm.slots ∧ wps rm K Q c_M_init_96 (kc + 1) (ks + x.toNatClampNeg) loc (.ref (h.length + 1) :: st) (h ++ [.inl (1, eg_zero 1 x.toNatClampNeg)])) := rfl
theorem s_M_init_96 {x : Nat} {v : Value} : wps rm K Q c_M_init_96 kc ks loc (v :: .ref (x + 1) :: st) h = eg_pf h x 12 11 v (fun h9 => wps rm K Q c_M_init_99 kc ks loc (st) h9) := rfl
theorem s_M_init_99 {x : Nat} {l : eg_Lo} : wps rm K Q c_M_init_99 kc ks (some (.ref x) :: l) (st) h = wps rm K Q c_M_init_100 kc ks (some (.ref x) :: l) (.ref x :: st) h := rfl
theorem s_M_init_100  : wps rm K Q c_M_init_100 kc ks loc (st) h = wps rm K Q c_M_init_102 kc ks loc (.int (18) :: st) h := rfl
theorem s_M_init_102 {x : Int32} : wps rm K Q c_M_init_102 kc ks loc (.int x :: st) h = (¬ x < 0 ∧ x.toNatClampNeg ≤ 1000 ∧ kc + 1 ≤ rm.cells ∧ ks + x.toNatClampNeg ≤ rm.slots ∧ wps rm K Q c_M_init_104 (kc + 1) (ks + x.toNatClampNeg) loc (.ref (h.length + 1) :: st) (h ++ [.inl (1, eg_zero 1 x.toNatClampNeg)])) := rfl
theorem s_M_init_104 {x : Nat} {v : Value} : wps rm K Q c_M_init_104 kc ks loc (v :: .ref (x + 1) :: st) h = eg_pf h x 12 12 v (fun h9 => wps rm K Q c_M_init_107 kc ks loc (st) h9) := rfl
theorem s_M_init_107 {x : Nat} {l : eg_Lo} : wps rm K Q c_M_init_107 kc ks (some (.ref x) :: l) (st) h = wps rm K Q c_M_init_108 kc ks (some (.ref x) :: l) (.ref x :: st) h := rfl
theorem s_M_init_108  : wps rm K Q c_M_init_108 kc ks loc (st) h = wps rm K Q c_M_init_110 kc ks loc (.int (24) :: st) h := rfl
theorem s_M_init_110 {x : Int32} : wps rm K Q c_M_init_110 kc ks loc (.int x :: st) h = (¬ x < 0 ∧ x.toNatClampNeg ≤ 1000 ∧ kc + 1 ≤ rm.cells ∧ ks + x.toNatClampNeg ≤ rm.slots ∧ wps rm K Q c_M_init_112 (kc + 1) (ks + x.toNatClampNeg) loc (.ref (h.length + 1) :: st) (h ++ [.inl (1, eg_zero 1 x.toNatClampNeg)])) := rfl
theorem s_M_init_112 {x : Nat} {v : Value} : wps rm K Q c_M_init_112 kc ks loc (v :: .ref (x + 1) :: st) h = eg_pf h x 12 13 v (fun h9 => wps rm K Q c_M_init_115 kc ks loc (st) h9) := rfl
theorem s_M_init_115 {x : Nat} {l : eg_Lo} : wps rm K Q c_M_init_115 kc ks (some (.ref x) :: l) (st) h = wps rm K Q c_M_init_116 kc ks (some (.ref x) :: l) (.ref x :: st) h := rfl
theorem s_M_init_116  : wps rm K Q c_M_init_116 kc ks loc (st) h = wps rm K Q c_M_init_118 kc ks loc (.int (9) :: st) h := rfl
theorem s_M_init_118 {x : Int32} : wps rm K Q c_M_init_118 kc ks loc (.int x :: st) h = (¬ x < 0 ∧ x.toNatClampNeg ≤ 1000 ∧ kc + 1 ≤ rm.cells ∧ ks + x.toNatClampNeg ≤ rm.slots ∧ wps rm K Q c_M_init_120 (kc + 1) (ks + x.toNatClampNeg) loc (.ref (h.length + 1) :: st) (h ++ [.inl (1, eg_zero 1 x.toNatClampNeg)])) := rfl
theorem s_M_init_120 {x : Nat} {v : Value} : wps rm K Q c_M_init_120 kc ks loc (v :: .ref (x + 1) :: st) h = eg_pf h x 12 15 v (fun h9 => wps rm K Q c_M_init_123 kc ks loc (st) h9) := rfl
theorem s_M_init_123 {x : Nat} {l : eg_Lo} : wps rm K Q c_M_init_123 kc ks (some (.ref x) :: l) (st) h = wps rm K Q c_M_init_124 kc ks (some (.ref x) :: l) (.ref x :: st) h := rfl
theorem s_M_init_124  : wps rm K Q c_M_init_124 kc ks loc (st) h = wps rm K Q c_M_init_125 kc ks loc (.int (3) :: st) h := rfl
theorem s_M_init_125 {x : Int32} : wps rm K Q c_M_init_125 kc ks loc (.int x :: st) h = (¬ x < 0 ∧ x.toNatClampNeg ≤ 1000 ∧ kc + 1 ≤ rm.cells ∧ ks + x.toNatClampNeg ≤ rm.slots ∧ wps rm K Q c_M_init_127 (kc + 1) (ks + x.toNatClampNeg) loc (.ref (h.length + 1) :: st) (h ++ [.inl (0, eg_zero 0 x.toNatClampNeg)])) := rfl
theorem s_M_init_127 {x : Nat} {v : Value} : wps rm K Q c_M_init_127 kc ks loc (v :: .ref (x + 1) :: st) h = eg_pf h x 12 16 v (fun h9 => wps rm K Q c_M_init_130 kc ks loc (st) h9) := rfl
theorem s_M_init_130 {x : Nat} {l : eg_Lo} : wps rm K Q c_M_init_130 kc ks (some (.ref x) :: l) (st) h = wps rm K Q c_M_init_131 kc ks (some (.ref x) :: l) (.ref x :: st) h := rfl
theorem s_M_init_131  : wps rm K Q c_M_init_131 kc ks loc (st) h = wps rm K Q c_M_init_133 kc ks loc (.int (10) :: st) h := rfl
theorem s_M_init_133 {x : Int32} : wps rm K Q c_M_init_133 kc ks loc (.int x :: st) h = (¬ x < 0 ∧ x.toNatClampNeg ≤ 1000 ∧ kc + 1 ≤ rm.cells ∧ ks + x.toNatClampNeg ≤ rm.slots ∧ wps rm K Q c_M_init_135 (kc + 1) (ks + x.toNatClampNeg) loc (.ref (h.length + 1) :: st) (h ++ [.inl (0, eg_zero 0 x.toNatClampNeg)])) := rfl
theorem s_M_init_135 {x : Nat} {v : Value} : wps rm K Q c_M_init_135 kc ks loc (v :: .ref (x + 1) :: st) h = eg_pf h x 12 18 v (fun h9 => wps rm K Q c_M_init_138 kc ks loc (st) h9) := rfl
theorem s_M_init_138 {x : Nat} {l : eg_Lo} : wps rm K Q c_M_init_138 kc ks (some (.ref x) :: l) (st) h = wps rm K Q c_M_init_139 kc ks (some (.ref x) :: l) (.ref x :: st) h := rfl
theorem s_M_init_139  : wps rm K Q c_M_init_139 kc ks loc (st) h = wps rm K Q c_M_init_141 kc ks loc (.int (10) :: st) h := rfl
theorem s_M_init_141 {x : Int32} : wps rm K Q c_M_init_141 kc ks loc (.int x :: st) h = (¬ x < 0 ∧ x.toNatClampNeg ≤ 1000 ∧ kc + 1 ≤ rm.cells ∧ ks + x.toNatClampNeg ≤ rm.slots ∧ wps rm K Q c_M_init_143 (kc + 1) (ks + x.toNatClampNeg) loc (.ref (h.length + 1) :: st) (h ++ [.inl (0, eg_zero 0 x.toNatClampNeg)])) := rfl
theorem s_M_init_143 {x : Nat} {v : Value} : wps rm K Q c_M_init_143 kc ks loc (v :: .ref (x + 1) :: st) h = eg_pf h x 12 19 v (fun h9 => wps rm K Q c_M_init_146 kc ks loc (st) h9) := rfl
theorem s_M_init_146 {x : Nat} {l : eg_Lo} : wps rm K Q c_M_init_146 kc ks (some (.ref x) :: l) (st) h = wps rm K Q c_M_init_147 kc ks (some (.ref x) :: l) (.ref x :: st) h := rfl
theorem s_M_init_147  : wps rm K Q c_M_init_147 kc ks loc (st) h = wps rm K Q c_M_init_149 kc ks loc (.int (36) :: st) h := rfl
theorem s_M_init_149 {x : Int32} : wps rm K Q c_M_init_149 kc ks loc (.int x :: st) h = (¬ x < 0 ∧ x.toNatClampNeg ≤ 1000 ∧ kc + 1 ≤ rm.cells ∧ ks + x.toNatClampNeg ≤ rm.slots ∧ wps rm K Q c_M_init_151 (kc + 1) (ks + x.toNatClampNeg) loc (.ref (h.length + 1) :: st) (h ++ [.inl (0, eg_zero 0 x.toNatClampNeg)])) := rfl
theorem s_M_init_151 {x : Nat} {v : Value} : wps rm K Q c_M_init_151 kc ks loc (v :: .ref (x + 1) :: st) h = eg_pf h x 12 21 v (fun h9 => wps rm K Q c_M_init_154 kc ks loc (st) h9) := rfl
theorem s_M_init_154 {x : Nat} {l : eg_Lo} : wps rm K Q c_M_init_154 kc ks (some (.ref x) :: l) (st) h = wps rm K Q c_M_init_155 kc ks (some (.ref x) :: l) (.ref x :: st) h := rfl
theorem s_M_init_155  : wps rm K Q c_M_init_155 kc ks loc (st) h = wps rm K Q c_M_init_156 kc ks loc (.int (4) :: st) h := rfl
theorem s_M_init_156 {x : Int32} : wps rm K Q c_M_init_156 kc ks loc (.int x :: st) h = (¬ x < 0 ∧ x.toNatClampNeg ≤ 1000 ∧ kc + 1 ≤ rm.cells ∧ ks + x.toNatClampNeg ≤ rm.slots ∧ wps rm K Q c_M_init_158 (kc + 1) (ks + x.toNatClampNeg) loc (.ref (h.length + 1) :: st) (h ++ [.inl (0, eg_zero 0 x.toNatClampNeg)])) := rfl
theorem s_M_init_158 {x : Nat} {v : Value} : wps rm K Q c_M_init_158 kc ks loc (v :: .ref (x + 1) :: st) h = eg_pf h x 12 22 v (fun h9 => wps rm K Q c_M_init_161 kc ks loc (st) h9) := rfl
theorem s_M_init_161 {x : Nat} {l : eg_Lo} : wps rm K Q c_M_init_161 kc ks (some (.ref x) :: l) (st) h = wps rm K Q c_M_init_162 kc ks (some (.ref x) :: l) (.ref x :: st) h := rfl
theorem s_M_init_162  : wps rm K Q c_M_init_162 kc ks loc (st) h = wps rm K Q c_M_init_163 kc ks loc (.int (4) :: st) h := rfl
theorem s_M_init_163 {x : Int32} : wps rm K Q c_M_init_163 kc ks loc (.int x :: st) h = (¬ x < 0 ∧ x.toNatClampNeg ≤ 1000 ∧ kc + 1 ≤ rm.cells ∧ ks + x.toNatClampNeg ≤ rm.slots ∧ wps rm K Q c_M_init_165 (kc + 1) (ks + x.toNatClampNeg) loc (.ref (h.length + 1) :: st) (h ++ [.inl (0, eg_zero 0 x.toNatClampNeg)])) := rfl
theorem s_M_init_165 {x : Nat} {v : Value} : wps rm K Q c_M_init_165 kc ks loc (v :: .ref (x + 1) :: st) h = eg_pf h x 12 23 v (fun h9 => wps rm K Q c_M_init_168 kc ks loc (st) h9) := rfl
theorem s_M_init_168 {x : Nat} {l : eg_Lo} : wps rm K Q c_M_init_168 kc ks (some (.ref x) :: l) (st) h = wps rm K Q c_M_init_169 kc ks (some (.ref x) :: l) (.ref x :: st) h := rfl
theorem s_M_init_169  : wps rm K Q c_M_init_169 kc ks loc (st) h = wps rm K Q c_M_init_172 kc ks loc (.int (192) :: st) h := rfl
theorem s_M_init_172 {x : Int32} : wps rm K Q c_M_init_172 kc ks loc (.int x :: st) h = (¬ x < 0 ∧ x.toNatClampNeg ≤ 1000 ∧ kc + 1 ≤ rm.cells ∧ ks + x.toNatClampNeg ≤ rm.slots ∧ wps rm K Q c_M_init_174 (kc + 1) (ks + x.toNatClampNeg) loc (.ref (h.length + 1) :: st) (h ++ [.inl (0, eg_zero 0 x.toNatClampNeg)])) := rfl
theorem s_M_init_174 {x : Nat} {v : Value} : wps rm K Q c_M_init_174 kc ks loc (v :: .ref (x + 1) :: st) h = eg_pf h x 12 24 v (fun h9 => wps rm K Q c_M_init_177 kc ks loc (st) h9) := rfl
theorem s_M_init_177 {x : Nat} {l : eg_Lo} : wps rm K Q c_M_init_177 kc ks (some (.ref x) :: l) (st) h = wps rm K Q c_M_init_178 kc ks (some (.ref x) :: l) (.ref x :: st) h := rfl
theorem s_M_init_178  : wps rm K Q c_M_init_178 kc ks loc (st) h = wps rm K Q c_M_init_181 kc ks loc (.int (192) :: st) h := rfl
theorem s_M_init_181 {x : Int32} : wps rm K Q c_M_init_181 kc ks loc (.int x :: st) h = (¬ x < 0 ∧ x.toNatClampNeg ≤ 1000 ∧ kc + 1 ≤ rm.cells ∧ ks + x.toNatClampNeg ≤ rm.slots ∧ wps rm K Q c_M_init_183 (kc + 1) (ks + x.toNatClampNeg) loc (.ref (h.length + 1) :: st) (h ++ [.inl (3, eg_zero 3 x.toNatClampNeg)])) := rfl
theorem s_M_init_183 {x : Nat} {v : Value} : wps rm K Q c_M_init_183 kc ks loc (v :: .ref (x + 1) :: st) h = eg_pf h x 12 25 v (fun h9 => wps rm K Q c_M_init_186 kc ks loc (st) h9) := rfl
theorem s_M_init_186 {x : Nat} {l : eg_Lo} : wps rm K Q c_M_init_186 kc ks (some (.ref x) :: l) (st) h = wps rm K Q c_M_init_187 kc ks (some (.ref x) :: l) (.ref x :: st) h := rfl
theorem s_M_init_187  : wps rm K Q c_M_init_187 kc ks loc (st) h = wps rm K Q c_M_init_189 kc ks loc (.int (48) :: st) h := rfl
theorem s_M_init_189 {x : Int32} : wps rm K Q c_M_init_189 kc ks loc (.int x :: st) h = (¬ x < 0 ∧ x.toNatClampNeg ≤ 1000 ∧ kc + 1 ≤ rm.cells ∧ ks + x.toNatClampNeg ≤ rm.slots ∧ wps rm K Q c_M_init_191 (kc + 1) (ks + x.toNatClampNeg) loc (.ref (h.length + 1) :: st) (h ++ [.inl (0, eg_zero 0 x.toNatClampNeg)])) := rfl
theorem s_M_init_191 {x : Nat} {v : Value} : wps rm K Q c_M_init_191 kc ks loc (v :: .ref (x + 1) :: st) h = eg_pf h x 12 27 v (fun h9 => wps rm K Q c_M_init_194 kc ks loc (st) h9) := rfl
theorem s_M_init_194 {x : Nat} {l : eg_Lo} : wps rm K Q c_M_init_194 kc ks (some (.ref x) :: l) (st) h = wps rm K Q c_M_init_195 kc ks (some (.ref x) :: l) (.ref x :: st) h := rfl
theorem s_M_init_195  : wps rm K Q c_M_init_195 kc ks loc (st) h = wps rm K Q c_M_init_197 kc ks loc (.int (48) :: st) h := rfl
theorem s_M_init_197 {x : Int32} : wps rm K Q c_M_init_197 kc ks loc (.int x :: st) h = (¬ x < 0 ∧ x.toNatClampNeg ≤ 1000 ∧ kc + 1 ≤ rm.cells ∧ ks + x.toNatClampNeg ≤ rm.slots ∧ wps rm K Q c_M_init_199 (kc + 1) (ks + x.toNatClampNeg) loc (.ref (h.length + 1) :: st) (h ++ [.inl (3, eg_zero 3 x.toNatClampNeg)])) := rfl
theorem s_M_init_199 {x : Nat} {v : Value} : wps rm K Q c_M_init_199 kc ks loc (v :: .ref (x + 1) :: st) h = eg_pf h x 12 28 v (fun h9 => wps rm K Q c_M_init_202 kc ks loc (st) h9) := rfl
theorem s_M_init_202 {x : Nat} {l : eg_Lo} : wps rm K Q c_M_init_202 kc ks (some (.ref x) :: l) (st) h = wps rm K Q c_M_init_203 kc ks (some (.ref x) :: l) (.ref x :: st) h := rfl
theorem s_M_init_203  : wps rm K Q c_M_init_203 kc ks loc (st) h = wps rm K Q c_M_init_204 kc ks loc (.int (3) :: st) h := rfl
theorem s_M_init_204 {x : Int32} : wps rm K Q c_M_init_204 kc ks loc (.int x :: st) h = (¬ x < 0 ∧ x.toNatClampNeg ≤ 1000 ∧ kc + 1 ≤ rm.cells ∧ ks + x.toNatClampNeg ≤ rm.slots ∧ wps rm K Q c_M_init_206 (kc + 1) (ks + x.toNatClampNeg) loc (.ref (h.length + 1) :: st) (h ++ [.inl (1, eg_zero 1 x.toNatClampNeg)])) := rfl
theorem s_M_init_206 {x : Nat} {v : Value} : wps rm K Q c_M_init_206 kc ks loc (v :: .ref (x + 1) :: st) h = eg_pf h x 12 33 v (fun h9 => wps rm K Q c_M_init_209 kc ks loc (st) h9) := rfl
theorem s_M_init_209  : wps rm K Q c_M_init_209 kc ks loc ([]) h = (kc = rm.cells ∧ Q none h) := rfl
def T_M_init : List (Nat × List eg_I) := []
end
theorem q_M_init : (T_M_init.all fun q => eg_seq m_M_init q.1 q.2) = true := by decide +kernel
theorem b_M_init {as : List Value} {h : List eg_E} {Q : Option Value → List eg_E → Prop} (hf : (eg_fl as).length ≤ 1) (hw : wps (eg_rm m_M_init) (eg_run (eg_rm m_M_init) (eg_R m_M_init Q (h.length + 26)) Q T_M_init 2) Q c_M_init_0 0 0 (eg_entry 1 as) [] h) : eg_Runs n_M_init as h Q := eg_begin (d := m_M_init) rfl (by decide) (by decide +kernel) q_M_init hf hw
/-! ===== M_finding ===== -/
def c_M_finding_11 : List eg_I := .inl (11, 1, .lreturn, 0, 0) :: []
def c_M_finding_10 : List eg_I := .inl (10, 1, .lload 1, 0, 0) :: c_M_finding_11
def c_M_finding_7 : List eg_I := .inl (7, 3, .putfield 91, 12, 26) :: c_M_finding_10
def c_M_finding_6 : List eg_I := .inl (6, 1, .ladd, 0, 0) :: c_M_finding_7
def c_M_finding_5 : List eg_I := .inl (5, 1, .sipush (1), 0, 0) :: c_M_finding_6
def c_M_finding_2 : List eg_I := .inl (2, 3, .getfield 91, 12, 26) :: c_M_finding_5
def c_M_finding_1 : List eg_I := .inl (1, 1, .dup, 0, 0) :: c_M_finding_2
def c_M_finding_0 : List eg_I := .inl (0, 1, .aload 0, 0, 0) :: c_M_finding_1
section
variable {rm : Room} {K : Nat → Nat → Nat → eg_Lo → List Value → List eg_E → Prop} {Q : Option Value → List eg_E → Prop} {kc ks : Nat} {loc : eg_Lo} {st : List Value} {h : List eg_E}
theorem s_M_finding_0 {x : Nat} {l : eg_Lo} : wps rm K Q c_M_finding_0 kc ks (some (.ref x) :: l) (st) h = wps rm K Q c_M_finding_1 kc ks (some (.ref x) :: l) (.ref x :: st) h := rfl
theorem s_M_finding_1 {x : Nat} : wps rm K Q c_M_finding_1 kc ks loc (.ref x :: st) h = wps rm K Q c_M_finding_2 kc ks loc (.ref x :: .ref x :: st) h := rfl
theorem s_M_finding_2 {x : Nat} : wps rm K Q c_M_finding_2 kc ks loc (.ref (x + 1) :: st) h = eg_gf h x 12 26 (fun v => wps rm K Q c_M_finding_5 kc ks loc (v :: st) h) := rfl
theorem s_M_finding_5  : wps rm K Q c_M_finding_5 kc ks loc (st) h = wps rm K Q c_M_finding_6 kc ks loc (.long (1) :: st) h := rfl
theorem s_M_finding_6 {x y : Int64} : wps rm K Q c_M_finding_6 kc ks loc (.long y :: .long x :: st) h = wps rm K Q c_M_finding_7 kc ks loc (.long (x + y) :: st) h := rfl
theorem s_M_finding_7 {x : Nat} {v : Value} : wps rm K Q c_M_finding_7 kc ks loc (v :: .ref (x + 1) :: st) h = eg_pf h x 12 26 v (fun h9 => wps rm K Q c_M_finding_10 kc ks loc (st) h9) := rfl
theorem s_M_finding_10 {x : Int64} {l0 : Option Value} {l : eg_Lo} : wps rm K Q c_M_finding_10 kc ks (l0 :: some (.long x) :: l) (st) h = wps rm K Q c_M_finding_11 kc ks (l0 :: some (.long x) :: l) (.long x :: st) h := rfl
theorem s_M_finding_11 {x : Int64} : wps rm K Q c_M_finding_11 kc ks loc ([.long x]) h = (kc = rm.cells ∧ Q (some (.long x)) h) := rfl
def T_M_finding : List (Nat × List eg_I) := []
end
theorem q_M_finding : (T_M_finding.all fun q => eg_seq m_M_finding q.1 q.2) = true := by decide +kernel
theorem b_M_finding {as : List Value} {h : List eg_E} {Q : Option Value → List eg_E → Prop} (hf : (eg_fl as).length ≤ 3) (hw : wps (eg_rm m_M_finding) (eg_run (eg_rm m_M_finding) (eg_R m_M_finding Q (h.length + 0)) Q T_M_finding 2) Q c_M_finding_0 0 0 (eg_entry 3 as) [] h) : eg_Runs n_M_finding as h Q := eg_begin (d := m_M_finding) rfl (by decide) (by decide +kernel) q_M_finding hf hw
/-! ===== M_isIn ===== -/
def c_M_isIn_15 : List eg_I := .inl (15, 1, .ireturn, 0, 1) :: []
def c_M_isIn_14 : List eg_I := .inl (14, 1, .iconst (0), 0, 0) :: c_M_isIn_15
def c_M_isIn_11 : List eg_I := .inl (11, 3, .goto (4), 15, 0) :: []
def c_M_isIn_10 : List eg_I := .inl (10, 1, .iconst (1), 0, 0) :: c_M_isIn_11
def c_M_isIn_7 : List eg_I := .inl (7, 3, .if_icmp .gt (7), 14, 0) :: c_M_isIn_10
def c_M_isIn_6 : List eg_I := .inl (6, 1, .iload 2, 0, 0) :: c_M_isIn_7
def c_M_isIn_5 : List eg_I := .inl (5, 1, .iload 0, 0, 0) :: c_M_isIn_6
def c_M_isIn_2 : List eg_I := .inl (2, 3, .if_icmp .lt (12), 14, 0) :: c_M_isIn_5
def c_M_isIn_1 : List eg_I := .inl (1, 1, .iload 1, 0, 0) :: c_M_isIn_2
def c_M_isIn_0 : List eg_I := .inl (0, 1, .iload 0, 0, 0) :: c_M_isIn_1
section
variable {rm : Room} {K : Nat → Nat → Nat → eg_Lo → List Value → List eg_E → Prop} {Q : Option Value → List eg_E → Prop} {kc ks : Nat} {loc : eg_Lo} {st : List Value} {h : List eg_E}
theorem s_M_isIn_0 {x : Int32} {l : eg_Lo} : wps rm K Q c_M_isIn_0 kc ks (some (.int x) :: l) (st) h = wps rm K Q c_M_isIn_1 kc ks (some (.int x) :: l) (.int x :: st) h := rfl
theorem s_M_isIn_1 {x : Int32} {l0 : Option Value} {l : eg_Lo} : wps rm K Q c_M_isIn_1 kc ks (l0 :: some (.int x) :: l) (st) h = wps rm K Q c_M_isIn_2 kc ks (l0 :: some (.int x) :: l) (.int x :: st) h := rfl
theorem s_M_isIn_2 {x y : Int32} : wps rm K Q c_M_isIn_2 kc ks loc (.int y :: .int x :: st) h = ((x < y → K 14 kc ks loc st h) ∧ (¬ x < y → wps rm K Q c_M_isIn_5 kc ks loc (st) h)) := rfl
theorem s_M_isIn_5 {x : Int32} {l : eg_Lo} : wps rm K Q c_M_isIn_5 kc ks (some (.int x) :: l) (st) h = wps rm K Q c_M_isIn_6 kc ks (some (.int x) :: l) (.int x :: st) h := rfl
theorem s_M_isIn_6 {x : Int32} {l0 l1 : Option Value} {l : eg_Lo} : wps rm K Q c_M_isIn_6 kc ks (l0 :: l1 :: some (.int x) :: l) (st) h = wps rm K Q c_M_isIn_7 kc ks (l0 :: l1 :: some (.int x) :: l) (.int x :: st) h := rfl
theorem s_M_isIn_7 {x y : Int32} : wps rm K Q c_M_isIn_7 kc ks loc (.int y :: .int x :: st) h = ((y < x → K 14 kc ks loc st h) ∧ (¬ y < x → wps rm K Q c_M_isIn_10 kc ks loc (st) h)) := rfl
theorem s_M_isIn_10  : wps rm K Q c_M_isIn_10 kc ks loc (st) h = wps rm K Q c_M_isIn_11 kc ks loc (.int (1) :: st) h := rfl
theorem s_M_isIn_11  : wps rm K Q c_M_isIn_11 kc ks loc (st) h = K 15 kc ks loc st h := rfl
theorem s_M_isIn_14  : wps rm K Q c_M_isIn_14 kc ks loc (st) h = wps rm K Q c_M_isIn_15 kc ks loc (.int (0) :: st) h := rfl
theorem s_M_isIn_15 {x : Int32} : wps rm K Q c_M_isIn_15 kc ks loc ([.int x]) h = (kc = rm.cells ∧ ((1 : Nat) = 1 → x = 0 ∨ x = 1) ∧ Q (some (.int x)) h) := rfl
def T_M_isIn : List (Nat × List eg_I) := [(14, c_M_isIn_14), (15, c_M_isIn_15)]
theorem j_M_isIn_14 {R : Nat → Nat → Nat → eg_Lo → List Value → List eg_E → Prop} {f pc0 : Nat} : eg_run rm R Q T_M_isIn (f + 1) 14 kc ks loc st h = wps rm (eg_run rm R Q T_M_isIn f) Q c_M_isIn_14 kc ks loc st h := rfl
theorem j_M_isIn_15 {R : Nat → Nat → Nat → eg_Lo → List Value → List eg_E → Prop} {f pc0 : Nat} : eg_run rm R Q T_M_isIn (f + 1) 15 kc ks loc st h = wps rm (eg_run rm R Q T_M_isIn f) Q c_M_isIn_15 kc ks loc st h := rfl
end
theorem q_M_isIn : (T_M_isIn.all fun q => eg_seq m_M_isIn q.1 q.2) = true := by decide +kernel
theorem b_M_isIn {as : List Value} {h : List eg_E} {Q : Option Value → List eg_E → Prop} (hf : (eg_fl as).length ≤ 3) (hw : wps (eg_rm m_M_isIn) (eg_run (eg_rm m_M_isIn) (eg_R m_M_isIn Q (h.length + 0)) Q T_M_isIn 4) Q c_M_isIn_0 0 0 (eg_entry 3 as) [] h) : eg_Runs n_M_isIn as h Q := eg_begin (d := m_M_isIn) rfl (by decide) (by decide +kernel) q_M_isIn hf hw
/-! ===== M_isPart ===== -/
def c_M_isPart_6 : List eg_I := .inl (6, 1, .ireturn, 0, 1) :: []
def c_M_isPart_3 : List eg_I := .inr (3, 0, 95, n_M_isIn, 3, 12, 0, 0) :: c_M_isPart_6
def c_M_isPart_2 : List eg_I := .inl (2, 1, .iconst (3), 0, 0) :: c_M_isPart_3
def c_M_isPart_1 : List eg_I := .inl (1, 1, .iconst (0), 0, 0) :: c_M_isPart_2
def c_M_isPart_0 : List eg_I := .inl (0, 1, .iload 0, 0, 0) :: c_M_isPart_1
section
variable {rm : Room} {K : Nat → Nat → Nat → eg_Lo → List Value → List eg_E → Prop} {Q : Option Value → List eg_E → Prop} {kc ks : Nat} {loc : eg_Lo} {st : List Value} {h : List eg_E}
theorem s_M_isPart_0 {x : Int32} {l : eg_Lo} : wps rm K Q c_M_isPart_0 kc ks (some (.int x) :: l) (st) h = wps rm K Q c_M_isPart_1 kc ks (some (.int x) :: l) (.int x :: st) h := rfl
theorem s_M_isPart_1  : wps rm K Q c_M_isPart_1 kc ks loc (st) h = wps rm K Q c_M_isPart_2 kc ks loc (.int (0) :: st) h := rfl
theorem s_M_isPart_2  : wps rm K Q c_M_isPart_2 kc ks loc (st) h = wps rm K Q c_M_isPart_3 kc ks loc (.int (3) :: st) h := rfl
theorem s_M_isPart_3  {a1 : Value} {a2 : Value} {a3 : Value} : wps rm K Q c_M_isPart_3 kc ks loc (a3 :: a2 :: a1 :: st) h = (st.length ≤ 4 ∧ eg_Cs n_M_isIn [a1, a2, a3] h (fun v h9 => wps rm K Q c_M_isPart_6 kc ks loc (v.toList ++ st) h9)) := eg_c0_3
theorem s_M_isPart_6 {x : Int32} : wps rm K Q c_M_isPart_6 kc ks loc ([.int x]) h = (kc = rm.cells ∧ ((1 : Nat) = 1 → x = 0 ∨ x = 1) ∧ Q (some (.int x)) h) := rfl
def T_M_isPart : List (Nat × List eg_I) := []
end
theorem q_M_isPart : (T_M_isPart.all fun q => eg_seq m_M_isPart q.1 q.2) = true := by decide +kernel
theorem b_M_isPart {as : List Value} {h : List eg_E} {Q : Option Value → List eg_E → Prop} (hf : (eg_fl as).length ≤ 1) (hw : wps (eg_rm m_M_isPart) (eg_run (eg_rm m_M_isPart) (eg_R m_M_isPart Q (h.length + 0)) Q T_M_isPart 2) Q c_M_isPart_0 0 0 (eg_entry 1 as) [] h) : eg_Runs n_M_isPart as h Q := eg_begin (d := m_M_isPart) rfl (by decide) (by decide +kernel) q_M_isPart hf hw
/-! ===== M_isPoint ===== -/
def c_M_isPoint_26 : List eg_I := .inl (26, 1, .ireturn, 0, 1) :: []
def c_M_isPoint_25 : List eg_I := .inl (25, 1, .iconst (0), 0, 0) :: c_M_isPoint_26
def c_M_isPoint_22 : List eg_I := .inl (22, 3, .goto (4), 26, 0) :: []
def c_M_isPoint_21 : List eg_I := .inl (21, 1, .iconst (1), 0, 0) :: c_M_isPoint_22
def c_M_isPoint_18 : List eg_I := .inl (18, 3, .if_icmp .ge (7), 25, 0) :: c_M_isPoint_21
def c_M_isPoint_17 : List eg_I := .inl (17, 1, .iaload, 0, 0) :: c_M_isPoint_18
def c_M_isPoint_16 : List eg_I := .inl (16, 1, .iload 1, 0, 0) :: c_M_isPoint_17
def c_M_isPoint_13 : List eg_I := .inl (13, 3, .getfield 9, 12, 0) :: c_M_isPoint_16
def c_M_isPoint_12 : List eg_I := .inl (12, 1, .aload 0, 0, 0) :: c_M_isPoint_13
def c_M_isPoint_11 : List eg_I := .inl (11, 1, .iload 2, 0, 0) :: c_M_isPoint_12
def c_M_isPoint_8 : List eg_I := .inl (8, 3, .ifCond .lt (17), 25, 0) :: c_M_isPoint_11
def c_M_isPoint_7 : List eg_I := .inl (7, 1, .iload 2, 0, 0) :: c_M_isPoint_8
def c_M_isPoint_4 : List eg_I := .inl (4, 3, .ifCond .eq (21), 25, 0) :: c_M_isPoint_7
def c_M_isPoint_1 : List eg_I := .inr (1, 0, 99, n_M_isPart, 1, 12, 0, 0) :: c_M_isPoint_4
def c_M_isPoint_0 : List eg_I := .inl (0, 1, .iload 1, 0, 0) :: c_M_isPoint_1
section
variable {rm : Room} {K : Nat → Nat → Nat → eg_Lo → List Value → List eg_E → Prop} {Q : Option Value → List eg_E → Prop} {kc ks : Nat} {loc : eg_Lo} {st : List Value} {h : List eg_E}
theorem s_M_isPoint_0 {x : Int32} {l0 : Option Value} {l : eg_Lo} : wps rm K Q c_M_isPoint_0 kc ks (l0 :: some (.int x) :: l) (st) h = wps rm K Q c_M_isPoint_1 kc ks (l0 :: some (.int x) :: l) (.int x :: st) h := rfl
theorem s_M_isPoint_1  {a1 : Value} : wps rm K Q c_M_isPoint_1 kc ks loc (a1 :: st) h = (st.length ≤ 4 ∧ eg_Cs n_M_isPart [a1] h (fun v h9 => wps rm K Q c_M_isPoint_4 kc ks loc (v.toList ++ st) h9)) := eg_c0_1
theorem s_M_isPoint_4 {x : Int32} : wps rm K Q c_M_isPoint_4 kc ks loc (.int x :: st) h = ((x = 0 → K 25 kc ks loc st h) ∧ (¬ x = 0 → wps rm K Q c_M_isPoint_7 kc ks loc (st) h)) := rfl
theorem s_M_isPoint_7 {x : Int32} {l0 l1 : Option Value} {l : eg_Lo} : wps rm K Q c_M_isPoint_7 kc ks (l0 :: l1 :: some (.int x) :: l) (st) h = wps rm K Q c_M_isPoint_8 kc ks (l0 :: l1 :: some (.int x) :: l) (.int x :: st) h := rfl
theorem s_M_isPoint_8 {x : Int32} : wps rm K Q c_M_isPoint_8 kc ks loc (.int x :: st) h = ((x < 0 → K 25 kc ks loc st h) ∧ (¬ x < 0 → wps rm K Q c_M_isPoint_11 kc ks loc (st) h)) := rfl
theorem s_M_isPoint_11 {x : Int32} {l0 l1 : Option Value} {l : eg_Lo} : wps rm K Q c_M_isPoint_11 kc ks (l0 :: l1 :: some (.int x) :: l) (st) h = wps rm K Q c_M_isPoint_12 kc ks (l0 :: l1 :: some (.int x) :: l) (.int x :: st) h := rfl
theorem s_M_isPoint_12 {x : Nat} {l : eg_Lo} : wps rm K Q c_M_isPoint_12 kc ks (some (.ref x) :: l) (st) h = wps rm K Q c_M_isPoint_13 kc ks (some (.ref x) :: l) (.ref x :: st) h := rfl
theorem s_M_isPoint_13 {x : Nat} : wps rm K Q c_M_isPoint_13 kc ks loc (.ref (x + 1) :: st) h = eg_gf h x 12 0 (fun v => wps rm K Q c_M_isPoint_16 kc ks loc (v :: st) h) := rfl
theorem s_M_isPoint_16 {x : Int32} {l0 : Option Value} {l : eg_Lo} : wps rm K Q c_M_isPoint_16 kc ks (l0 :: some (.int x) :: l) (st) h = wps rm K Q c_M_isPoint_17 kc ks (l0 :: some (.int x) :: l) (.int x :: st) h := rfl
theorem s_M_isPoint_17 {x : Nat} {i : Int32} : wps rm K Q c_M_isPoint_17 kc ks loc (.int i :: .ref (x + 1) :: st) h = eg_ia h x i (fun v => wps rm K Q c_M_isPoint_18 kc ks loc (.int v :: st) h) := rfl
theorem s_M_isPoint_18 {x y : Int32} : wps rm K Q c_M_isPoint_18 kc ks loc (.int y :: .int x :: st) h = ((y ≤ x → K 25 kc ks loc st h) ∧ (¬ y ≤ x → wps rm K Q c_M_isPoint_21 kc ks loc (st) h)) := rfl
theorem s_M_isPoint_21  : wps rm K Q c_M_isPoint_21 kc ks loc (st) h = wps rm K Q c_M_isPoint_22 kc ks loc (.int (1) :: st) h := rfl
theorem s_M_isPoint_22  : wps rm K Q c_M_isPoint_22 kc ks loc (st) h = K 26 kc ks loc st h := rfl
theorem s_M_isPoint_25  : wps rm K Q c_M_isPoint_25 kc ks loc (st) h = wps rm K Q c_M_isPoint_26 kc ks loc (.int (0) :: st) h := rfl
theorem s_M_isPoint_26 {x : Int32} : wps rm K Q c_M_isPoint_26 kc ks loc ([.int x]) h = (kc = rm.cells ∧ ((1 : Nat) = 1 → x = 0 ∨ x = 1) ∧ Q (some (.int x)) h) := rfl
def T_M_isPoint : List (Nat × List eg_I) := [(25, c_M_isPoint_25), (26, c_M_isPoint_26)]
theorem j_M_isPoint_25 {R : Nat → Nat → Nat → eg_Lo → List Value → List eg_E → Prop} {f pc0 : Nat} : eg_run rm R Q T_M_isPoint (f + 1) 25 kc ks loc st h = wps rm (eg_run rm R Q T_M_isPoint f) Q c_M_isPoint_25 kc ks loc st h := rfl
theorem j_M_isPoint_26 {R : Nat → Nat → Nat → eg_Lo → List Value → List eg_E → Prop} {f pc0 : Nat} : eg_run rm R Q T_M_isPoint (f + 1) 26 kc ks loc st h = wps rm (eg_run rm R Q T_M_isPoint f) Q c_M_isPoint_26 kc ks loc st h := rfl
end
theorem q_M_isPoint : (T_M_isPoint.all fun q => eg_seq m_M_isPoint q.1 q.2) = true := by decide +kernel
theorem b_M_isPoint {as : List Value} {h : List eg_E} {Q : Option Value → List eg_E → Prop} (hf : (eg_fl as).length ≤ 3) (hw : wps (eg_rm m_M_isPoint) (eg_run (eg_rm m_M_isPoint) (eg_R m_M_isPoint Q (h.length + 0)) Q T_M_isPoint 4) Q c_M_isPoint_0 0 0 (eg_entry 3 as) [] h) : eg_Runs n_M_isPoint as h Q := eg_begin (d := m_M_isPoint) rfl (by decide) (by decide +kernel) q_M_isPoint hf hw
/-! ===== M_at_II ===== -/
def c_M_at_II_6 : List eg_I := .inl (6, 1, .ireturn, 0, 0) :: []
def c_M_at_II_5 : List eg_I := .inl (5, 1, .iadd, 0, 0) :: c_M_at_II_6
def c_M_at_II_4 : List eg_I := .inl (4, 1, .iload 1, 0, 0) :: c_M_at_II_5
def c_M_at_II_3 : List eg_I := .inl (3, 1, .imul, 0, 0) :: c_M_at_II_4
def c_M_at_II_2 : List eg_I := .inl (2, 1, .iload 0, 0, 0) :: c_M_at_II_3
def c_M_at_II_0 : List eg_I := .inl (0, 2, .iconst (16), 0, 0) :: c_M_at_II_2
section
variable {rm : Room} {K : Nat → Nat → Nat → eg_Lo → List Value → List eg_E → Prop} {Q : Option Value → List eg_E → Prop} {kc ks : Nat} {loc : eg_Lo} {st : List Value} {h : List eg_E}
theorem s_M_at_II_0  : wps rm K Q c_M_at_II_0 kc ks loc (st) h = wps rm K Q c_M_at_II_2 kc ks loc (.int (16) :: st) h := rfl
theorem s_M_at_II_2 {x : Int32} {l : eg_Lo} : wps rm K Q c_M_at_II_2 kc ks (some (.int x) :: l) (st) h = wps rm K Q c_M_at_II_3 kc ks (some (.int x) :: l) (.int x :: st) h := rfl
theorem s_M_at_II_3 {x y : Int32} : wps rm K Q c_M_at_II_3 kc ks loc (.int y :: .int x :: st) h = wps rm K Q c_M_at_II_4 kc ks loc (.int (x * y) :: st) h := rfl
theorem s_M_at_II_4 {x : Int32} {l0 : Option Value} {l : eg_Lo} : wps rm K Q c_M_at_II_4 kc ks (l0 :: some (.int x) :: l) (st) h = wps rm K Q c_M_at_II_5 kc ks (l0 :: some (.int x) :: l) (.int x :: st) h := rfl
theorem s_M_at_II_5 {x y : Int32} : wps rm K Q c_M_at_II_5 kc ks loc (.int y :: .int x :: st) h = wps rm K Q c_M_at_II_6 kc ks loc (.int (x + y) :: st) h := rfl
theorem s_M_at_II_6 {x : Int32} : wps rm K Q c_M_at_II_6 kc ks loc ([.int x]) h = (kc = rm.cells ∧ (0 = 1 → x = 0 ∨ x = 1) ∧ Q (some (.int x)) h) := rfl
def T_M_at_II : List (Nat × List eg_I) := []
end
theorem q_M_at_II : (T_M_at_II.all fun q => eg_seq m_M_at_II q.1 q.2) = true := by decide +kernel
theorem b_M_at_II {as : List Value} {h : List eg_E} {Q : Option Value → List eg_E → Prop} (hf : (eg_fl as).length ≤ 2) (hw : wps (eg_rm m_M_at_II) (eg_run (eg_rm m_M_at_II) (eg_R m_M_at_II Q (h.length + 0)) Q T_M_at_II 2) Q c_M_at_II_0 0 0 (eg_entry 2 as) [] h) : eg_Runs n_M_at_II as h Q := eg_begin (d := m_M_at_II) rfl (by decide) (by decide +kernel) q_M_at_II hf hw
/-! ===== M_add ===== -/
def c_M_add_56 : List eg_I := .inl (56, 1, .return_, 0, 0) :: []
def c_M_add_55 : List eg_I := .inl (55, 1, .iastore, 0, 0) :: c_M_add_56
def c_M_add_54 : List eg_I := .inl (54, 1, .iadd, 0, 0) :: c_M_add_55
def c_M_add_53 : List eg_I := .inl (53, 1, .iconst (1), 0, 0) :: c_M_add_54
def c_M_add_52 : List eg_I := .inl (52, 1, .iaload, 0, 0) :: c_M_add_53
def c_M_add_51 : List eg_I := .inl (51, 1, .dup2, 0, 0) :: c_M_add_52
def c_M_add_50 : List eg_I := .inl (50, 1, .iload 1, 0, 0) :: c_M_add_51
def c_M_add_47 : List eg_I := .inl (47, 3, .getfield 9, 12, 0) :: c_M_add_50
def c_M_add_46 : List eg_I := .inl (46, 1, .aload 0, 0, 0) :: c_M_add_47
def c_M_add_45 : List eg_I := .inl (45, 1, .bastore, 0, 0) :: c_M_add_46
def c_M_add_43 : List eg_I := .inl (43, 2, .iload 5, 0, 0) :: c_M_add_45
def c_M_add_41 : List eg_I := .inl (41, 2, .iload 6, 0, 0) :: c_M_add_43
def c_M_add_38 : List eg_I := .inl (38, 3, .getfield 22, 12, 4) :: c_M_add_41
def c_M_add_37 : List eg_I := .inl (37, 1, .aload 0, 0, 0) :: c_M_add_38
def c_M_add_36 : List eg_I := .inl (36, 1, .iastore, 0, 0) :: c_M_add_37
def c_M_add_34 : List eg_I := .inl (34, 2, .iload 4, 0, 0) :: c_M_add_36
def c_M_add_32 : List eg_I := .inl (32, 2, .iload 6, 0, 0) :: c_M_add_34
def c_M_add_29 : List eg_I := .inl (29, 3, .getfield 19, 12, 3) :: c_M_add_32
def c_M_add_28 : List eg_I := .inl (28, 1, .aload 0, 0, 0) :: c_M_add_29
def c_M_add_27 : List eg_I := .inl (27, 1, .iastore, 0, 0) :: c_M_add_28
def c_M_add_26 : List eg_I := .inl (26, 1, .iload 3, 0, 0) :: c_M_add_27
def c_M_add_24 : List eg_I := .inl (24, 2, .iload 6, 0, 0) :: c_M_add_26
def c_M_add_21 : List eg_I := .inl (21, 3, .getfield 16, 12, 2) :: c_M_add_24
def c_M_add_20 : List eg_I := .inl (20, 1, .aload 0, 0, 0) :: c_M_add_21
def c_M_add_19 : List eg_I := .inl (19, 1, .iastore, 0, 0) :: c_M_add_20
def c_M_add_18 : List eg_I := .inl (18, 1, .iload 2, 0, 0) :: c_M_add_19
def c_M_add_16 : List eg_I := .inl (16, 2, .iload 6, 0, 0) :: c_M_add_18
def c_M_add_13 : List eg_I := .inl (13, 3, .getfield 13, 12, 1) :: c_M_add_16
def c_M_add_12 : List eg_I := .inl (12, 1, .aload 0, 0, 0) :: c_M_add_13
def c_M_add_10 : List eg_I := .inl (10, 2, .istore 6, 0, 0) :: c_M_add_12
def c_M_add_7 : List eg_I := .inr (7, 0, 103, n_M_at_II, 2, 12, 0, 0) :: c_M_add_10
def c_M_add_6 : List eg_I := .inl (6, 1, .iaload, 0, 0) :: c_M_add_7
def c_M_add_5 : List eg_I := .inl (5, 1, .iload 1, 0, 0) :: c_M_add_6
def c_M_add_2 : List eg_I := .inl (2, 3, .getfield 9, 12, 0) :: c_M_add_5
def c_M_add_1 : List eg_I := .inl (1, 1, .aload 0, 0, 0) :: c_M_add_2
def c_M_add_0 : List eg_I := .inl (0, 1, .iload 1, 0, 0) :: c_M_add_1
section
variable {rm : Room} {K : Nat → Nat → Nat → eg_Lo → List Value → List eg_E → Prop} {Q : Option Value → List eg_E → Prop} {kc ks : Nat} {loc : eg_Lo} {st : List Value} {h : List eg_E}
theorem s_M_add_0 {x : Int32} {l0 : Option Value} {l : eg_Lo} : wps rm K Q c_M_add_0 kc ks (l0 :: some (.int x) :: l) (st) h = wps rm K Q c_M_add_1 kc ks (l0 :: some (.int x) :: l) (.int x :: st) h := rfl
theorem s_M_add_1 {x : Nat} {l : eg_Lo} : wps rm K Q c_M_add_1 kc ks (some (.ref x) :: l) (st) h = wps rm K Q c_M_add_2 kc ks (some (.ref x) :: l) (.ref x :: st) h := rfl
theorem s_M_add_2 {x : Nat} : wps rm K Q c_M_add_2 kc ks loc (.ref (x + 1) :: st) h = eg_gf h x 12 0 (fun v => wps rm K Q c_M_add_5 kc ks loc (v :: st) h) := rfl
theorem s_M_add_5 {x : Int32} {l0 : Option Value} {l : eg_Lo} : wps rm K Q c_M_add_5 kc ks (l0 :: some (.int x) :: l) (st) h = wps rm K Q c_M_add_6 kc ks (l0 :: some (.int x) :: l) (.int x :: st) h := rfl
theorem s_M_add_6 {x : Nat} {i : Int32} : wps rm K Q c_M_add_6 kc ks loc (.int i :: .ref (x + 1) :: st) h = eg_ia h x i (fun v => wps rm K Q c_M_add_7 kc ks loc (.int v :: st) h) := rfl
theorem s_M_add_7  {a1 : Value} {a2 : Value} : wps rm K Q c_M_add_7 kc ks loc (a2 :: a1 :: st) h = (st.length ≤ 4 ∧ eg_Cs n_M_at_II [a1, a2] h (fun v h9 => wps rm K Q c_M_add_10 kc ks loc (v.toList ++ st) h9)) := eg_c0_2
theorem s_M_add_10 {x : Int32} : wps rm K Q c_M_add_10 kc ks loc (.int x :: st) h = wps rm K Q c_M_add_12 kc ks (eg_set1 loc 6 (.int x)) (st) h := rfl
theorem s_M_add_12 {x : Nat} {l : eg_Lo} : wps rm K Q c_M_add_12 kc ks (some (.ref x) :: l) (st) h = wps rm K Q c_M_add_13 kc ks (some (.ref x) :: l) (.ref x :: st) h := rfl
theorem s_M_add_13 {x : Nat} : wps rm K Q c_M_add_13 kc ks loc (.ref (x + 1) :: st) h = eg_gf h x 12 1 (fun v => wps rm K Q c_M_add_16 kc ks loc (v :: st) h) := rfl
theorem s_M_add_16 {x : Int32} {l0 l1 l2 l3 l4 l5 : Option Value} {l : eg_Lo} : wps rm K Q c_M_add_16 kc ks (l0 :: l1 :: l2 :: l3 :: l4 :: l5 :: some (.int x) :: l) (st) h = wps rm K Q c_M_add_18 kc ks (l0 :: l1 :: l2 :: l3 :: l4 :: l5 :: some (.int x) :: l) (.int x :: st) h := rfl
theorem s_M_add_18 {x : Int32} {l0 l1 : Option Value} {l : eg_Lo} : wps rm K Q c_M_add_18 kc ks (l0 :: l1 :: some (.int x) :: l) (st) h = wps rm K Q c_M_add_19 kc ks (l0 :: l1 :: some (.int x) :: l) (.int x :: st) h := rfl
theorem s_M_add_19 {x : Nat} {i : Int32} {v : Int32} : wps rm K Q c_M_add_19 kc ks loc (.int v :: .int i :: .ref (x + 1) :: st) h = eg_is h x i v (fun h9 => wps rm K Q c_M_add_20 kc ks loc (st) h9) := rfl
theorem s_M_add_20 {x : Nat} {l : eg_Lo} : wps rm K Q c_M_add_20 kc ks (some (.ref x) :: l) (st) h = wps rm K Q c_M_add_21 kc ks (some (.ref x) :: l) (.ref x :: st) h := rfl
theorem s_M_add_21 {x : Nat} : wps rm K Q c_M_add_21 kc ks loc (.ref (x + 1) :: st) h = eg_gf h x 12 2 (fun v => wps rm K Q c_M_add_24 kc ks loc (v :: st) h) := rfl
theorem s_M_add_24 {x : Int32} {l0 l1 l2 l3 l4 l5 : Option Value} {l : eg_Lo} : wps rm K Q c_M_add_24 kc ks (l0 :: l1 :: l2 :: l3 :: l4 :: l5 :: some (.int x) :: l) (st) h = wps rm K Q c_M_add_26 kc ks (l0 :: l1 :: l2 :: l3 :: l4 :: l5 :: some (.int x) :: l) (.int x :: st) h := rfl
theorem s_M_add_26 {x : Int32} {l0 l1 l2 : Option Value} {l : eg_Lo} : wps rm K Q c_M_add_26 kc ks (l0 :: l1 :: l2 :: some (.int x) :: l) (st) h = wps rm K Q c_M_add_27 kc ks (l0 :: l1 :: l2 :: some (.int x) :: l) (.int x :: st) h := rfl
theorem s_M_add_27 {x : Nat} {i : Int32} {v : Int32} : wps rm K Q c_M_add_27 kc ks loc (.int v :: .int i :: .ref (x + 1) :: st) h = eg_is h x i v (fun h9 => wps rm K Q c_M_add_28 kc ks loc (st) h9) := rfl
theorem s_M_add_28 {x : Nat} {l : eg_Lo} : wps rm K Q c_M_add_28 kc ks (some (.ref x) :: l) (st) h = wps rm K Q c_M_add_29 kc ks (some (.ref x) :: l) (.ref x :: st) h := rfl
theorem s_M_add_29 {x : Nat} : wps rm K Q c_M_add_29 kc ks loc (.ref (x + 1) :: st) h = eg_gf h x 12 3 (fun v => wps rm K Q c_M_add_32 kc ks loc (v :: st) h) := rfl
theorem s_M_add_32 {x : Int32} {l0 l1 l2 l3 l4 l5 : Option Value} {l : eg_Lo} : wps rm K Q c_M_add_32 kc ks (l0 :: l1 :: l2 :: l3 :: l4 :: l5 :: some (.int x) :: l) (st) h = wps rm K Q c_M_add_34 kc ks (l0 :: l1 :: l2 :: l3 :: l4 :: l5 :: some (.int x) :: l) (.int x :: st) h := rfl
theorem s_M_add_34 {x : Int32} {l0 l1 l2 l3 : Option Value} {l : eg_Lo} : wps rm K Q c_M_add_34 kc ks (l0 :: l1 :: l2 :: l3 :: some (.int x) :: l) (st) h = wps rm K Q c_M_add_36 kc ks (l0 :: l1 :: l2 :: l3 :: some (.int x) :: l) (.int x :: st) h := rfl
theorem s_M_add_36 {x : Nat} {i : Int32} {v : Int32} : wps rm K Q c_M_add_36 kc ks loc (.int v :: .int i :: .ref (x + 1) :: st) h = eg_is h x i v (fun h9 => wps rm K Q c_M_add_37 kc ks loc (st) h9) := rfl
theorem s_M_add_37 {x : Nat} {l : eg_Lo} : wps rm K Q c_M_add_37 kc ks (some (.ref x) :: l) (st) h = wps rm K Q c_M_add_38 kc ks (some (.ref x) :: l) (.ref x :: st) h := rfl
theorem s_M_add_38 {x : Nat} : wps rm K Q c_M_add_38 kc ks loc (.ref (x + 1) :: st) h = eg_gf h x 12 4 (fun v => wps rm K Q c_M_add_41 kc ks loc (v :: st) h) := rfl
theorem s_M_add_41 {x : Int32} {l0 l1 l2 l3 l4 l5 : Option Value} {l : eg_Lo} : wps rm K Q c_M_add_41 kc ks (l0 :: l1 :: l2 :: l3 :: l4 :: l5 :: some (.int x) :: l) (st) h = wps rm K Q c_M_add_43 kc ks (l0 :: l1 :: l2 :: l3 :: l4 :: l5 :: some (.int x) :: l) (.int x :: st) h := rfl
theorem s_M_add_43 {x : Int32} {l0 l1 l2 l3 l4 : Option Value} {l : eg_Lo} : wps rm K Q c_M_add_43 kc ks (l0 :: l1 :: l2 :: l3 :: l4 :: some (.int x) :: l) (st) h = wps rm K Q c_M_add_45 kc ks (l0 :: l1 :: l2 :: l3 :: l4 :: some (.int x) :: l) (.int x :: st) h := rfl
theorem s_M_add_45 {x : Nat} {i : Int32} {v : Int32} : wps rm K Q c_M_add_45 kc ks loc (.int v :: .int i :: .ref (x + 1) :: st) h = eg_bs h x i v (fun h9 => wps rm K Q c_M_add_46 kc ks loc (st) h9) := rfl
theorem s_M_add_46 {x : Nat} {l : eg_Lo} : wps rm K Q c_M_add_46 kc ks (some (.ref x) :: l) (st) h = wps rm K Q c_M_add_47 kc ks (some (.ref x) :: l) (.ref x :: st) h := rfl
theorem s_M_add_47 {x : Nat} : wps rm K Q c_M_add_47 kc ks loc (.ref (x + 1) :: st) h = eg_gf h x 12 0 (fun v => wps rm K Q c_M_add_50 kc ks loc (v :: st) h) := rfl
theorem s_M_add_50 {x : Int32} {l0 : Option Value} {l : eg_Lo} : wps rm K Q c_M_add_50 kc ks (l0 :: some (.int x) :: l) (st) h = wps rm K Q c_M_add_51 kc ks (l0 :: some (.int x) :: l) (.int x :: st) h := rfl
theorem s_M_add_51 {y : Int32} {x : Nat} : wps rm K Q c_M_add_51 kc ks loc (.int y :: .ref x :: st) h = wps rm K Q c_M_add_52 kc ks loc (.int y :: .ref x :: .int y :: .ref x :: st) h := rfl
theorem s_M_add_52 {x : Nat} {i : Int32} : wps rm K Q c_M_add_52 kc ks loc (.int i :: .ref (x + 1) :: st) h = eg_ia h x i (fun v => wps rm K Q c_M_add_53 kc ks loc (.int v :: st) h) := rfl
theorem s_M_add_53  : wps rm K Q c_M_add_53 kc ks loc (st) h = wps rm K Q c_M_add_54 kc ks loc (.int (1) :: st) h := rfl
theorem s_M_add_54 {x y : Int32} : wps rm K Q c_M_add_54 kc ks loc (.int y :: .int x :: st) h = wps rm K Q c_M_add_55 kc ks loc (.int (x + y) :: st) h := rfl
theorem s_M_add_55 {x : Nat} {i : Int32} {v : Int32} : wps rm K Q c_M_add_55 kc ks loc (.int v :: .int i :: .ref (x + 1) :: st) h = eg_is h x i v (fun h9 => wps rm K Q c_M_add_56 kc ks loc (st) h9) := rfl
theorem s_M_add_56  : wps rm K Q c_M_add_56 kc ks loc ([]) h = (kc = rm.cells ∧ Q none h) := rfl
def T_M_add : List (Nat × List eg_I) := []
end
theorem q_M_add : (T_M_add.all fun q => eg_seq m_M_add q.1 q.2) = true := by decide +kernel
theorem b_M_add {as : List Value} {h : List eg_E} {Q : Option Value → List eg_E → Prop} (hf : (eg_fl as).length ≤ 7) (hw : wps (eg_rm m_M_add) (eg_run (eg_rm m_M_add) (eg_R m_M_add Q (h.length + 0)) Q T_M_add 2) Q c_M_add_0 0 0 (eg_entry 7 as) [] h) : eg_Runs n_M_add as h Q := eg_begin (d := m_M_add) rfl (by decide) (by decide +kernel) q_M_add hf hw
/-! ===== M_isNear ===== -/
def c_M_isNear_10 : List eg_I := .inl (10, 1, .ireturn, 0, 1) :: []
def c_M_isNear_7 : List eg_I := .inr (7, 0, 95, n_M_isIn, 3, 12, 0, 0) :: c_M_isNear_10
def c_M_isNear_4 : List eg_I := .inl (4, 3, .iconst (300), 0, 0) :: c_M_isNear_7
def c_M_isNear_1 : List eg_I := .inl (1, 3, .iconst (-300), 0, 0) :: c_M_isNear_4
def c_M_isNear_0 : List eg_I := .inl (0, 1, .iload 0, 0, 0) :: c_M_isNear_1
section
variable {rm : Room} {K : Nat → Nat → Nat → eg_Lo → List Value → List eg_E → Prop} {Q : Option Value → List eg_E → Prop} {kc ks : Nat} {loc : eg_Lo} {st : List Value} {h : List eg_E}
theorem s_M_isNear_0 {x : Int32} {l : eg_Lo} : wps rm K Q c_M_isNear_0 kc ks (some (.int x) :: l) (st) h = wps rm K Q c_M_isNear_1 kc ks (some (.int x) :: l) (.int x :: st) h := rfl
theorem s_M_isNear_1  : wps rm K Q c_M_isNear_1 kc ks loc (st) h = wps rm K Q c_M_isNear_4 kc ks loc (.int (-300) :: st) h := rfl
theorem s_M_isNear_4  : wps rm K Q c_M_isNear_4 kc ks loc (st) h = wps rm K Q c_M_isNear_7 kc ks loc (.int (300) :: st) h := rfl
theorem s_M_isNear_7  {a1 : Value} {a2 : Value} {a3 : Value} : wps rm K Q c_M_isNear_7 kc ks loc (a3 :: a2 :: a1 :: st) h = (st.length ≤ 4 ∧ eg_Cs n_M_isIn [a1, a2, a3] h (fun v h9 => wps rm K Q c_M_isNear_10 kc ks loc (v.toList ++ st) h9)) := eg_c0_3
theorem s_M_isNear_10 {x : Int32} : wps rm K Q c_M_isNear_10 kc ks loc ([.int x]) h = (kc = rm.cells ∧ ((1 : Nat) = 1 → x = 0 ∨ x = 1) ∧ Q (some (.int x)) h) := rfl
def T_M_isNear : List (Nat × List eg_I) := []
end
theorem q_M_isNear : (T_M_isNear.all fun q => eg_seq m_M_isNear q.1 q.2) = true := by decide +kernel
theorem b_M_isNear {as : List Value} {h : List eg_E} {Q : Option Value → List eg_E → Prop} (hf : (eg_fl as).length ≤ 1) (hw : wps (eg_rm m_M_isNear) (eg_run (eg_rm m_M_isNear) (eg_R m_M_isNear Q (h.length + 0)) Q T_M_isNear 2) Q c_M_isNear_0 0 0 (eg_entry 1 as) [] h) : eg_Runs n_M_isNear as h Q := eg_begin (d := m_M_isNear) rfl (by decide) (by decide +kernel) q_M_isNear hf hw
/-! ===== M_point ===== -/
def c_M_point_73 : List eg_I := .inl (73, 1, .lreturn, 0, 0) :: []
def c_M_point_72 : List eg_I := .inl (72, 1, .i2l, 0, 0) :: c_M_point_73
def c_M_point_71 : List eg_I := .inl (71, 1, .iaload, 0, 0) :: c_M_point_72
def c_M_point_70 : List eg_I := .inl (70, 1, .iload 1, 0, 0) :: c_M_point_71
def c_M_point_67 : List eg_I := .inl (67, 3, .getfield 9, 12, 0) :: c_M_point_70
def c_M_point_66 : List eg_I := .inl (66, 1, .aload 0, 0, 0) :: c_M_point_67
def c_M_point_63 : List eg_I := .inr (63, 1, 118, n_M_add, 5, 12, 0, 0) :: c_M_point_66
def c_M_point_62 : List eg_I := .inl (62, 1, .iconst (0), 0, 0) :: c_M_point_63
def c_M_point_60 : List eg_I := .inl (60, 2, .iload 4, 0, 0) :: c_M_point_62
def c_M_point_59 : List eg_I := .inl (59, 1, .iload 3, 0, 0) :: c_M_point_60
def c_M_point_58 : List eg_I := .inl (58, 1, .iload 2, 0, 0) :: c_M_point_59
def c_M_point_57 : List eg_I := .inl (57, 1, .iload 1, 0, 0) :: c_M_point_58
def c_M_point_56 : List eg_I := .inl (56, 1, .aload 0, 0, 0) :: c_M_point_57
def c_M_point_55 : List eg_I := .inl (55, 1, .lreturn, 0, 0) :: []
def c_M_point_52 : List eg_I := .inr (52, 1, 112, n_M_finding, 1, 12, 0, 0) :: c_M_point_55
def c_M_point_49 : List eg_I := .inl (49, 3, .sipush (-1000000000000000005), 116, 0) :: c_M_point_52
def c_M_point_48 : List eg_I := .inl (48, 1, .aload 0, 0, 0) :: c_M_point_49
def c_M_point_45 : List eg_I := .inl (45, 3, .if_icmp .ne (11), 56, 0) :: c_M_point_48
def c_M_point_43 : List eg_I := .inl (43, 2, .iconst (16), 0, 0) :: c_M_point_45
def c_M_point_42 : List eg_I := .inl (42, 1, .iaload, 0, 0) :: c_M_point_43
def c_M_point_41 : List eg_I := .inl (41, 1, .iload 1, 0, 0) :: c_M_point_42
def c_M_point_38 : List eg_I := .inl (38, 3, .getfield 9, 12, 0) :: c_M_point_41
def c_M_point_37 : List eg_I := .inl (37, 1, .aload 0, 0, 0) :: c_M_point_38
def c_M_point_36 : List eg_I := .inl (36, 1, .lreturn, 0, 0) :: []
def c_M_point_33 : List eg_I := .inr (33, 1, 112, n_M_finding, 1, 12, 0, 0) :: c_M_point_36
def c_M_point_30 : List eg_I := .inl (30, 3, .sipush (-1000000000000000001), 110, 0) :: c_M_point_33
def c_M_point_29 : List eg_I := .inl (29, 1, .aload 0, 0, 0) :: c_M_point_30
def c_M_point_26 : List eg_I := .inl (26, 3, .ifCond .ne (11), 37, 0) :: c_M_point_29
def c_M_point_23 : List eg_I := .inr (23, 0, 107, n_M_isNear, 1, 12, 0, 0) :: c_M_point_26
def c_M_point_21 : List eg_I := .inl (21, 2, .iload 4, 0, 0) :: c_M_point_23
def c_M_point_18 : List eg_I := .inl (18, 3, .ifCond .eq (11), 29, 0) :: c_M_point_21
def c_M_point_15 : List eg_I := .inr (15, 0, 107, n_M_isNear, 1, 12, 0, 0) :: c_M_point_18
def c_M_point_14 : List eg_I := .inl (14, 1, .iload 3, 0, 0) :: c_M_point_15
def c_M_point_11 : List eg_I := .inl (11, 3, .ifCond .eq (18), 29, 0) :: c_M_point_14
def c_M_point_8 : List eg_I := .inr (8, 0, 107, n_M_isNear, 1, 12, 0, 0) :: c_M_point_11
def c_M_point_7 : List eg_I := .inl (7, 1, .iload 2, 0, 0) :: c_M_point_8
def c_M_point_4 : List eg_I := .inl (4, 3, .ifCond .eq (25), 29, 0) :: c_M_point_7
def c_M_point_1 : List eg_I := .inr (1, 0, 99, n_M_isPart, 1, 12, 0, 0) :: c_M_point_4
def c_M_point_0 : List eg_I := .inl (0, 1, .iload 1, 0, 0) :: c_M_point_1
section
variable {rm : Room} {K : Nat → Nat → Nat → eg_Lo → List Value → List eg_E → Prop} {Q : Option Value → List eg_E → Prop} {kc ks : Nat} {loc : eg_Lo} {st : List Value} {h : List eg_E}
theorem s_M_point_0 {x : Int32} {l0 : Option Value} {l : eg_Lo} : wps rm K Q c_M_point_0 kc ks (l0 :: some (.int x) :: l) (st) h = wps rm K Q c_M_point_1 kc ks (l0 :: some (.int x) :: l) (.int x :: st) h := rfl
theorem s_M_point_1  {a1 : Value} : wps rm K Q c_M_point_1 kc ks loc (a1 :: st) h = (st.length ≤ 4 ∧ eg_Cs n_M_isPart [a1] h (fun v h9 => wps rm K Q c_M_point_4 kc ks loc (v.toList ++ st) h9)) := eg_c0_1
theorem s_M_point_4 {x : Int32} : wps rm K Q c_M_point_4 kc ks loc (.int x :: st) h = ((x = 0 → K 29 kc ks loc st h) ∧ (¬ x = 0 → wps rm K Q c_M_point_7 kc ks loc (st) h)) := rfl
theorem s_M_point_7 {x : Int32} {l0 l1 : Option Value} {l : eg_Lo} : wps rm K Q c_M_point_7 kc ks (l0 :: l1 :: some (.int x) :: l) (st) h = wps rm K Q c_M_point_8 kc ks (l0 :: l1 :: some (.int x) :: l) (.int x :: st) h := rfl
theorem s_M_point_8  {a1 : Value} : wps rm K Q c_M_point_8 kc ks loc (a1 :: st) h = (st.length ≤ 4 ∧ eg_Cs n_M_isNear [a1] h (fun v h9 => wps rm K Q c_M_point_11 kc ks loc (v.toList ++ st) h9)) := eg_c0_1
theorem s_M_point_11 {x : Int32} : wps rm K Q c_M_point_11 kc ks loc (.int x :: st) h = ((x = 0 → K 29 kc ks loc st h) ∧ (¬ x = 0 → wps rm K Q c_M_point_14 kc ks loc (st) h)) := rfl
theorem s_M_point_14 {x : Int32} {l0 l1 l2 : Option Value} {l : eg_Lo} : wps rm K Q c_M_point_14 kc ks (l0 :: l1 :: l2 :: some (.int x) :: l) (st) h = wps rm K Q c_M_point_15 kc ks (l0 :: l1 :: l2 :: some (.int x) :: l) (.int x :: st) h := rfl
theorem s_M_point_15  {a1 : Value} : wps rm K Q c_M_point_15 kc ks loc (a1 :: st) h = (st.length ≤ 4 ∧ eg_Cs n_M_isNear [a1] h (fun v h9 => wps rm K Q c_M_point_18 kc ks loc (v.toList ++ st) h9)) := eg_c0_1
theorem s_M_point_18 {x : Int32} : wps rm K Q c_M_point_18 kc ks loc (.int x :: st) h = ((x = 0 → K 29 kc ks loc st h) ∧ (¬ x = 0 → wps rm K Q c_M_point_21 kc ks loc (st) h)) := rfl
theorem s_M_point_21 {x : Int32} {l0 l1 l2 l3 : Option Value} {l : eg_Lo} : wps rm K Q c_M_point_21 kc ks (l0 :: l1 :: l2 :: l3 :: some (.int x) :: l) (st) h = wps rm K Q c_M_point_23 kc ks (l0 :: l1 :: l2 :: l3 :: some (.int x) :: l) (.int x :: st) h := rfl
theorem s_M_point_23  {a1 : Value} : wps rm K Q c_M_point_23 kc ks loc (a1 :: st) h = (st.length ≤ 4 ∧ eg_Cs n_M_isNear [a1] h (fun v h9 => wps rm K Q c_M_point_26 kc ks loc (v.toList ++ st) h9)) := eg_c0_1
theorem s_M_point_26 {x : Int32} : wps rm K Q c_M_point_26 kc ks loc (.int x :: st) h = ((¬ x = 0 → K 37 kc ks loc st h) ∧ (x = 0 → wps rm K Q c_M_point_29 kc ks loc (st) h)) := rfl
theorem s_M_point_29 {x : Nat} {l : eg_Lo} : wps rm K Q c_M_point_29 kc ks (some (.ref x) :: l) (st) h = wps rm K Q c_M_point_30 kc ks (some (.ref x) :: l) (.ref x :: st) h := rfl
theorem s_M_point_30  : wps rm K Q c_M_point_30 kc ks loc (st) h = wps rm K Q c_M_point_33 kc ks loc (.long (-1000000000000000001) :: st) h := rfl
theorem s_M_point_33  {a1 : Value} {x : Nat} : wps rm K Q c_M_point_33 kc ks loc (a1 :: .ref (x + 1) :: st) h = (eg_cls h x 12 ∧ st.length ≤ 4 ∧ eg_Cs n_M_finding (.ref (x + 1) :: [a1]) h (fun v h9 => wps rm K Q c_M_point_36 kc ks loc (v.toList ++ st) h9)) := eg_c1_1
theorem s_M_point_36 {x : Int64} : wps rm K Q c_M_point_36 kc ks loc ([.long x]) h = (kc = rm.cells ∧ Q (some (.long x)) h) := rfl
theorem s_M_point_37 {x : Nat} {l : eg_Lo} : wps rm K Q c_M_point_37 kc ks (some (.ref x) :: l) (st) h = wps rm K Q c_M_point_38 kc ks (some (.ref x) :: l) (.ref x :: st) h := rfl
theorem s_M_point_38 {x : Nat} : wps rm K Q c_M_point_38 kc ks loc (.ref (x + 1) :: st) h = eg_gf h x 12 0 (fun v => wps rm K Q c_M_point_41 kc ks loc (v :: st) h) := rfl
theorem s_M_point_41 {x : Int32} {l0 : Option Value} {l : eg_Lo} : wps rm K Q c_M_point_41 kc ks (l0 :: some (.int x) :: l) (st) h = wps rm K Q c_M_point_42 kc ks (l0 :: some (.int x) :: l) (.int x :: st) h := rfl
theorem s_M_point_42 {x : Nat} {i : Int32} : wps rm K Q c_M_point_42 kc ks loc (.int i :: .ref (x + 1) :: st) h = eg_ia h x i (fun v => wps rm K Q c_M_point_43 kc ks loc (.int v :: st) h) := rfl
theorem s_M_point_43  : wps rm K Q c_M_point_43 kc ks loc (st) h = wps rm K Q c_M_point_45 kc ks loc (.int (16) :: st) h := rfl
theorem s_M_point_45 {x y : Int32} : wps rm K Q c_M_point_45 kc ks loc (.int y :: .int x :: st) h = ((¬ x = y → K 56 kc ks loc st h) ∧ (x = y → wps rm K Q c_M_point_48 kc ks loc (st) h)) := rfl
theorem s_M_point_48 {x : Nat} {l : eg_Lo} : wps rm K Q c_M_point_48 kc ks (some (.ref x) :: l) (st) h = wps rm K Q c_M_point_49 kc ks (some (.ref x) :: l) (.ref x :: st) h := rfl
theorem s_M_point_49  : wps rm K Q c_M_point_49 kc ks loc (st) h = wps rm K Q c_M_point_52 kc ks loc (.long (-1000000000000000005) :: st) h := rfl
theorem s_M_point_52  {a1 : Value} {x : Nat} : wps rm K Q c_M_point_52 kc ks loc (a1 :: .ref (x + 1) :: st) h = (eg_cls h x 12 ∧ st.length ≤ 4 ∧ eg_Cs n_M_finding (.ref (x + 1) :: [a1]) h (fun v h9 => wps rm K Q c_M_point_55 kc ks loc (v.toList ++ st) h9)) := eg_c1_1
theorem s_M_point_55 {x : Int64} : wps rm K Q c_M_point_55 kc ks loc ([.long x]) h = (kc = rm.cells ∧ Q (some (.long x)) h) := rfl
theorem s_M_point_56 {x : Nat} {l : eg_Lo} : wps rm K Q c_M_point_56 kc ks (some (.ref x) :: l) (st) h = wps rm K Q c_M_point_57 kc ks (some (.ref x) :: l) (.ref x :: st) h := rfl
theorem s_M_point_57 {x : Int32} {l0 : Option Value} {l : eg_Lo} : wps rm K Q c_M_point_57 kc ks (l0 :: some (.int x) :: l) (st) h = wps rm K Q c_M_point_58 kc ks (l0 :: some (.int x) :: l) (.int x :: st) h := rfl
theorem s_M_point_58 {x : Int32} {l0 l1 : Option Value} {l : eg_Lo} : wps rm K Q c_M_point_58 kc ks (l0 :: l1 :: some (.int x) :: l) (st) h = wps rm K Q c_M_point_59 kc ks (l0 :: l1 :: some (.int x) :: l) (.int x :: st) h := rfl
theorem s_M_point_59 {x : Int32} {l0 l1 l2 : Option Value} {l : eg_Lo} : wps rm K Q c_M_point_59 kc ks (l0 :: l1 :: l2 :: some (.int x) :: l) (st) h = wps rm K Q c_M_point_60 kc ks (l0 :: l1 :: l2 :: some (.int x) :: l) (.int x :: st) h := rfl
theorem s_M_point_60 {x : Int32} {l0 l1 l2 l3 : Option Value} {l : eg_Lo} : wps rm K Q c_M_point_60 kc ks (l0 :: l1 :: l2 :: l3 :: some (.int x) :: l) (st) h = wps rm K Q c_M_point_62 kc ks (l0 :: l1 :: l2 :: l3 :: some (.int x) :: l) (.int x :: st) h := rfl
theorem s_M_point_62  : wps rm K Q c_M_point_62 kc ks loc (st) h = wps rm K Q c_M_point_63 kc ks loc (.int (0) :: st) h := rfl
theorem s_M_point_63  {a1 : Value} {a2 : Value} {a3 : Value} {a4 : Value} {a5 : Value} {x : Nat} : wps rm K Q c_M_point_63 kc ks loc (a5 :: a4 :: a3 :: a2 :: a1 :: .ref (x + 1) :: st) h = (eg_cls h x 12 ∧ st.length ≤ 4 ∧ eg_Cs n_M_add (.ref (x + 1) :: [a1, a2, a3, a4, a5]) h (fun v h9 => wps rm K Q c_M_point_66 kc ks loc (v.toList ++ st) h9)) := eg_c1_5
theorem s_M_point_66 {x : Nat} {l : eg_Lo} : wps rm K Q c_M_point_66 kc ks (some (.ref x) :: l) (st) h = wps rm K Q c_M_point_67 kc ks (some (.ref x) :: l) (.ref x :: st) h := rfl
theorem s_M_point_67 {x : Nat} : wps rm K Q c_M_point_67 kc ks loc (.ref (x + 1) :: st) h = eg_gf h x 12 0 (fun v => wps rm K Q c_M_point_70 kc ks loc (v :: st) h) := rfl
theorem s_M_point_70 {x : Int32} {l0 : Option Value} {l : eg_Lo} : wps rm K Q c_M_point_70 kc ks (l0 :: some (.int x) :: l) (st) h = wps rm K Q c_M_point_71 kc ks (l0 :: some (.int x) :: l) (.int x :: st) h := rfl
theorem s_M_point_71 {x : Nat} {i : Int32} : wps rm K Q c_M_point_71 kc ks loc (.int i :: .ref (x + 1) :: st) h = eg_ia h x i (fun v => wps rm K Q c_M_point_72 kc ks loc (.int v :: st) h) := rfl
theorem s_M_point_72 {x : Int32} : wps rm K Q c_M_point_72 kc ks loc (.int x :: st) h = wps rm K Q c_M_point_73 kc ks loc (.long (x.toInt64) :: st) h := rfl
theorem s_M_point_73 {x : Int64} : wps rm K Q c_M_point_73 kc ks loc ([.long x]) h = (kc = rm.cells ∧ Q (some (.long x)) h) := rfl
def T_M_point : List (Nat × List eg_I) := [(29, c_M_point_29), (37, c_M_point_37), (56, c_M_point_56)]
theorem j_M_point_29 {R : Nat → Nat → Nat → eg_Lo → List Value → List eg_E → Prop} {f pc0 : Nat} : eg_run rm R Q T_M_point (f + 1) 29 kc ks loc st h = wps rm (eg_run rm R Q T_M_point f) Q c_M_point_29 kc ks loc st h := rfl
theorem j_M_point_37 {R : Nat → Nat → Nat → eg_Lo → List Value → List eg_E → Prop} {f pc0 : Nat} : eg_run rm R Q T_M_point (f + 1) 37 kc ks loc st h = wps rm (eg_run rm R Q T_M_point f) Q c_M_point_37 kc ks loc st h := rfl
theorem j_M_point_56 {R : Nat → Nat → Nat → eg_Lo → List Value → List eg_E → Prop} {f pc0 : Nat} : eg_run rm R Q T_M_point (f + 1) 56 kc ks loc st h = wps rm (eg_run rm R Q T_M_point f) Q c_M_point_56 kc ks loc st h := rfl
end
theorem q_M_point : (T_M_point.all fun q => eg_seq m_M_point q.1 q.2) = true := by decide +kernel
theorem b_M_point {as : List Value} {h : List eg_E} {Q : Option Value → List eg_E → Prop} (hf : (eg_fl as).length ≤ 5) (hw : wps (eg_rm m_M_point) (eg_run (eg_rm m_M_point) (eg_R m_M_point Q (h.length + 0)) Q T_M_point 5) Q c_M_point_0 0 0 (eg_entry 5 as) [] h) : eg_Runs n_M_point as h Q := eg_begin (d := m_M_point) rfl (by decide) (by decide +kernel) q_M_point hf hw
/-! ===== M_miss ===== -/
def c_M_miss_50 : List eg_I := .inl (50, 1, .lreturn, 0, 0) :: []
def c_M_miss_49 : List eg_I := .inl (49, 1, .i2l, 0, 0) :: c_M_miss_50
def c_M_miss_48 : List eg_I := .inl (48, 1, .iaload, 0, 0) :: c_M_miss_49
def c_M_miss_47 : List eg_I := .inl (47, 1, .iload 1, 0, 0) :: c_M_miss_48
def c_M_miss_44 : List eg_I := .inl (44, 3, .getfield 9, 12, 0) :: c_M_miss_47
def c_M_miss_43 : List eg_I := .inl (43, 1, .aload 0, 0, 0) :: c_M_miss_44
def c_M_miss_40 : List eg_I := .inr (40, 1, 118, n_M_add, 5, 12, 0, 0) :: c_M_miss_43
def c_M_miss_39 : List eg_I := .inl (39, 1, .iconst (1), 0, 0) :: c_M_miss_40
def c_M_miss_38 : List eg_I := .inl (38, 1, .iconst (0), 0, 0) :: c_M_miss_39
def c_M_miss_37 : List eg_I := .inl (37, 1, .iconst (0), 0, 0) :: c_M_miss_38
def c_M_miss_36 : List eg_I := .inl (36, 1, .iconst (0), 0, 0) :: c_M_miss_37
def c_M_miss_35 : List eg_I := .inl (35, 1, .iload 1, 0, 0) :: c_M_miss_36
def c_M_miss_34 : List eg_I := .inl (34, 1, .aload 0, 0, 0) :: c_M_miss_35
def c_M_miss_33 : List eg_I := .inl (33, 1, .lreturn, 0, 0) :: []
def c_M_miss_30 : List eg_I := .inr (30, 1, 112, n_M_finding, 1, 12, 0, 0) :: c_M_miss_33
def c_M_miss_27 : List eg_I := .inl (27, 3, .sipush (-1000000000000000005), 116, 0) :: c_M_miss_30
def c_M_miss_26 : List eg_I := .inl (26, 1, .aload 0, 0, 0) :: c_M_miss_27
def c_M_miss_23 : List eg_I := .inl (23, 3, .if_icmp .ne (11), 34, 0) :: c_M_miss_26
def c_M_miss_21 : List eg_I := .inl (21, 2, .iconst (16), 0, 0) :: c_M_miss_23
def c_M_miss_20 : List eg_I := .inl (20, 1, .iaload, 0, 0) :: c_M_miss_21
def c_M_miss_19 : List eg_I := .inl (19, 1, .iload 1, 0, 0) :: c_M_miss_20
def c_M_miss_16 : List eg_I := .inl (16, 3, .getfield 9, 12, 0) :: c_M_miss_19
def c_M_miss_15 : List eg_I := .inl (15, 1, .aload 0, 0, 0) :: c_M_miss_16
def c_M_miss_14 : List eg_I := .inl (14, 1, .lreturn, 0, 0) :: []
def c_M_miss_11 : List eg_I := .inr (11, 1, 112, n_M_finding, 1, 12, 0, 0) :: c_M_miss_14
def c_M_miss_8 : List eg_I := .inl (8, 3, .sipush (-1000000000000000001), 110, 0) :: c_M_miss_11
def c_M_miss_7 : List eg_I := .inl (7, 1, .aload 0, 0, 0) :: c_M_miss_8
def c_M_miss_4 : List eg_I := .inl (4, 3, .ifCond .ne (11), 15, 0) :: c_M_miss_7
def c_M_miss_1 : List eg_I := .inr (1, 0, 99, n_M_isPart, 1, 12, 0, 0) :: c_M_miss_4
def c_M_miss_0 : List eg_I := .inl (0, 1, .iload 1, 0, 0) :: c_M_miss_1
section
variable {rm : Room} {K : Nat → Nat → Nat → eg_Lo → List Value → List eg_E → Prop} {Q : Option Value → List eg_E → Prop} {kc ks : Nat} {loc : eg_Lo} {st : List Value} {h : List eg_E}
theorem s_M_miss_0 {x : Int32} {l0 : Option Value} {l : eg_Lo} : wps rm K Q c_M_miss_0 kc ks (l0 :: some (.int x) :: l) (st) h = wps rm K Q c_M_miss_1 kc ks (l0 :: some (.int x) :: l) (.int x :: st) h := rfl
theorem s_M_miss_1  {a1 : Value} : wps rm K Q c_M_miss_1 kc ks loc (a1 :: st) h = (st.length ≤ 4 ∧ eg_Cs n_M_isPart [a1] h (fun v h9 => wps rm K Q c_M_miss_4 kc ks loc (v.toList ++ st) h9)) := eg_c0_1
theorem s_M_miss_4 {x : Int32} : wps rm K Q c_M_miss_4 kc ks loc (.int x :: st) h = ((¬ x = 0 → K 15 kc ks loc st h) ∧ (x = 0 → wps rm K Q c_M_miss_7 kc ks loc (st) h)) := rfl
theorem s_M_miss_7 {x : Nat} {l : eg_Lo} : wps rm K Q c_M_miss_7 kc ks (some (.ref x) :: l) (st) h = wps rm K Q c_M_miss_8 kc ks (some (.ref x) :: l) (.ref x :: st) h := rfl
theorem s_M_miss_8  : wps rm K Q c_M_miss_8 kc ks loc (st) h = wps rm K Q c_M_miss_11 kc ks loc (.long (-1000000000000000001) :: st) h := rfl
theorem s_M_miss_11  {a1 : Value} {x : Nat} : wps rm K Q c_M_miss_11 kc ks loc (a1 :: .ref (x + 1) :: st) h = (eg_cls h x 12 ∧ st.length ≤ 4 ∧ eg_Cs n_M_finding (.ref (x + 1) :: [a1]) h (fun v h9 => wps rm K Q c_M_miss_14 kc ks loc (v.toList ++ st) h9)) := eg_c1_1
theorem s_M_miss_14 {x : Int64} : wps rm K Q c_M_miss_14 kc ks loc ([.long x]) h = (kc = rm.cells ∧ Q (some (.long x)) h) := rfl
theorem s_M_miss_15 {x : Nat} {l : eg_Lo} : wps rm K Q c_M_miss_15 kc ks (some (.ref x) :: l) (st) h = wps rm K Q c_M_miss_16 kc ks (some (.ref x) :: l) (.ref x :: st) h := rfl
theorem s_M_miss_16 {x : Nat} : wps rm K Q c_M_miss_16 kc ks loc (.ref (x + 1) :: st) h = eg_gf h x 12 0 (fun v => wps rm K Q c_M_miss_19 kc ks loc (v :: st) h) := rfl
theorem s_M_miss_19 {x : Int32} {l0 : Option Value} {l : eg_Lo} : wps rm K Q c_M_miss_19 kc ks (l0 :: some (.int x) :: l) (st) h = wps rm K Q c_M_miss_20 kc ks (l0 :: some (.int x) :: l) (.int x :: st) h := rfl
theorem s_M_miss_20 {x : Nat} {i : Int32} : wps rm K Q c_M_miss_20 kc ks loc (.int i :: .ref (x + 1) :: st) h = eg_ia h x i (fun v => wps rm K Q c_M_miss_21 kc ks loc (.int v :: st) h) := rfl
theorem s_M_miss_21  : wps rm K Q c_M_miss_21 kc ks loc (st) h = wps rm K Q c_M_miss_23 kc ks loc (.int (16) :: st) h := rfl
theorem s_M_miss_23 {x y : Int32} : wps rm K Q c_M_miss_23 kc ks loc (.int y :: .int x :: st) h = ((¬ x = y → K 34 kc ks loc st h) ∧ (x = y → wps rm K Q c_M_miss_26 kc ks loc (st) h)) := rfl
theorem s_M_miss_26 {x : Nat} {l : eg_Lo} : wps rm K Q c_M_miss_26 kc ks (some (.ref x) :: l) (st) h = wps rm K Q c_M_miss_27 kc ks (some (.ref x) :: l) (.ref x :: st) h := rfl
theorem s_M_miss_27  : wps rm K Q c_M_miss_27 kc ks loc (st) h = wps rm K Q c_M_miss_30 kc ks loc (.long (-1000000000000000005) :: st) h := rfl
theorem s_M_miss_30  {a1 : Value} {x : Nat} : wps rm K Q c_M_miss_30 kc ks loc (a1 :: .ref (x + 1) :: st) h = (eg_cls h x 12 ∧ st.length ≤ 4 ∧ eg_Cs n_M_finding (.ref (x + 1) :: [a1]) h (fun v h9 => wps rm K Q c_M_miss_33 kc ks loc (v.toList ++ st) h9)) := eg_c1_1
theorem s_M_miss_33 {x : Int64} : wps rm K Q c_M_miss_33 kc ks loc ([.long x]) h = (kc = rm.cells ∧ Q (some (.long x)) h) := rfl
theorem s_M_miss_34 {x : Nat} {l : eg_Lo} : wps rm K Q c_M_miss_34 kc ks (some (.ref x) :: l) (st) h = wps rm K Q c_M_miss_35 kc ks (some (.ref x) :: l) (.ref x :: st) h := rfl
theorem s_M_miss_35 {x : Int32} {l0 : Option Value} {l : eg_Lo} : wps rm K Q c_M_miss_35 kc ks (l0 :: some (.int x) :: l) (st) h = wps rm K Q c_M_miss_36 kc ks (l0 :: some (.int x) :: l) (.int x :: st) h := rfl
theorem s_M_miss_36  : wps rm K Q c_M_miss_36 kc ks loc (st) h = wps rm K Q c_M_miss_37 kc ks loc (.int (0) :: st) h := rfl
theorem s_M_miss_37  : wps rm K Q c_M_miss_37 kc ks loc (st) h = wps rm K Q c_M_miss_38 kc ks loc (.int (0) :: st) h := rfl
theorem s_M_miss_38  : wps rm K Q c_M_miss_38 kc ks loc (st) h = wps rm K Q c_M_miss_39 kc ks loc (.int (0) :: st) h := rfl
theorem s_M_miss_39  : wps rm K Q c_M_miss_39 kc ks loc (st) h = wps rm K Q c_M_miss_40 kc ks loc (.int (1) :: st) h := rfl
theorem s_M_miss_40  {a1 : Value} {a2 : Value} {a3 : Value} {a4 : Value} {a5 : Value} {x : Nat} : wps rm K Q c_M_miss_40 kc ks loc (a5 :: a4 :: a3 :: a2 :: a1 :: .ref (x + 1) :: st) h = (eg_cls h x 12 ∧ st.length ≤ 4 ∧ eg_Cs n_M_add (.ref (x + 1) :: [a1, a2, a3, a4, a5]) h (fun v h9 => wps rm K Q c_M_miss_43 kc ks loc (v.toList ++ st) h9)) := eg_c1_5
theorem s_M_miss_43 {x : Nat} {l : eg_Lo} : wps rm K Q c_M_miss_43 kc ks (some (.ref x) :: l) (st) h = wps rm K Q c_M_miss_44 kc ks (some (.ref x) :: l) (.ref x :: st) h := rfl
theorem s_M_miss_44 {x : Nat} : wps rm K Q c_M_miss_44 kc ks loc (.ref (x + 1) :: st) h = eg_gf h x 12 0 (fun v => wps rm K Q c_M_miss_47 kc ks loc (v :: st) h) := rfl
theorem s_M_miss_47 {x : Int32} {l0 : Option Value} {l : eg_Lo} : wps rm K Q c_M_miss_47 kc ks (l0 :: some (.int x) :: l) (st) h = wps rm K Q c_M_miss_48 kc ks (l0 :: some (.int x) :: l) (.int x :: st) h := rfl
theorem s_M_miss_48 {x : Nat} {i : Int32} : wps rm K Q c_M_miss_48 kc ks loc (.int i :: .ref (x + 1) :: st) h = eg_ia h x i (fun v => wps rm K Q c_M_miss_49 kc ks loc (.int v :: st) h) := rfl
theorem s_M_miss_49 {x : Int32} : wps rm K Q c_M_miss_49 kc ks loc (.int x :: st) h = wps rm K Q c_M_miss_50 kc ks loc (.long (x.toInt64) :: st) h := rfl
theorem s_M_miss_50 {x : Int64} : wps rm K Q c_M_miss_50 kc ks loc ([.long x]) h = (kc = rm.cells ∧ Q (some (.long x)) h) := rfl
def T_M_miss : List (Nat × List eg_I) := [(15, c_M_miss_15), (34, c_M_miss_34)]
theorem j_M_miss_15 {R : Nat → Nat → Nat → eg_Lo → List Value → List eg_E → Prop} {f pc0 : Nat} : eg_run rm R Q T_M_miss (f + 1) 15 kc ks loc st h = wps rm (eg_run rm R Q T_M_miss f) Q c_M_miss_15 kc ks loc st h := rfl
theorem j_M_miss_34 {R : Nat → Nat → Nat → eg_Lo → List Value → List eg_E → Prop} {f pc0 : Nat} : eg_run rm R Q T_M_miss (f + 1) 34 kc ks loc st h = wps rm (eg_run rm R Q T_M_miss f) Q c_M_miss_34 kc ks loc st h := rfl
end
theorem q_M_miss : (T_M_miss.all fun q => eg_seq m_M_miss q.1 q.2) = true := by decide +kernel
theorem b_M_miss {as : List Value} {h : List eg_E} {Q : Option Value → List eg_E → Prop} (hf : (eg_fl as).length ≤ 2) (hw : wps (eg_rm m_M_miss) (eg_run (eg_rm m_M_miss) (eg_R m_M_miss Q (h.length + 0)) Q T_M_miss 4) Q c_M_miss_0 0 0 (eg_entry 2 as) [] h) : eg_Runs n_M_miss as h Q := eg_begin (d := m_M_miss) rfl (by decide) (by decide +kernel) q_M_miss hf hw
/-! ===== M_clear ===== -/
def c_M_clear_31 : List eg_I := .inl (31, 1, .lreturn, 0, 0) :: []
def c_M_clear_30 : List eg_I := .inl (30, 1, .i2l, 0, 0) :: c_M_clear_31
def c_M_clear_29 : List eg_I := .inl (29, 1, .iload 2, 0, 0) :: c_M_clear_30
def c_M_clear_28 : List eg_I := .inl (28, 1, .iastore, 0, 0) :: c_M_clear_29
def c_M_clear_27 : List eg_I := .inl (27, 1, .iconst (0), 0, 0) :: c_M_clear_28
def c_M_clear_26 : List eg_I := .inl (26, 1, .iload 1, 0, 0) :: c_M_clear_27
def c_M_clear_23 : List eg_I := .inl (23, 3, .getfield 9, 12, 0) :: c_M_clear_26
def c_M_clear_22 : List eg_I := .inl (22, 1, .aload 0, 0, 0) :: c_M_clear_23
def c_M_clear_21 : List eg_I := .inl (21, 1, .istore 2, 0, 0) :: c_M_clear_22
def c_M_clear_20 : List eg_I := .inl (20, 1, .iaload, 0, 0) :: c_M_clear_21
def c_M_clear_19 : List eg_I := .inl (19, 1, .iload 1, 0, 0) :: c_M_clear_20
def c_M_clear_16 : List eg_I := .inl (16, 3, .getfield 9, 12, 0) :: c_M_clear_19
def c_M_clear_15 : List eg_I := .inl (15, 1, .aload 0, 0, 0) :: c_M_clear_16
def c_M_clear_14 : List eg_I := .inl (14, 1, .lreturn, 0, 0) :: []
def c_M_clear_11 : List eg_I := .inr (11, 1, 112, n_M_finding, 1, 12, 0, 0) :: c_M_clear_14
def c_M_clear_8 : List eg_I := .inl (8, 3, .sipush (-1000000000000000001), 110, 0) :: c_M_clear_11
def c_M_clear_7 : List eg_I := .inl (7, 1, .aload 0, 0, 0) :: c_M_clear_8
def c_M_clear_4 : List eg_I := .inl (4, 3, .ifCond .ne (11), 15, 0) :: c_M_clear_7
def c_M_clear_1 : List eg_I := .inr (1, 0, 99, n_M_isPart, 1, 12, 0, 0) :: c_M_clear_4
def c_M_clear_0 : List eg_I := .inl (0, 1, .iload 1, 0, 0) :: c_M_clear_1
section
variable {rm : Room} {K : Nat → Nat → Nat → eg_Lo → List Value → List eg_E → Prop} {Q : Option Value → List eg_E → Prop} {kc ks : Nat} {loc : eg_Lo} {st : List Value} {h : List eg_E}
theorem s_M_clear_0 {x : Int32} {l0 : Option Value} {l : eg_Lo} : wps rm K Q c_M_clear_0 kc ks (l0 :: some (.int x) :: l) (st) h = wps rm K Q c_M_clear_1 kc ks (l0 :: some (.int x) :: l) (.int x :: st) h := rfl
theorem s_M_clear_1  {a1 : Value} : wps rm K Q c_M_clear_1 kc ks loc (a1 :: st) h = (st.length ≤ 4 ∧ eg_Cs n_M_isPart [a1] h (fun v h9 => wps rm K Q c_M_clear_4 kc ks loc (v.toList ++ st) h9)) := eg_c0_1
theorem s_M_clear_4 {x : Int32} : wps rm K Q c_M_clear_4 kc ks loc (.int x :: st) h = ((¬ x = 0 → K 15 kc ks loc st h) ∧ (x = 0 → wps rm K Q c_M_clear_7 kc ks loc (st) h)) := rfl
theorem s_M_clear_7 {x : Nat} {l : eg_Lo} : wps rm K Q c_M_clear_7 kc ks (some (.ref x) :: l) (st) h = wps rm K Q c_M_clear_8 kc ks (some (.ref x) :: l) (.ref x :: st) h := rfl
theorem s_M_clear_8  : wps rm K Q c_M_clear_8 kc ks loc (st) h = wps rm K Q c_M_clear_11 kc ks loc (.long (-1000000000000000001) :: st) h := rfl
theorem s_M_clear_11  {a1 : Value} {x : Nat} : wps rm K Q c_M_clear_11 kc ks loc (a1 :: .ref (x + 1) :: st) h = (eg_cls h x 12 ∧ st.length ≤ 4 ∧ eg_Cs n_M_finding (.ref (x + 1) :: [a1]) h (fun v h9 => wps rm K Q c_M_clear_14 kc ks loc (v.toList ++ st) h9)) := eg_c1_1
theorem s_M_clear_14 {x : Int64} : wps rm K Q c_M_clear_14 kc ks loc ([.long x]) h = (kc = rm.cells ∧ Q (some (.long x)) h) := rfl
theorem s_M_clear_15 {x : Nat} {l : eg_Lo} : wps rm K Q c_M_clear_15 kc ks (some (.ref x) :: l) (st) h = wps rm K Q c_M_clear_16 kc ks (some (.ref x) :: l) (.ref x :: st) h := rfl
theorem s_M_clear_16 {x : Nat} : wps rm K Q c_M_clear_16 kc ks loc (.ref (x + 1) :: st) h = eg_gf h x 12 0 (fun v => wps rm K Q c_M_clear_19 kc ks loc (v :: st) h) := rfl
theorem s_M_clear_19 {x : Int32} {l0 : Option Value} {l : eg_Lo} : wps rm K Q c_M_clear_19 kc ks (l0 :: some (.int x) :: l) (st) h = wps rm K Q c_M_clear_20 kc ks (l0 :: some (.int x) :: l) (.int x :: st) h := rfl
theorem s_M_clear_20 {x : Nat} {i : Int32} : wps rm K Q c_M_clear_20 kc ks loc (.int i :: .ref (x + 1) :: st) h = eg_ia h x i (fun v => wps rm K Q c_M_clear_21 kc ks loc (.int v :: st) h) := rfl
theorem s_M_clear_21 {x : Int32} : wps rm K Q c_M_clear_21 kc ks loc (.int x :: st) h = wps rm K Q c_M_clear_22 kc ks (eg_set1 loc 2 (.int x)) (st) h := rfl
theorem s_M_clear_22 {x : Nat} {l : eg_Lo} : wps rm K Q c_M_clear_22 kc ks (some (.ref x) :: l) (st) h = wps rm K Q c_M_clear_23 kc ks (some (.ref x) :: l) (.ref x :: st) h := rfl
theorem s_M_clear_23 {x : Nat} : wps rm K Q c_M_clear_23 kc ks loc (.ref (x + 1) :: st) h = eg_gf h x 12 0 (fun v => wps rm K Q c_M_clear_26 kc ks loc (v :: st) h) := rfl
theorem s_M_clear_26 {x : Int32} {l0 : Option Value} {l : eg_Lo} : wps rm K Q c_M_clear_26 kc ks (l0 :: some (.int x) :: l) (st) h = wps rm K Q c_M_clear_27 kc ks (l0 :: some (.int x) :: l) (.int x :: st) h := rfl
theorem s_M_clear_27  : wps rm K Q c_M_clear_27 kc ks loc (st) h = wps rm K Q c_M_clear_28 kc ks loc (.int (0) :: st) h := rfl
theorem s_M_clear_28 {x : Nat} {i : Int32} {v : Int32} : wps rm K Q c_M_clear_28 kc ks loc (.int v :: .int i :: .ref (x + 1) :: st) h = eg_is h x i v (fun h9 => wps rm K Q c_M_clear_29 kc ks loc (st) h9) := rfl
theorem s_M_clear_29 {x : Int32} {l0 l1 : Option Value} {l : eg_Lo} : wps rm K Q c_M_clear_29 kc ks (l0 :: l1 :: some (.int x) :: l) (st) h = wps rm K Q c_M_clear_30 kc ks (l0 :: l1 :: some (.int x) :: l) (.int x :: st) h := rfl
theorem s_M_clear_30 {x : Int32} : wps rm K Q c_M_clear_30 kc ks loc (.int x :: st) h = wps rm K Q c_M_clear_31 kc ks loc (.long (x.toInt64) :: st) h := rfl
theorem s_M_clear_31 {x : Int64} : wps rm K Q c_M_clear_31 kc ks loc ([.long x]) h = (kc = rm.cells ∧ Q (some (.long x)) h) := rfl
def T_M_clear : List (Nat × List eg_I) := [(15, c_M_clear_15)]
theorem j_M_clear_15 {R : Nat → Nat → Nat → eg_Lo → List Value → List eg_E → Prop} {f pc0 : Nat} : eg_run rm R Q T_M_clear (f + 1) 15 kc ks loc st h = wps rm (eg_run rm R Q T_M_clear f) Q c_M_clear_15 kc ks loc st h := rfl
end
theorem q_M_clear : (T_M_clear.all fun q => eg_seq m_M_clear q.1 q.2) = true := by decide +kernel
theorem b_M_clear {as : List Value} {h : List eg_E} {Q : Option Value → List eg_E → Prop} (hf : (eg_fl as).length ≤ 3) (hw : wps (eg_rm m_M_clear) (eg_run (eg_rm m_M_clear) (eg_R m_M_clear Q (h.length + 0)) Q T_M_clear 3) Q c_M_clear_0 0 0 (eg_entry 3 as) [] h) : eg_Runs n_M_clear as h Q := eg_begin (d := m_M_clear) rfl (by decide) (by decide +kernel) q_M_clear hf hw
/-! ===== M_at_III ===== -/
def c_M_at_III_90 : List eg_I := .inl (90, 1, .lreturn, 0, 0) :: []
def c_M_at_III_89 : List eg_I := .inl (89, 1, .i2l, 0, 0) :: c_M_at_III_90
def c_M_at_III_88 : List eg_I := .inl (88, 1, .iaload, 0, 0) :: c_M_at_III_89
def c_M_at_III_86 : List eg_I := .inl (86, 2, .iload 4, 0, 0) :: c_M_at_III_88
def c_M_at_III_83 : List eg_I := .inl (83, 3, .getfield 19, 12, 3) :: c_M_at_III_86
def c_M_at_III_82 : List eg_I := .inl (82, 1, .aload 0, 0, 0) :: c_M_at_III_83
def c_M_at_III_79 : List eg_I := .inl (79, 3, .goto (11), 90, 0) :: []
def c_M_at_III_78 : List eg_I := .inl (78, 1, .i2l, 0, 0) :: c_M_at_III_79
def c_M_at_III_77 : List eg_I := .inl (77, 1, .iaload, 0, 0) :: c_M_at_III_78
def c_M_at_III_75 : List eg_I := .inl (75, 2, .iload 4, 0, 0) :: c_M_at_III_77
def c_M_at_III_72 : List eg_I := .inl (72, 3, .getfield 16, 12, 2) :: c_M_at_III_75
def c_M_at_III_71 : List eg_I := .inl (71, 1, .aload 0, 0, 0) :: c_M_at_III_72
def c_M_at_III_68 : List eg_I := .inl (68, 3, .if_icmp .ne (14), 82, 0) :: c_M_at_III_71
def c_M_at_III_67 : List eg_I := .inl (67, 1, .iconst (1), 0, 0) :: c_M_at_III_68
def c_M_at_III_66 : List eg_I := .inl (66, 1, .iload 3, 0, 0) :: c_M_at_III_67
def c_M_at_III_63 : List eg_I := .inl (63, 3, .goto (27), 90, 0) :: []
def c_M_at_III_62 : List eg_I := .inl (62, 1, .i2l, 0, 0) :: c_M_at_III_63
def c_M_at_III_61 : List eg_I := .inl (61, 1, .iaload, 0, 0) :: c_M_at_III_62
def c_M_at_III_59 : List eg_I := .inl (59, 2, .iload 4, 0, 0) :: c_M_at_III_61
def c_M_at_III_56 : List eg_I := .inl (56, 3, .getfield 13, 12, 1) :: c_M_at_III_59
def c_M_at_III_55 : List eg_I := .inl (55, 1, .aload 0, 0, 0) :: c_M_at_III_56
def c_M_at_III_52 : List eg_I := .inl (52, 3, .ifCond .ne (14), 66, 0) :: c_M_at_III_55
def c_M_at_III_51 : List eg_I := .inl (51, 1, .iload 3, 0, 0) :: c_M_at_III_52
def c_M_at_III_50 : List eg_I := .inl (50, 1, .lreturn, 0, 0) :: []
def c_M_at_III_47 : List eg_I := .inr (47, 1, 112, n_M_finding, 1, 12, 0, 0) :: c_M_at_III_50
def c_M_at_III_44 : List eg_I := .inl (44, 3, .sipush (-1000000000000000007), 126, 0) :: c_M_at_III_47
def c_M_at_III_43 : List eg_I := .inl (43, 1, .aload 0, 0, 0) :: c_M_at_III_44
def c_M_at_III_40 : List eg_I := .inl (40, 3, .ifCond .eq (11), 51, 0) :: c_M_at_III_43
def c_M_at_III_39 : List eg_I := .inl (39, 1, .baload, 0, 0) :: c_M_at_III_40
def c_M_at_III_37 : List eg_I := .inl (37, 2, .iload 4, 0, 0) :: c_M_at_III_39
def c_M_at_III_34 : List eg_I := .inl (34, 3, .getfield 22, 12, 4) :: c_M_at_III_37
def c_M_at_III_33 : List eg_I := .inl (33, 1, .aload 0, 0, 0) :: c_M_at_III_34
def c_M_at_III_31 : List eg_I := .inl (31, 2, .istore 4, 0, 0) :: c_M_at_III_33
def c_M_at_III_28 : List eg_I := .inr (28, 0, 103, n_M_at_II, 2, 12, 0, 0) :: c_M_at_III_31
def c_M_at_III_27 : List eg_I := .inl (27, 1, .iload 2, 0, 0) :: c_M_at_III_28
def c_M_at_III_26 : List eg_I := .inl (26, 1, .iload 1, 0, 0) :: c_M_at_III_27
def c_M_at_III_25 : List eg_I := .inl (25, 1, .lreturn, 0, 0) :: []
def c_M_at_III_22 : List eg_I := .inr (22, 1, 112, n_M_finding, 1, 12, 0, 0) :: c_M_at_III_25
def c_M_at_III_19 : List eg_I := .inl (19, 3, .sipush (-1000000000000000001), 110, 0) :: c_M_at_III_22
def c_M_at_III_18 : List eg_I := .inl (18, 1, .aload 0, 0, 0) :: c_M_at_III_19
def c_M_at_III_15 : List eg_I := .inl (15, 3, .ifCond .ne (11), 26, 0) :: c_M_at_III_18
def c_M_at_III_12 : List eg_I := .inr (12, 0, 95, n_M_isIn, 3, 12, 0, 0) :: c_M_at_III_15
def c_M_at_III_11 : List eg_I := .inl (11, 1, .iconst (2), 0, 0) :: c_M_at_III_12
def c_M_at_III_10 : List eg_I := .inl (10, 1, .iconst (0), 0, 0) :: c_M_at_III_11
def c_M_at_III_9 : List eg_I := .inl (9, 1, .iload 3, 0, 0) :: c_M_at_III_10
def c_M_at_III_6 : List eg_I := .inl (6, 3, .ifCond .eq (12), 18, 0) :: c_M_at_III_9
def c_M_at_III_3 : List eg_I := .inr (3, 1, 122, n_M_isPoint, 2, 12, 0, 0) :: c_M_at_III_6
def c_M_at_III_2 : List eg_I := .inl (2, 1, .iload 2, 0, 0) :: c_M_at_III_3
def c_M_at_III_1 : List eg_I := .inl (1, 1, .iload 1, 0, 0) :: c_M_at_III_2
def c_M_at_III_0 : List eg_I := .inl (0, 1, .aload 0, 0, 0) :: c_M_at_III_1
section
variable {rm : Room} {K : Nat → Nat → Nat → eg_Lo → List Value → List eg_E → Prop} {Q : Option Value → List eg_E → Prop} {kc ks : Nat} {loc : eg_Lo} {st : List Value} {h : List eg_E}
theorem s_M_at_III_0 {x : Nat} {l : eg_Lo} : wps rm K Q c_M_at_III_0 kc ks (some (.ref x) :: l) (st) h = wps rm K Q c_M_at_III_1 kc ks (some (.ref x) :: l) (.ref x :: st) h := rfl
theorem s_M_at_III_1 {x : Int32} {l0 : Option Value} {l : eg_Lo} : wps rm K Q c_M_at_III_1 kc ks (l0 :: some (.int x) :: l) (st) h = wps rm K Q c_M_at_III_2 kc ks (l0 :: some (.int x) :: l) (.int x :: st) h := rfl
theorem s_M_at_III_2 {x : Int32} {l0 l1 : Option Value} {l : eg_Lo} : wps rm K Q c_M_at_III_2 kc ks (l0 :: l1 :: some (.int x) :: l) (st) h = wps rm K Q c_M_at_III_3 kc ks (l0 :: l1 :: some (.int x) :: l) (.int x :: st) h := rfl
theorem s_M_at_III_3  {a1 : Value} {a2 : Value} {x : Nat} : wps rm K Q c_M_at_III_3 kc ks loc (a2 :: a1 :: .ref (x + 1) :: st) h = (eg_cls h x 12 ∧ st.length ≤ 4 ∧ eg_Cs n_M_isPoint (.ref (x + 1) :: [a1, a2]) h (fun v h9 => wps rm K Q c_M_at_III_6 kc ks loc (v.toList ++ st) h9)) := eg_c1_2
theorem s_M_at_III_6 {x : Int32} : wps rm K Q c_M_at_III_6 kc ks loc (.int x :: st) h = ((x = 0 → K 18 kc ks loc st h) ∧ (¬ x = 0 → wps rm K Q c_M_at_III_9 kc ks loc (st) h)) := rfl
theorem s_M_at_III_9 {x : Int32} {l0 l1 l2 : Option Value} {l : eg_Lo} : wps rm K Q c_M_at_III_9 kc ks (l0 :: l1 :: l2 :: some (.int x) :: l) (st) h = wps rm K Q c_M_at_III_10 kc ks (l0 :: l1 :: l2 :: some (.int x) :: l) (.int x :: st) h := rfl
theorem s_M_at_III_10  : wps rm K Q c_M_at_III_10 kc ks loc (st) h = wps rm K Q c_M_at_III_11 kc ks loc (.int (0) :: st) h := rfl
theorem s_M_at_III_11  : wps rm K Q c_M_at_III_11 kc ks loc (st) h = wps rm K Q c_M_at_III_12 kc ks loc (.int (2) :: st) h := rfl
theorem s_M_at_III_12  {a1 : Value} {a2 : Value} {a3 : Value} : wps rm K Q c_M_at_III_12 kc ks loc (a3 :: a2 :: a1 :: st) h = (st.length ≤ 4 ∧ eg_Cs n_M_isIn [a1, a2, a3] h (fun v h9 => wps rm K Q c_M_at_III_15 kc ks loc (v.toList ++ st) h9)) := eg_c0_3
theorem s_M_at_III_15 {x : Int32} : wps rm K Q c_M_at_III_15 kc ks loc (.int x :: st) h = ((¬ x = 0 → K 26 kc ks loc st h) ∧ (x = 0 → wps rm K Q c_M_at_III_18 kc ks loc (st) h)) := rfl
theorem s_M_at_III_18 {x : Nat} {l : eg_Lo} : wps rm K Q c_M_at_III_18 kc ks (some (.ref x) :: l) (st) h = wps rm K Q c_M_at_III_19 kc ks (some (.ref x) :: l) (.ref x :: st) h := rfl
theorem s_M_at_III_19  : wps rm K Q c_M_at_III_19 kc ks loc (st) h = wps rm K Q c_M_at_III_22 kc ks loc (.long (-1000000000000000001) :: st) h := rfl
theorem s_M_at_III_22  {a1 : Value} {x : Nat} : wps rm K Q c_M_at_III_22 kc ks loc (a1 :: .ref (x + 1) :: st) h = (eg_cls h x 12 ∧ st.length ≤ 4 ∧ eg_Cs n_M_finding (.ref (x + 1) :: [a1]) h (fun v h9 => wps rm K Q c_M_at_III_25 kc ks loc (v.toList ++ st) h9)) := eg_c1_1
theorem s_M_at_III_25 {x : Int64} : wps rm K Q c_M_at_III_25 kc ks loc ([.long x]) h = (kc = rm.cells ∧ Q (some (.long x)) h) := rfl
theorem s_M_at_III_26 {x : Int32} {l0 : Option Value} {l : eg_Lo} : wps rm K Q c_M_at_III_26 kc ks (l0 :: some (.int x) :: l) (st) h = wps rm K Q c_M_at_III_27 kc ks (l0 :: some (.int x) :: l) (.int x :: st) h := rfl
theorem s_M_at_III_27 {x : Int32} {l0 l1 : Option Value} {l : eg_Lo} : wps rm K Q c_M_at_III_27 kc ks (l0 :: l1 :: some (.int x) :: l) (st) h = wps rm K Q c_M_at_III_28 kc ks (l0 :: l1 :: some (.int x) :: l) (.int x :: st) h := rfl
theorem s_M_at_III_28  {a1 : Value} {a2 : Value} : wps rm K Q c_M_at_III_28 kc ks loc (a2 :: a1 :: st) h = (st.length ≤ 4 ∧ eg_Cs n_M_at_II [a1, a2] h (fun v h9 => wps rm K Q c_M_at_III_31 kc ks loc (v.toList ++ st) h9)) := eg_c0_2
theorem s_M_at_III_31 {x : Int32} : wps rm K Q c_M_at_III_31 kc ks loc (.int x :: st) h = wps rm K Q c_M_at_III_33 kc ks (eg_set1 loc 4 (.int x)) (st) h := rfl
theorem s_M_at_III_33 {x : Nat} {l : eg_Lo} : wps rm K Q c_M_at_III_33 kc ks (some (.ref x) :: l) (st) h = wps rm K Q c_M_at_III_34 kc ks (some (.ref x) :: l) (.ref x :: st) h := rfl
theorem s_M_at_III_34 {x : Nat} : wps rm K Q c_M_at_III_34 kc ks loc (.ref (x + 1) :: st) h = eg_gf h x 12 4 (fun v => wps rm K Q c_M_at_III_37 kc ks loc (v :: st) h) := rfl
theorem s_M_at_III_37 {x : Int32} {l0 l1 l2 l3 : Option Value} {l : eg_Lo} : wps rm K Q c_M_at_III_37 kc ks (l0 :: l1 :: l2 :: l3 :: some (.int x) :: l) (st) h = wps rm K Q c_M_at_III_39 kc ks (l0 :: l1 :: l2 :: l3 :: some (.int x) :: l) (.int x :: st) h := rfl
theorem s_M_at_III_39 {x : Nat} {i : Int32} : wps rm K Q c_M_at_III_39 kc ks loc (.int i :: .ref (x + 1) :: st) h = eg_ba h x i (fun v => wps rm K Q c_M_at_III_40 kc ks loc (.int v :: st) h) := rfl
theorem s_M_at_III_40 {x : Int32} : wps rm K Q c_M_at_III_40 kc ks loc (.int x :: st) h = ((x = 0 → K 51 kc ks loc st h) ∧ (¬ x = 0 → wps rm K Q c_M_at_III_43 kc ks loc (st) h)) := rfl
theorem s_M_at_III_43 {x : Nat} {l : eg_Lo} : wps rm K Q c_M_at_III_43 kc ks (some (.ref x) :: l) (st) h = wps rm K Q c_M_at_III_44 kc ks (some (.ref x) :: l) (.ref x :: st) h := rfl
theorem s_M_at_III_44  : wps rm K Q c_M_at_III_44 kc ks loc (st) h = wps rm K Q c_M_at_III_47 kc ks loc (.long (-1000000000000000007) :: st) h := rfl
theorem s_M_at_III_47  {a1 : Value} {x : Nat} : wps rm K Q c_M_at_III_47 kc ks loc (a1 :: .ref (x + 1) :: st) h = (eg_cls h x 12 ∧ st.length ≤ 4 ∧ eg_Cs n_M_finding (.ref (x + 1) :: [a1]) h (fun v h9 => wps rm K Q c_M_at_III_50 kc ks loc (v.toList ++ st) h9)) := eg_c1_1
theorem s_M_at_III_50 {x : Int64} : wps rm K Q c_M_at_III_50 kc ks loc ([.long x]) h = (kc = rm.cells ∧ Q (some (.long x)) h) := rfl
theorem s_M_at_III_51 {x : Int32} {l0 l1 l2 : Option Value} {l : eg_Lo} : wps rm K Q c_M_at_III_51 kc ks (l0 :: l1 :: l2 :: some (.int x) :: l) (st) h = wps rm K Q c_M_at_III_52 kc ks (l0 :: l1 :: l2 :: some (.int x) :: l) (.int x :: st) h := rfl
theorem s_M_at_III_52 {x : Int32} : wps rm K Q c_M_at_III_52 kc ks loc (.int x :: st) h = ((¬ x = 0 → K 66 kc ks loc st h) ∧ (x = 0 → wps rm K Q c_M_at_III_55 kc ks loc (st) h)) := rfl
theorem s_M_at_III_55 {x : Nat} {l : eg_Lo} : wps rm K Q c_M_at_III_55 kc ks (some (.ref x) :: l) (st) h = wps rm K Q c_M_at_III_56 kc ks (some (.ref x) :: l) (.ref x :: st) h := rfl
theorem s_M_at_III_56 {x : Nat} : wps rm K Q c_M_at_III_56 kc ks loc (.ref (x + 1) :: st) h = eg_gf h x 12 1 (fun v => wps rm K Q c_M_at_III_59 kc ks loc (v :: st) h) := rfl
theorem s_M_at_III_59 {x : Int32} {l0 l1 l2 l3 : Option Value} {l : eg_Lo} : wps rm K Q c_M_at_III_59 kc ks (l0 :: l1 :: l2 :: l3 :: some (.int x) :: l) (st) h = wps rm K Q c_M_at_III_61 kc ks (l0 :: l1 :: l2 :: l3 :: some (.int x) :: l) (.int x :: st) h := rfl
theorem s_M_at_III_61 {x : Nat} {i : Int32} : wps rm K Q c_M_at_III_61 kc ks loc (.int i :: .ref (x + 1) :: st) h = eg_ia h x i (fun v => wps rm K Q c_M_at_III_62 kc ks loc (.int v :: st) h) := rfl
theorem s_M_at_III_62 {x : Int32} : wps rm K Q c_M_at_III_62 kc ks loc (.int x :: st) h = wps rm K Q c_M_at_III_63 kc ks loc (.long (x.toInt64) :: st) h := rfl
theorem s_M_at_III_63  : wps rm K Q c_M_at_III_63 kc ks loc (st) h = K 90 kc ks loc st h := rfl
theorem s_M_at_III_66 {x : Int32} {l0 l1 l2 : Option Value} {l : eg_Lo} : wps rm K Q c_M_at_III_66 kc ks (l0 :: l1 :: l2 :: some (.int x) :: l) (st) h = wps rm K Q c_M_at_III_67 kc ks (l0 :: l1 :: l2 :: some (.int x) :: l) (.int x :: st) h := rfl
theorem s_M_at_III_67  : wps rm K Q c_M_at_III_67 kc ks loc (st) h = wps rm K Q c_M_at_III_68 kc ks loc (.int (1) :: st) h := rfl
theorem s_M_at_III_68 {x y : Int32} : wps rm K Q c_M_at_III_68 kc ks loc (.int y :: .int x :: st) h = ((¬ x = y → K 82 kc ks loc st h) ∧ (x = y → wps rm K Q c_M_at_III_71 kc ks loc (st) h)) := rfl
theorem s_M_at_III_71 {x : Nat} {l : eg_Lo} : wps rm K Q c_M_at_III_71 kc ks (some (.ref x) :: l) (st) h = wps rm K Q c_M_at_III_72 kc ks (some (.ref x) :: l) (.ref x :: st) h := rfl
theorem s_M_at_III_72 {x : Nat} : wps rm K Q c_M_at_III_72 kc ks loc (.ref (x + 1) :: st) h = eg_gf h x 12 2 (fun v => wps rm K Q c_M_at_III_75 kc ks loc (v :: st) h) := rfl
theorem s_M_at_III_75 {x : Int32} {l0 l1 l2 l3 : Option Value} {l : eg_Lo} : wps rm K Q c_M_at_III_75 kc ks (l0 :: l1 :: l2 :: l3 :: some (.int x) :: l) (st) h = wps rm K Q c_M_at_III_77 kc ks (l0 :: l1 :: l2 :: l3 :: some (.int x) :: l) (.int x :: st) h := rfl
theorem s_M_at_III_77 {x : Nat} {i : Int32} : wps rm K Q c_M_at_III_77 kc ks loc (.int i :: .ref (x + 1) :: st) h = eg_ia h x i (fun v => wps rm K Q c_M_at_III_78 kc ks loc (.int v :: st) h) := rfl
theorem s_M_at_III_78 {x : Int32} : wps rm K Q c_M_at_III_78 kc ks loc (.int x :: st) h = wps rm K Q c_M_at_III_79 kc ks loc (.long (x.toInt64) :: st) h := rfl
theorem s_M_at_III_79  : wps rm K Q c_M_at_III_79 kc ks loc (st) h = K 90 kc ks loc st h := rfl
theorem s_M_at_III_82 {x : Nat} {l : eg_Lo} : wps rm K Q c_M_at_III_82 kc ks (some (.ref x) :: l) (st) h = wps rm K Q c_M_at_III_83 kc ks (some (.ref x) :: l) (.ref x :: st) h := rfl
theorem s_M_at_III_83 {x : Nat} : wps rm K Q c_M_at_III_83 kc ks loc (.ref (x + 1) :: st) h = eg_gf h x 12 3 (fun v => wps rm K Q c_M_at_III_86 kc ks loc (v :: st) h) := rfl
theorem s_M_at_III_86 {x : Int32} {l0 l1 l2 l3 : Option Value} {l : eg_Lo} : wps rm K Q c_M_at_III_86 kc ks (l0 :: l1 :: l2 :: l3 :: some (.int x) :: l) (st) h = wps rm K Q c_M_at_III_88 kc ks (l0 :: l1 :: l2 :: l3 :: some (.int x) :: l) (.int x :: st) h := rfl
theorem s_M_at_III_88 {x : Nat} {i : Int32} : wps rm K Q c_M_at_III_88 kc ks loc (.int i :: .ref (x + 1) :: st) h = eg_ia h x i (fun v => wps rm K Q c_M_at_III_89 kc ks loc (.int v :: st) h) := rfl
theorem s_M_at_III_89 {x : Int32} : wps rm K Q c_M_at_III_89 kc ks loc (.int x :: st) h = wps rm K Q c_M_at_III_90 kc ks loc (.long (x.toInt64) :: st) h := rfl
theorem s_M_at_III_90 {x : Int64} : wps rm K Q c_M_at_III_90 kc ks loc ([.long x]) h = (kc = rm.cells ∧ Q (some (.long x)) h) := rfl
def T_M_at_III : List (Nat × List eg_I) := [(18, c_M_at_III_18), (26, c_M_at_III_26), (51, c_M_at_III_51), (66, c_M_at_III_66), (82, c_M_at_III_82), (90, c_M_at_III_90)]
theorem j_M_at_III_18 {R : Nat → Nat → Nat → eg_Lo → List Value → List eg_E → Prop} {f pc0 : Nat} : eg_run rm R Q T_M_at_III (f + 1) 18 kc ks loc st h = wps rm (eg_run rm R Q T_M_at_III f) Q c_M_at_III_18 kc ks loc st h := rfl
theorem j_M_at_III_26 {R : Nat → Nat → Nat → eg_Lo → List Value → List eg_E → Prop} {f pc0 : Nat} : eg_run rm R Q T_M_at_III (f + 1) 26 kc ks loc st h = wps rm (eg_run rm R Q T_M_at_III f) Q c_M_at_III_26 kc ks loc st h := rfl
theorem j_M_at_III_51 {R : Nat → Nat → Nat → eg_Lo → List Value → List eg_E → Prop} {f pc0 : Nat} : eg_run rm R Q T_M_at_III (f + 1) 51 kc ks loc st h = wps rm (eg_run rm R Q T_M_at_III f) Q c_M_at_III_51 kc ks loc st h := rfl
theorem j_M_at_III_66 {R : Nat → Nat → Nat → eg_Lo → List Value → List eg_E → Prop} {f pc0 : Nat} : eg_run rm R Q T_M_at_III (f + 1) 66 kc ks loc st h = wps rm (eg_run rm R Q T_M_at_III f) Q c_M_at_III_66 kc ks loc st h := rfl
theorem j_M_at_III_82 {R : Nat → Nat → Nat → eg_Lo → List Value → List eg_E → Prop} {f pc0 : Nat} : eg_run rm R Q T_M_at_III (f + 1) 82 kc ks loc st h = wps rm (eg_run rm R Q T_M_at_III f) Q c_M_at_III_82 kc ks loc st h := rfl
theorem j_M_at_III_90 {R : Nat → Nat → Nat → eg_Lo → List Value → List eg_E → Prop} {f pc0 : Nat} : eg_run rm R Q T_M_at_III (f + 1) 90 kc ks loc st h = wps rm (eg_run rm R Q T_M_at_III f) Q c_M_at_III_90 kc ks loc st h := rfl
end
theorem q_M_at_III : (T_M_at_III.all fun q => eg_seq m_M_at_III q.1 q.2) = true := by decide +kernel
theorem b_M_at_III {as : List Value} {h : List eg_E} {Q : Option Value → List eg_E → Prop} (hf : (eg_fl as).length ≤ 5) (hw : wps (eg_rm m_M_at_III) (eg_run (eg_rm m_M_at_III) (eg_R m_M_at_III Q (h.length + 0)) Q T_M_at_III 8) Q c_M_at_III_0 0 0 (eg_entry 5 as) [] h) : eg_Runs n_M_at_III as h Q := eg_begin (d := m_M_at_III) rfl (by decide) (by decide +kernel) q_M_at_III hf hw
/-! ===== M_points ===== -/
def c_M_points_65 : List eg_I := .inl (65, 1, .lreturn, 0, 0) :: []
def c_M_points_64 : List eg_I := .inl (64, 1, .i2l, 0, 0) :: c_M_points_65
def c_M_points_63 : List eg_I := .inl (63, 1, .iload 3, 0, 0) :: c_M_points_64
def c_M_points_60 : List eg_I := .inl (60, 3, .goto (-40), 20, 0) :: []
def c_M_points_57 : List eg_I := .inl (57, 3, .iinc 4 (1), 0, 0) :: c_M_points_60
def c_M_points_56 : List eg_I := .inl (56, 1, .istore 3, 0, 0) :: c_M_points_57
def c_M_points_55 : List eg_I := .inl (55, 1, .iadd, 0, 0) :: c_M_points_56
def c_M_points_54 : List eg_I := .inl (54, 1, .iconst (1), 0, 0) :: c_M_points_55
def c_M_points_51 : List eg_I := .inl (51, 3, .goto (4), 55, 0) :: []
def c_M_points_50 : List eg_I := .inl (50, 1, .iconst (0), 0, 0) :: c_M_points_51
def c_M_points_47 : List eg_I := .inl (47, 3, .ifCond .eq (7), 54, 0) :: c_M_points_50
def c_M_points_46 : List eg_I := .inl (46, 1, .baload, 0, 0) :: c_M_points_47
def c_M_points_43 : List eg_I := .inr (43, 0, 103, n_M_at_II, 2, 12, 0, 0) :: c_M_points_46
def c_M_points_41 : List eg_I := .inl (41, 2, .iload 4, 0, 0) :: c_M_points_43
def c_M_points_40 : List eg_I := .inl (40, 1, .iload 1, 0, 0) :: c_M_points_41
def c_M_points_37 : List eg_I := .inl (37, 3, .getfield 22, 12, 4) :: c_M_points_40
def c_M_points_36 : List eg_I := .inl (36, 1, .aload 0, 0, 0) :: c_M_points_37
def c_M_points_33 : List eg_I := .inl (33, 3, .ifCond .eq (21), 54, 0) :: c_M_points_36
def c_M_points_32 : List eg_I := .inl (32, 1, .iload 2, 0, 0) :: c_M_points_33
def c_M_points_31 : List eg_I := .inl (31, 1, .iload 3, 0, 0) :: c_M_points_32
def c_M_points_28 : List eg_I := .inl (28, 3, .if_icmp .ge (35), 63, 0) :: c_M_points_31
def c_M_points_27 : List eg_I := .inl (27, 1, .iaload, 0, 0) :: c_M_points_28
def c_M_points_26 : List eg_I := .inl (26, 1, .iload 1, 0, 0) :: c_M_points_27
def c_M_points_23 : List eg_I := .inl (23, 3, .getfield 9, 12, 0) :: c_M_points_26
def c_M_points_22 : List eg_I := .inl (22, 1, .aload 0, 0, 0) :: c_M_points_23
def c_M_points_20 : List eg_I := .inl (20, 2, .iload 4, 0, 0) :: c_M_points_22
def c_M_points_18 : List eg_I := .inl (18, 2, .istore 4, 0, 0) :: [.inl (20, 0, .nop, 0, 0)]
def c_M_points_17 : List eg_I := .inl (17, 1, .iconst (0), 0, 0) :: c_M_points_18
def c_M_points_16 : List eg_I := .inl (16, 1, .istore 3, 0, 0) :: c_M_points_17
def c_M_points_15 : List eg_I := .inl (15, 1, .iconst (0), 0, 0) :: c_M_points_16
def c_M_points_14 : List eg_I := .inl (14, 1, .lreturn, 0, 0) :: []
def c_M_points_11 : List eg_I := .inr (11, 1, 112, n_M_finding, 1, 12, 0, 0) :: c_M_points_14
def c_M_points_8 : List eg_I := .inl (8, 3, .sipush (-1000000000000000001), 110, 0) :: c_M_points_11
def c_M_points_7 : List eg_I := .inl (7, 1, .aload 0, 0, 0) :: c_M_points_8
def c_M_points_4 : List eg_I := .inl (4, 3, .ifCond .ne (11), 15, 0) :: c_M_points_7
def c_M_points_1 : List eg_I := .inr (1, 0, 99, n_M_isPart, 1, 12, 0, 0) :: c_M_points_4
def c_M_points_0 : List eg_I := .inl (0, 1, .iload 1, 0, 0) :: c_M_points_1
section
variable {rm : Room} {K : Nat → Nat → Nat → eg_Lo → List Value → List eg_E → Prop} {Q : Option Value → List eg_E → Prop} {kc ks : Nat} {loc : eg_Lo} {st : List Value} {h : List eg_E}
theorem s_M_points_0 {x : Int32} {l0 : Option Value} {l : eg_Lo} : wps rm K Q c_M_points_0 kc ks (l0 :: some (.int x) :: l) (st) h = wps rm K Q c_M_points_1 kc ks (l0 :: some (.int x) :: l) (.int x :: st) h := rfl
theorem s_M_points_1  {a1 : Value} : wps rm K Q c_M_points_1 kc ks loc (a1 :: st) h = (st.length ≤ 4 ∧ eg_Cs n_M_isPart [a1] h (fun v h9 => wps rm K Q c_M_points_4 kc ks loc (v.toList ++ st) h9)) := eg_c0_1
theorem s_M_points_4 {x : Int32} : wps rm K Q c_M_points_4 kc ks loc (.int x :: st) h = ((¬ x = 0 → K 15 kc ks loc st h) ∧ (x = 0 → wps rm K Q c_M_points_7 kc ks loc (st) h)) := rfl
theorem s_M_points_7 {x : Nat} {l : eg_Lo} : wps rm K Q c_M_points_7 kc ks (some (.ref x) :: l) (st) h = wps rm K Q c_M_points_8 kc ks (some (.ref x) :: l) (.ref x :: st) h := rfl
theorem s_M_points_8  : wps rm K Q c_M_points_8 kc ks loc (st) h = wps rm K Q c_M_points_11 kc ks loc (.long (-1000000000000000001) :: st) h := rfl
theorem s_M_points_11  {a1 : Value} {x : Nat} : wps rm K Q c_M_points_11 kc ks loc (a1 :: .ref (x + 1) :: st) h = (eg_cls h x 12 ∧ st.length ≤ 4 ∧ eg_Cs n_M_finding (.ref (x + 1) :: [a1]) h (fun v h9 => wps rm K Q c_M_points_14 kc ks loc (v.toList ++ st) h9)) := eg_c1_1
theorem s_M_points_14 {x : Int64} : wps rm K Q c_M_points_14 kc ks loc ([.long x]) h = (kc = rm.cells ∧ Q (some (.long x)) h) := rfl
theorem s_M_points_15  : wps rm K Q c_M_points_15 kc ks loc (st) h = wps rm K Q c_M_points_16 kc ks loc (.int (0) :: st) h := rfl
theorem s_M_points_16 {x : Int32} : wps rm K Q c_M_points_16 kc ks loc (.int x :: st) h = wps rm K Q c_M_points_17 kc ks (eg_set1 loc 3 (.int x)) (st) h := rfl
theorem s_M_points_17  : wps rm K Q c_M_points_17 kc ks loc (st) h = wps rm K Q c_M_points_18 kc ks loc (.int (0) :: st) h := rfl
theorem s_M_points_18 {x : Int32} : wps rm K Q c_M_points_18 kc ks loc (.int x :: st) h = K 20 kc ks (eg_set1 loc 4 (.int x)) (st) h := rfl
theorem s_M_points_20 {x : Int32} {l0 l1 l2 l3 : Option Value} {l : eg_Lo} : wps rm K Q c_M_points_20 kc ks (l0 :: l1 :: l2 :: l3 :: some (.int x) :: l) (st) h = wps rm K Q c_M_points_22 kc ks (l0 :: l1 :: l2 :: l3 :: some (.int x) :: l) (.int x :: st) h := rfl
theorem s_M_points_22 {x : Nat} {l : eg_Lo} : wps rm K Q c_M_points_22 kc ks (some (.ref x) :: l) (st) h = wps rm K Q c_M_points_23 kc ks (some (.ref x) :: l) (.ref x :: st) h := rfl
theorem s_M_points_23 {x : Nat} : wps rm K Q c_M_points_23 kc ks loc (.ref (x + 1) :: st) h = eg_gf h x 12 0 (fun v => wps rm K Q c_M_points_26 kc ks loc (v :: st) h) := rfl
theorem s_M_points_26 {x : Int32} {l0 : Option Value} {l : eg_Lo} : wps rm K Q c_M_points_26 kc ks (l0 :: some (.int x) :: l) (st) h = wps rm K Q c_M_points_27 kc ks (l0 :: some (.int x) :: l) (.int x :: st) h := rfl
theorem s_M_points_27 {x : Nat} {i : Int32} : wps rm K Q c_M_points_27 kc ks loc (.int i :: .ref (x + 1) :: st) h = eg_ia h x i (fun v => wps rm K Q c_M_points_28 kc ks loc (.int v :: st) h) := rfl
theorem s_M_points_28 {x y : Int32} : wps rm K Q c_M_points_28 kc ks loc (.int y :: .int x :: st) h = ((y ≤ x → K 63 kc ks loc st h) ∧ (¬ y ≤ x → wps rm K Q c_M_points_31 kc ks loc (st) h)) := rfl
theorem s_M_points_31 {x : Int32} {l0 l1 l2 : Option Value} {l : eg_Lo} : wps rm K Q c_M_points_31 kc ks (l0 :: l1 :: l2 :: some (.int x) :: l) (st) h = wps rm K Q c_M_points_32 kc ks (l0 :: l1 :: l2 :: some (.int x) :: l) (.int x :: st) h := rfl
theorem s_M_points_32 {x : Int32} {l0 l1 : Option Value} {l : eg_Lo} : wps rm K Q c_M_points_32 kc ks (l0 :: l1 :: some (.int x) :: l) (st) h = wps rm K Q c_M_points_33 kc ks (l0 :: l1 :: some (.int x) :: l) (.int x :: st) h := rfl
theorem s_M_points_33 {x : Int32} : wps rm K Q c_M_points_33 kc ks loc (.int x :: st) h = ((x = 0 → K 54 kc ks loc st h) ∧ (¬ x = 0 → wps rm K Q c_M_points_36 kc ks loc (st) h)) := rfl
theorem s_M_points_36 {x : Nat} {l : eg_Lo} : wps rm K Q c_M_points_36 kc ks (some (.ref x) :: l) (st) h = wps rm K Q c_M_points_37 kc ks (some (.ref x) :: l) (.ref x :: st) h := rfl
theorem s_M_points_37 {x : Nat} : wps rm K Q c_M_points_37 kc ks loc (.ref (x + 1) :: st) h = eg_gf h x 12 4 (fun v => wps rm K Q c_M_points_40 kc ks loc (v :: st) h) := rfl
theorem s_M_points_40 {x : Int32} {l0 : Option Value} {l : eg_Lo} : wps rm K Q c_M_points_40 kc ks (l0 :: some (.int x) :: l) (st) h = wps rm K Q c_M_points_41 kc ks (l0 :: some (.int x) :: l) (.int x :: st) h := rfl
theorem s_M_points_41 {x : Int32} {l0 l1 l2 l3 : Option Value} {l : eg_Lo} : wps rm K Q c_M_points_41 kc ks (l0 :: l1 :: l2 :: l3 :: some (.int x) :: l) (st) h = wps rm K Q c_M_points_43 kc ks (l0 :: l1 :: l2 :: l3 :: some (.int x) :: l) (.int x :: st) h := rfl
theorem s_M_points_43  {a1 : Value} {a2 : Value} : wps rm K Q c_M_points_43 kc ks loc (a2 :: a1 :: st) h = (st.length ≤ 4 ∧ eg_Cs n_M_at_II [a1, a2] h (fun v h9 => wps rm K Q c_M_points_46 kc ks loc (v.toList ++ st) h9)) := eg_c0_2
theorem s_M_points_46 {x : Nat} {i : Int32} : wps rm K Q c_M_points_46 kc ks loc (.int i :: .ref (x + 1) :: st) h = eg_ba h x i (fun v => wps rm K Q c_M_points_47 kc ks loc (.int v :: st) h) := rfl
theorem s_M_points_47 {x : Int32} : wps rm K Q c_M_points_47 kc ks loc (.int x :: st) h = ((x = 0 → K 54 kc ks loc st h) ∧ (¬ x = 0 → wps rm K Q c_M_points_50 kc ks loc (st) h)) := rfl
theorem s_M_points_50  : wps rm K Q c_M_points_50 kc ks loc (st) h = wps rm K Q c_M_points_51 kc ks loc (.int (0) :: st) h := rfl
theorem s_M_points_51  : wps rm K Q c_M_points_51 kc ks loc (st) h = K 55 kc ks loc st h := rfl
theorem s_M_points_54  : wps rm K Q c_M_points_54 kc ks loc (st) h = wps rm K Q c_M_points_55 kc ks loc (.int (1) :: st) h := rfl
theorem s_M_points_55 {x y : Int32} : wps rm K Q c_M_points_55 kc ks loc (.int y :: .int x :: st) h = wps rm K Q c_M_points_56 kc ks loc (.int (x + y) :: st) h := rfl
theorem s_M_points_56 {x : Int32} : wps rm K Q c_M_points_56 kc ks loc (.int x :: st) h = wps rm K Q c_M_points_57 kc ks (eg_set1 loc 3 (.int x)) (st) h := rfl
theorem s_M_points_57 {x : Int32} {l0 l1 l2 l3 : Option Value} {l9 : eg_Lo} : wps rm K Q c_M_points_57 kc ks (l0 :: l1 :: l2 :: l3 :: some (.int x) :: l9) (st) h = wps rm K Q c_M_points_60 kc ks (eg_set1 (l0 :: l1 :: l2 :: l3 :: some (.int x) :: l9) 4 (.int (x + (1)))) (st) h := rfl
theorem s_M_points_60  : wps rm K Q c_M_points_60 kc ks loc (st) h = K 20 kc ks loc st h := rfl
theorem s_M_points_63 {x : Int32} {l0 l1 l2 : Option Value} {l : eg_Lo} : wps rm K Q c_M_points_63 kc ks (l0 :: l1 :: l2 :: some (.int x) :: l) (st) h = wps rm K Q c_M_points_64 kc ks (l0 :: l1 :: l2 :: some (.int x) :: l) (.int x :: st) h := rfl
theorem s_M_points_64 {x : Int32} : wps rm K Q c_M_points_64 kc ks loc (.int x :: st) h = wps rm K Q c_M_points_65 kc ks loc (.long (x.toInt64) :: st) h := rfl
theorem s_M_points_65 {x : Int64} : wps rm K Q c_M_points_65 kc ks loc ([.long x]) h = (kc = rm.cells ∧ Q (some (.long x)) h) := rfl
def T_M_points : List (Nat × List eg_I) := [(15, c_M_points_15), (54, c_M_points_54), (55, c_M_points_55), (63, c_M_points_63)]
theorem j_M_points_15 {R : Nat → Nat → Nat → eg_Lo → List Value → List eg_E → Prop} {f pc0 : Nat} : eg_run rm R Q T_M_points (f + 1) 15 kc ks loc st h = wps rm (eg_run rm R Q T_M_points f) Q c_M_points_15 kc ks loc st h := rfl
theorem j_M_points_54 {R : Nat → Nat → Nat → eg_Lo → List Value → List eg_E → Prop} {f pc0 : Nat} : eg_run rm R Q T_M_points (f + 1) 54 kc ks loc st h = wps rm (eg_run rm R Q T_M_points f) Q c_M_points_54 kc ks loc st h := rfl
theorem j_M_points_55 {R : Nat → Nat → Nat → eg_Lo → List Value → List eg_E → Prop} {f pc0 : Nat} : eg_run rm R Q T_M_points (f + 1) 55 kc ks loc st h = wps rm (eg_run rm R Q T_M_points f) Q c_M_points_55 kc ks loc st h := rfl
theorem j_M_points_63 {R : Nat → Nat → Nat → eg_Lo → List Value → List eg_E → Prop} {f pc0 : Nat} : eg_run rm R Q T_M_points (f + 1) 63 kc ks loc st h = wps rm (eg_run rm R Q T_M_points f) Q c_M_points_63 kc ks loc st h := rfl
theorem j_M_points_20 {R : Nat → Nat → Nat → eg_Lo → List Value → List eg_E → Prop} {f pc0 : Nat} : eg_run rm R Q T_M_points (f + 1) 20 kc ks loc st h = R 20 kc ks loc st h := rfl
end
theorem q_M_points : (T_M_points.all fun q => eg_seq m_M_points q.1 q.2) = true := by decide +kernel
theorem b_M_points {as : List Value} {h : List eg_E} {Q : Option Value → List eg_E → Prop} (hf : (eg_fl as).length ≤ 5) (hw : wps (eg_rm m_M_points) (eg_run (eg_rm m_M_points) (eg_R m_M_points Q (h.length + 0)) Q T_M_points 6) Q c_M_points_0 0 0 (eg_entry 5 as) [] h) : eg_Runs n_M_points as h Q := eg_begin (d := m_M_points) rfl (by decide) (by decide +kernel) q_M_points hf hw
theorem p_M_points_20 {Q : Option Value → List eg_E → Prop} {n0 kc ks : Nat} {loc : eg_Lo} {st : List Value} {h : List eg_E} (hw : wps (eg_rm m_M_points) (eg_run (eg_rm m_M_points) (eg_R m_M_points Q n0) Q T_M_points 6) Q c_M_points_20 kc ks loc st h) : eg_R m_M_points Q n0 20 kc ks loc st h := eg_go (by decide +kernel) q_M_points hw
/-! ===== M_offOf ===== -/
def c_M_offOf_154 : List eg_I := .inl (154, 1, .ireturn, 0, 0) :: []
def c_M_offOf_152 : List eg_I := .inl (152, 2, .iload 10, 0, 0) :: c_M_offOf_154
def c_M_offOf_149 : List eg_I := .inl (149, 3, .goto (5), 154, 0) :: []
def c_M_offOf_148 : List eg_I := .inl (148, 1, .isub, 0, 0) :: c_M_offOf_149
def c_M_offOf_147 : List eg_I := .inl (147, 1, .iconst (1), 0, 0) :: c_M_offOf_148
def c_M_offOf_145 : List eg_I := .inl (145, 2, .iload 10, 0, 0) :: c_M_offOf_147
def c_M_offOf_142 : List eg_I := .inl (142, 3, .ifCond .ge (10), 152, 0) :: c_M_offOf_145
def c_M_offOf_141 : List eg_I := .inl (141, 1, .irem, 0, 0) :: c_M_offOf_142
def c_M_offOf_139 : List eg_I := .inl (139, 2, .iconst (90000), 128, 0) :: c_M_offOf_141
def c_M_offOf_137 : List eg_I := .inl (137, 2, .iload 9, 0, 0) :: c_M_offOf_139
def c_M_offOf_135 : List eg_I := .inl (135, 2, .istore 10, 0, 0) :: c_M_offOf_137
def c_M_offOf_134 : List eg_I := .inl (134, 1, .idiv, 0, 0) :: c_M_offOf_135
def c_M_offOf_132 : List eg_I := .inl (132, 2, .iconst (90000), 128, 0) :: c_M_offOf_134
def c_M_offOf_130 : List eg_I := .inl (130, 2, .iload 9, 0, 0) :: c_M_offOf_132
def c_M_offOf_128 : List eg_I := .inl (128, 2, .istore 9, 0, 0) :: c_M_offOf_130
def c_M_offOf_127 : List eg_I := .inl (127, 1, .iadd, 0, 0) :: c_M_offOf_128
def c_M_offOf_126 : List eg_I := .inl (126, 1, .imul, 0, 0) :: c_M_offOf_127
def c_M_offOf_125 : List eg_I := .inl (125, 1, .iaload, 0, 0) :: c_M_offOf_126
def c_M_offOf_124 : List eg_I := .inl (124, 1, .iadd, 0, 0) :: c_M_offOf_125
def c_M_offOf_123 : List eg_I := .inl (123, 1, .iconst (4), 0, 0) :: c_M_offOf_124
def c_M_offOf_121 : List eg_I := .inl (121, 2, .iload 8, 0, 0) :: c_M_offOf_123
def c_M_offOf_120 : List eg_I := .inl (120, 1, .aload 3, 0, 0) :: c_M_offOf_121
def c_M_offOf_119 : List eg_I := .inl (119, 1, .imul, 0, 0) :: c_M_offOf_120
def c_M_offOf_117 : List eg_I := .inl (117, 2, .iload 7, 0, 0) :: c_M_offOf_119
def c_M_offOf_115 : List eg_I := .inl (115, 2, .iload 6, 0, 0) :: c_M_offOf_117
def c_M_offOf_114 : List eg_I := .inl (114, 1, .iadd, 0, 0) :: c_M_offOf_115
def c_M_offOf_113 : List eg_I := .inl (113, 1, .imul, 0, 0) :: c_M_offOf_114
def c_M_offOf_112 : List eg_I := .inl (112, 1, .iaload, 0, 0) :: c_M_offOf_113
def c_M_offOf_111 : List eg_I := .inl (111, 1, .iadd, 0, 0) :: c_M_offOf_112
def c_M_offOf_110 : List eg_I := .inl (110, 1, .iconst (3), 0, 0) :: c_M_offOf_111
def c_M_offOf_108 : List eg_I := .inl (108, 2, .iload 8, 0, 0) :: c_M_offOf_110
def c_M_offOf_107 : List eg_I := .inl (107, 1, .aload 3, 0, 0) :: c_M_offOf_108
def c_M_offOf_106 : List eg_I := .inl (106, 1, .imul, 0, 0) :: c_M_offOf_107
def c_M_offOf_104 : List eg_I := .inl (104, 2, .iload 7, 0, 0) :: c_M_offOf_106
def c_M_offOf_103 : List eg_I := .inl (103, 1, .isub, 0, 0) :: c_M_offOf_104
def c_M_offOf_101 : List eg_I := .inl (101, 2, .iload 6, 0, 0) :: c_M_offOf_103
def c_M_offOf_98 : List eg_I := .inl (98, 3, .iconst (300), 0, 0) :: c_M_offOf_101
def c_M_offOf_97 : List eg_I := .inl (97, 1, .iadd, 0, 0) :: c_M_offOf_98
def c_M_offOf_96 : List eg_I := .inl (96, 1, .imul, 0, 0) :: c_M_offOf_97
def c_M_offOf_95 : List eg_I := .inl (95, 1, .iaload, 0, 0) :: c_M_offOf_96
def c_M_offOf_94 : List eg_I := .inl (94, 1, .iadd, 0, 0) :: c_M_offOf_95
def c_M_offOf_93 : List eg_I := .inl (93, 1, .iconst (1), 0, 0) :: c_M_offOf_94
def c_M_offOf_91 : List eg_I := .inl (91, 2, .iload 8, 0, 0) :: c_M_offOf_93
def c_M_offOf_90 : List eg_I := .inl (90, 1, .aload 3, 0, 0) :: c_M_offOf_91
def c_M_offOf_89 : List eg_I := .inl (89, 1, .imul, 0, 0) :: c_M_offOf_90
def c_M_offOf_88 : List eg_I := .inl (88, 1, .isub, 0, 0) :: c_M_offOf_89
def c_M_offOf_86 : List eg_I := .inl (86, 2, .iload 7, 0, 0) :: c_M_offOf_88
def c_M_offOf_83 : List eg_I := .inl (83, 3, .iconst (300), 0, 0) :: c_M_offOf_86
def c_M_offOf_81 : List eg_I := .inl (81, 2, .iload 6, 0, 0) :: c_M_offOf_83
def c_M_offOf_80 : List eg_I := .inl (80, 1, .imul, 0, 0) :: c_M_offOf_81
def c_M_offOf_79 : List eg_I := .inl (79, 1, .iaload, 0, 0) :: c_M_offOf_80
def c_M_offOf_77 : List eg_I := .inl (77, 2, .iload 8, 0, 0) :: c_M_offOf_79
def c_M_offOf_76 : List eg_I := .inl (76, 1, .aload 3, 0, 0) :: c_M_offOf_77
def c_M_offOf_75 : List eg_I := .inl (75, 1, .imul, 0, 0) :: c_M_offOf_76
def c_M_offOf_74 : List eg_I := .inl (74, 1, .isub, 0, 0) :: c_M_offOf_75
def c_M_offOf_72 : List eg_I := .inl (72, 2, .iload 7, 0, 0) :: c_M_offOf_74
def c_M_offOf_69 : List eg_I := .inl (69, 3, .iconst (300), 0, 0) :: c_M_offOf_72
def c_M_offOf_68 : List eg_I := .inl (68, 1, .isub, 0, 0) :: c_M_offOf_69
def c_M_offOf_66 : List eg_I := .inl (66, 2, .iload 6, 0, 0) :: c_M_offOf_68
def c_M_offOf_63 : List eg_I := .inl (63, 3, .iconst (300), 0, 0) :: c_M_offOf_66
def c_M_offOf_61 : List eg_I := .inl (61, 2, .istore 8, 0, 0) :: c_M_offOf_63
def c_M_offOf_60 : List eg_I := .inl (60, 1, .iadd, 0, 0) :: c_M_offOf_61
def c_M_offOf_58 : List eg_I := .inl (58, 2, .iload 4, 0, 0) :: c_M_offOf_60
def c_M_offOf_57 : List eg_I := .inl (57, 1, .imul, 0, 0) :: c_M_offOf_58
def c_M_offOf_55 : List eg_I := .inl (55, 2, .iload 5, 0, 0) :: c_M_offOf_57
def c_M_offOf_54 : List eg_I := .inl (54, 1, .iconst (3), 0, 0) :: c_M_offOf_55
def c_M_offOf_52 : List eg_I := .inl (52, 2, .istore 7, 0, 0) :: c_M_offOf_54
def c_M_offOf_51 : List eg_I := .inl (51, 1, .iload 2, 0, 0) :: c_M_offOf_52
def c_M_offOf_48 : List eg_I := .inl (48, 3, .goto (4), 52, 0) :: []
def c_M_offOf_47 : List eg_I := .inl (47, 1, .iadd, 0, 0) :: c_M_offOf_48
def c_M_offOf_44 : List eg_I := .inl (44, 3, .iconst (300), 0, 0) :: c_M_offOf_47
def c_M_offOf_43 : List eg_I := .inl (43, 1, .iload 2, 0, 0) :: c_M_offOf_44
def c_M_offOf_40 : List eg_I := .inl (40, 3, .ifCond .ne (11), 51, 0) :: c_M_offOf_43
def c_M_offOf_38 : List eg_I := .inl (38, 2, .iload 5, 0, 0) :: c_M_offOf_40
def c_M_offOf_36 : List eg_I := .inl (36, 2, .istore 6, 0, 0) :: c_M_offOf_38
def c_M_offOf_35 : List eg_I := .inl (35, 1, .iload 1, 0, 0) :: c_M_offOf_36
def c_M_offOf_32 : List eg_I := .inl (32, 3, .goto (4), 36, 0) :: []
def c_M_offOf_31 : List eg_I := .inl (31, 1, .iadd, 0, 0) :: c_M_offOf_32
def c_M_offOf_28 : List eg_I := .inl (28, 3, .iconst (300), 0, 0) :: c_M_offOf_31
def c_M_offOf_27 : List eg_I := .inl (27, 1, .iload 1, 0, 0) :: c_M_offOf_28
def c_M_offOf_24 : List eg_I := .inl (24, 3, .ifCond .ne (11), 35, 0) :: c_M_offOf_27
def c_M_offOf_22 : List eg_I := .inl (22, 2, .iload 4, 0, 0) :: c_M_offOf_24
def c_M_offOf_20 : List eg_I := .inl (20, 2, .istore 5, 0, 0) :: c_M_offOf_22
def c_M_offOf_19 : List eg_I := .inl (19, 1, .iconst (1), 0, 0) :: c_M_offOf_20
def c_M_offOf_16 : List eg_I := .inl (16, 3, .goto (4), 20, 0) :: []
def c_M_offOf_15 : List eg_I := .inl (15, 1, .iconst (0), 0, 0) :: c_M_offOf_16
def c_M_offOf_12 : List eg_I := .inl (12, 3, .ifCond .ge (7), 19, 0) :: c_M_offOf_15
def c_M_offOf_11 : List eg_I := .inl (11, 1, .iload 2, 0, 0) :: c_M_offOf_12
def c_M_offOf_9 : List eg_I := .inl (9, 2, .istore 4, 0, 0) :: c_M_offOf_11
def c_M_offOf_8 : List eg_I := .inl (8, 1, .iconst (1), 0, 0) :: c_M_offOf_9
def c_M_offOf_5 : List eg_I := .inl (5, 3, .goto (4), 9, 0) :: []
def c_M_offOf_4 : List eg_I := .inl (4, 1, .iconst (0), 0, 0) :: c_M_offOf_5
def c_M_offOf_1 : List eg_I := .inl (1, 3, .ifCond .ge (7), 8, 0) :: c_M_offOf_4
def c_M_offOf_0 : List eg_I := .inl (0, 1, .iload 1, 0, 0) :: c_M_offOf_1
section
variable {rm : Room} {K : Nat → Nat → Nat → eg_Lo → List Value → List eg_E → Prop} {Q : Option Value → List eg_E → Prop} {kc ks : Nat} {loc : eg_Lo} {st : List Value} {h : List eg_E}
theorem s_M_offOf_0 {x : Int32} {l0 : Option Value} {l : eg_Lo} : wps rm K Q c_M_offOf_0 kc ks (l0 :: some (.int x) :: l) (st) h = wps rm K Q c_M_offOf_1 kc ks (l0 :: some (.int x) :: l) (.int x :: st) h := rfl
theorem s_M_offOf_1 {x : Int32} : wps rm K Q c_M_offOf_1 kc ks loc (.int x :: st) h = ((0 ≤ x → K 8 kc ks loc st h) ∧ (¬ 0 ≤ x → wps rm K Q c_M_offOf_4 kc ks loc (st) h)) := rfl
theorem s_M_offOf_4  : wps rm K Q c_M_offOf_4 kc ks loc (st) h = wps rm K Q c_M_offOf_5 kc ks loc (.int (0) :: st) h := rfl
theorem s_M_offOf_5  : wps rm K Q c_M_offOf_5 kc ks loc (st) h = K 9 kc ks loc st h := rfl
theorem s_M_offOf_8  : wps rm K Q c_M_offOf_8 kc ks loc (st) h = wps rm K Q c_M_offOf_9 kc ks loc (.int (1) :: st) h := rfl
theorem s_M_offOf_9 {x : Int32} : wps rm K Q c_M_offOf_9 kc ks loc (.int x :: st) h = wps rm K Q c_M_offOf_11 kc ks (eg_set1 loc 4 (.int x)) (st) h := rfl
theorem s_M_offOf_11 {x : Int32} {l0 l1 : Option Value} {l : eg_Lo} : wps rm K Q c_M_offOf_11 kc ks (l0 :: l1 :: some (.int x) :: l) (st) h = wps rm K Q c_M_offOf_12 kc ks (l0 :: l1 :: some (.int x) :: l) (.int x :: st) h := rfl
theorem s_M_offOf_12 {x : Int32} : wps rm K Q c_M_offOf_12 kc ks loc (.int x :: st) h = ((0 ≤ x → K 19 kc ks loc st h) ∧ (¬ 0 ≤ x → wps rm K Q c_M_offOf_15 kc ks loc (st) h)) := rfl
theorem s_M_offOf_15  : wps rm K Q c_M_offOf_15 kc ks loc (st) h = wps rm K Q c_M_offOf_16 kc ks loc (.int (0) :: st) h := rfl
theorem s_M_offOf_16  : wps rm K Q c_M_offOf_16 kc ks loc (st) h = K 20 kc ks loc st h := rfl
theorem s_M_offOf_19  : wps rm K Q c_M_offOf_19 kc ks loc (st) h = wps rm K Q c_M_offOf_20 kc ks loc (.int (1) :: st) h := rfl
theorem s_M_offOf_20 {x : Int32} : wps rm K Q c_M_offOf_20 kc ks loc (.int x :: st) h = wps rm K Q c_M_offOf_22 kc ks (eg_set1 loc 5 (.int x)) (st) h := rfl
theorem s_M_offOf_22 {x : Int32} {l0 l1 l2 l3 : Option Value} {l : eg_Lo} : wps rm K Q c_M_offOf_22 kc ks (l0 :: l1 :: l2 :: l3 :: some (.int x) :: l) (st) h = wps rm K Q c_M_offOf_24 kc ks (l0 :: l1 :: l2 :: l3 :: some (.int x) :: l) (.int x :: st) h := rfl
theorem s_M_offOf_24 {x : Int32} : wps rm K Q c_M_offOf_24 kc ks loc (.int x :: st) h = ((¬ x = 0 → K 35 kc ks loc st h) ∧ (x = 0 → wps rm K Q c_M_offOf_27 kc ks loc (st) h)) := rfl
theorem s_M_offOf_27 {x : Int32} {l0 : Option Value} {l : eg_Lo} : wps rm K Q c_M_offOf_27 kc ks (l0 :: some (.int x) :: l) (st) h = wps rm K Q c_M_offOf_28 kc ks (l0 :: some (.int x) :: l) (.int x :: st) h := rfl
theorem s_M_offOf_28  : wps rm K Q c_M_offOf_28 kc ks loc (st) h = wps rm K Q c_M_offOf_31 kc ks loc (.int (300) :: st) h := rfl
theorem s_M_offOf_31 {x y : Int32} : wps rm K Q c_M_offOf_31 kc ks loc (.int y :: .int x :: st) h = wps rm K Q c_M_offOf_32 kc ks loc (.int (x + y) :: st) h := rfl
theorem s_M_offOf_32  : wps rm K Q c_M_offOf_32 kc ks loc (st) h = K 36 kc ks loc st h := rfl
theorem s_M_offOf_35 {x : Int32} {l0 : Option Value} {l : eg_Lo} : wps rm K Q c_M_offOf_35 kc ks (l0 :: some (.int x) :: l) (st) h = wps rm K Q c_M_offOf_36 kc ks (l0 :: some (.int x) :: l) (.int x :: st) h := rfl
theorem s_M_offOf_36 {x : Int32} : wps rm K Q c_M_offOf_36 kc ks loc (.int x :: st) h = wps rm K Q c_M_offOf_38 kc ks (eg_set1 loc 6 (.int x)) (st) h := rfl
theorem s_M_offOf_38 {x : Int32} {l0 l1 l2 l3 l4 : Option Value} {l : eg_Lo} : wps rm K Q c_M_offOf_38 kc ks (l0 :: l1 :: l2 :: l3 :: l4 :: some (.int x) :: l) (st) h = wps rm K Q c_M_offOf_40 kc ks (l0 :: l1 :: l2 :: l3 :: l4 :: some (.int x) :: l) (.int x :: st) h := rfl
theorem s_M_offOf_40 {x : Int32} : wps rm K Q c_M_offOf_40 kc ks loc (.int x :: st) h = ((¬ x = 0 → K 51 kc ks loc st h) ∧ (x = 0 → wps rm K Q c_M_offOf_43 kc ks loc (st) h)) := rfl
theorem s_M_offOf_43 {x : Int32} {l0 l1 : Option Value} {l : eg_Lo} : wps rm K Q c_M_offOf_43 kc ks (l0 :: l1 :: some (.int x) :: l) (st) h = wps rm K Q c_M_offOf_44 kc ks (l0 :: l1 :: some (.int x) :: l) (.int x :: st) h := rfl
theorem s_M_offOf_44  : wps rm K Q c_M_offOf_44 kc ks loc (st) h = wps rm K Q c_M_offOf_47 kc ks loc (.int (300) :: st) h := rfl
theorem s_M_offOf_47 {x y : Int32} : wps rm K Q c_M_offOf_47 kc ks loc (.int y :: .int x :: st) h = wps rm K Q c_M_offOf_48 kc ks loc (.int (x + y) :: st) h := rfl
theorem s_M_offOf_48  : wps rm K Q c_M_offOf_48 kc ks loc (st) h = K 52 kc ks loc st h := rfl
theorem s_M_offOf_51 {x : Int32} {l0 l1 : Option Value} {l : eg_Lo} : wps rm K Q c_M_offOf_51 kc ks (l0 :: l1 :: some (.int x) :: l) (st) h = wps rm K Q c_M_offOf_52 kc ks (l0 :: l1 :: some (.int x) :: l) (.int x :: st) h := rfl
theorem s_M_offOf_52 {x : Int32} : wps rm K Q c_M_offOf_52 kc ks loc (.int x :: st) h = wps rm K Q c_M_offOf_54 kc ks (eg_set1 loc 7 (.int x)) (st) h := rfl
theorem s_M_offOf_54  : wps rm K Q c_M_offOf_54 kc ks loc (st) h = wps rm K Q c_M_offOf_55 kc ks loc (.int (3) :: st) h := rfl
theorem s_M_offOf_55 {x : Int32} {l0 l1 l2 l3 l4 : Option Value} {l : eg_Lo} : wps rm K Q c_M_offOf_55 kc ks (l0 :: l1 :: l2 :: l3 :: l4 :: some (.int x) :: l) (st) h = wps rm K Q c_M_offOf_57 kc ks (l0 :: l1 :: l2 :: l3 :: l4 :: some (.int x) :: l) (.int x :: st) h := rfl
theorem s_M_offOf_57 {x y : Int32} : wps rm K Q c_M_offOf_57 kc ks loc (.int y :: .int x :: st) h = wps rm K Q c_M_offOf_58 kc ks loc (.int (x * y) :: st) h := rfl
theorem s_M_offOf_58 {x : Int32} {l0 l1 l2 l3 : Option Value} {l : eg_Lo} : wps rm K Q c_M_offOf_58 kc ks (l0 :: l1 :: l2 :: l3 :: some (.int x) :: l) (st) h = wps rm K Q c_M_offOf_60 kc ks (l0 :: l1 :: l2 :: l3 :: some (.int x) :: l) (.int x :: st) h := rfl
theorem s_M_offOf_60 {x y : Int32} : wps rm K Q c_M_offOf_60 kc ks loc (.int y :: .int x :: st) h = wps rm K Q c_M_offOf_61 kc ks loc (.int (x + y) :: st) h := rfl
theorem s_M_offOf_61 {x : Int32} : wps rm K Q c_M_offOf_61 kc ks loc (.int x :: st) h = wps rm K Q c_M_offOf_63 kc ks (eg_set1 loc 8 (.int x)) (st) h := rfl
theorem s_M_offOf_63  : wps rm K Q c_M_offOf_63 kc ks loc (st) h = wps rm K Q c_M_offOf_66 kc ks loc (.int (300) :: st) h := rfl
theorem s_M_offOf_66 {x : Int32} {l0 l1 l2 l3 l4 l5 : Option Value} {l : eg_Lo} : wps rm K Q c_M_offOf_66 kc ks (l0 :: l1 :: l2 :: l3 :: l4 :: l5 :: some (.int x) :: l) (st) h = wps rm K Q c_M_offOf_68 kc ks (l0 :: l1 :: l2 :: l3 :: l4 :: l5 :: some (.int x) :: l) (.int x :: st) h := rfl
theorem s_M_offOf_68 {x y : Int32} : wps rm K Q c_M_offOf_68 kc ks loc (.int y :: .int x :: st) h = wps rm K Q c_M_offOf_69 kc ks loc (.int (x - y) :: st) h := rfl
theorem s_M_offOf_69  : wps rm K Q c_M_offOf_69 kc ks loc (st) h = wps rm K Q c_M_offOf_72 kc ks loc (.int (300) :: st) h := rfl
theorem s_M_offOf_72 {x : Int32} {l0 l1 l2 l3 l4 l5 l6 : Option Value} {l : eg_Lo} : wps rm K Q c_M_offOf_72 kc ks (l0 :: l1 :: l2 :: l3 :: l4 :: l5 :: l6 :: some (.int x) :: l) (st) h = wps rm K Q c_M_offOf_74 kc ks (l0 :: l1 :: l2 :: l3 :: l4 :: l5 :: l6 :: some (.int x) :: l) (.int x :: st) h := rfl
theorem s_M_offOf_74 {x y : Int32} : wps rm K Q c_M_offOf_74 kc ks loc (.int y :: .int x :: st) h = wps rm K Q c_M_offOf_75 kc ks loc (.int (x - y) :: st) h := rfl
theorem s_M_offOf_75 {x y : Int32} : wps rm K Q c_M_offOf_75 kc ks loc (.int y :: .int x :: st) h = wps rm K Q c_M_offOf_76 kc ks loc (.int (x * y) :: st) h := rfl
theorem s_M_offOf_76 {x : Nat} {l0 l1 l2 : Option Value} {l : eg_Lo} : wps rm K Q c_M_offOf_76 kc ks (l0 :: l1 :: l2 :: some (.ref x) :: l) (st) h = wps rm K Q c_M_offOf_77 kc ks (l0 :: l1 :: l2 :: some (.ref x) :: l) (.ref x :: st) h := rfl
theorem s_M_offOf_77 {x : Int32} {l0 l1 l2 l3 l4 l5 l6 l7 : Option Value} {l : eg_Lo} : wps rm K Q c_M_offOf_77 kc ks (l0 :: l1 :: l2 :: l3 :: l4 :: l5 :: l6 :: l7 :: some (.int x) :: l) (st) h = wps rm K Q c_M_offOf_79 kc ks (l0 :: l1 :: l2 :: l3 :: l4 :: l5 :: l6 :: l7 :: some (.int x) :: l) (.int x :: st) h := rfl
theorem s_M_offOf_79 {x : Nat} {i : Int32} : wps rm K Q c_M_offOf_79 kc ks loc (.int i :: .ref (x + 1) :: st) h = eg_ia h x i (fun v => wps rm K Q c_M_offOf_80 kc ks loc (.int v :: st) h) := rfl
theorem s_M_offOf_80 {x y : Int32} : wps rm K Q c_M_offOf_80 kc ks loc (.int y :: .int x :: st) h = wps rm K Q c_M_offOf_81 kc ks loc (.int (x * y) :: st) h := rfl
theorem s_M_offOf_81 {x : Int32} {l0 l1 l2 l3 l4 l5 : Option Value} {l : eg_Lo} : wps rm K Q c_M_offOf_81 kc ks (l0 :: l1 :: l2 :: l3 :: l4 :: l5 :: some (.int x) :: l) (st) h = wps rm K Q c_M_offOf_83 kc ks (l0 :: l1 :: l2 :: l3 :: l4 :: l5 :: some (.int x) :: l) (.int x :: st) h := rfl
theorem s_M_offOf_83  : wps rm K Q c_M_offOf_83 kc ks loc (st) h = wps rm K Q c_M_offOf_86 kc ks loc (.int (300) :: st) h := rfl
theorem s_M_offOf_86 {x : Int32} {l0 l1 l2 l3 l4 l5 l6 : Option Value} {l : eg_Lo} : wps rm K Q c_M_offOf_86 kc ks (l0 :: l1 :: l2 :: l3 :: l4 :: l5 :: l6 :: some (.int x) :: l) (st) h = wps rm K Q c_M_offOf_88 kc ks (l0 :: l1 :: l2 :: l3 :: l4 :: l5 :: l6 :: some (.int x) :: l) (.int x :: st) h := rfl
theorem s_M_offOf_88 {x y : Int32} : wps rm K Q c_M_offOf_88 kc ks loc (.int y :: .int x :: st) h = wps rm K Q c_M_offOf_89 kc ks loc (.int (x - y) :: st) h := rfl
theorem s_M_offOf_89 {x y : Int32} : wps rm K Q c_M_offOf_89 kc ks loc (.int y :: .int x :: st) h = wps rm K Q c_M_offOf_90 kc ks loc (.int (x * y) :: st) h := rfl
theorem s_M_offOf_90 {x : Nat} {l0 l1 l2 : Option Value} {l : eg_Lo} : wps rm K Q c_M_offOf_90 kc ks (l0 :: l1 :: l2 :: some (.ref x) :: l) (st) h = wps rm K Q c_M_offOf_91 kc ks (l0 :: l1 :: l2 :: some (.ref x) :: l) (.ref x :: st) h := rfl
theorem s_M_offOf_91 {x : Int32} {l0 l1 l2 l3 l4 l5 l6 l7 : Option Value} {l : eg_Lo} : wps rm K Q c_M_offOf_91 kc ks (l0 :: l1 :: l2 :: l3 :: l4 :: l5 :: l6 :: l7 :: some (.int x) :: l) (st) h = wps rm K Q c_M_offOf_93 kc ks (l0 :: l1 :: l2 :: l3 :: l4 :: l5 :: l6 :: l7 :: some (.int x) :: l) (.int x :: st) h := rfl
theorem s_M_offOf_93  : wps rm K Q c_M_offOf_93 kc ks loc (st) h = wps rm K Q c_M_offOf_94 kc ks loc (.int (1) :: st) h := rfl
theorem s_M_offOf_94 {x y : Int32} : wps rm K Q c_M_offOf_94 kc ks loc (.int y :: .int x :: st) h = wps rm K Q c_M_offOf_95 kc ks loc (.int (x + y) :: st) h := rfl
theorem s_M_offOf_95 {x : Nat} {i : Int32} : wps rm K Q c_M_offOf_95 kc ks loc (.int i :: .ref (x + 1) :: st) h = eg_ia h x i (fun v => wps rm K Q c_M_offOf_96 kc ks loc (.int v :: st) h) := rfl
theorem s_M_offOf_96 {x y : Int32} : wps rm K Q c_M_offOf_96 kc ks loc (.int y :: .int x :: st) h = wps rm K Q c_M_offOf_97 kc ks loc (.int (x * y) :: st) h := rfl
theorem s_M_offOf_97 {x y : Int32} : wps rm K Q c_M_offOf_97 kc ks loc (.int y :: .int x :: st) h = wps rm K Q c_M_offOf_98 kc ks loc (.int (x + y) :: st) h := rfl
theorem s_M_offOf_98  : wps rm K Q c_M_offOf_98 kc ks loc (st) h = wps rm K Q c_M_offOf_101 kc ks loc (.int (300) :: st) h := rfl
theorem s_M_offOf_101 {x : Int32} {l0 l1 l2 l3 l4 l5 : Option Value} {l : eg_Lo} : wps rm K Q c_M_offOf_101 kc ks (l0 :: l1 :: l2 :: l3 :: l4 :: l5 :: some (.int x) :: l) (st) h = wps rm K Q c_M_offOf_103 kc ks (l0 :: l1 :: l2 :: l3 :: l4 :: l5 :: some (.int x) :: l) (.int x :: st) h := rfl
theorem s_M_offOf_103 {x y : Int32} : wps rm K Q c_M_offOf_103 kc ks loc (.int y :: .int x :: st) h = wps rm K Q c_M_offOf_104 kc ks loc (.int (x - y) :: st) h := rfl
theorem s_M_offOf_104 {x : Int32} {l0 l1 l2 l3 l4 l5 l6 : Option Value} {l : eg_Lo} : wps rm K Q c_M_offOf_104 kc ks (l0 :: l1 :: l2 :: l3 :: l4 :: l5 :: l6 :: some (.int x) :: l) (st) h = wps rm K Q c_M_offOf_106 kc ks (l0 :: l1 :: l2 :: l3 :: l4 :: l5 :: l6 :: some (.int x) :: l) (.int x :: st) h := rfl
theorem s_M_offOf_106 {x y : Int32} : wps rm K Q c_M_offOf_106 kc ks loc (.int y :: .int x :: st) h = wps rm K Q c_M_offOf_107 kc ks loc (.int (x * y) :: st) h := rfl
theorem s_M_offOf_107 {x : Nat} {l0 l1 l2 : Option Value} {l : eg_Lo} : wps rm K Q c_M_offOf_107 kc ks (l0 :: l1 :: l2 :: some (.ref x) :: l) (st) h = wps rm K Q c_M_offOf_108 kc ks (l0 :: l1 :: l2 :: some (.ref x) :: l) (.ref x :: st) h := rfl
theorem s_M_offOf_108 {x : Int32} {l0 l1 l2 l3 l4 l5 l6 l7 : Option Value} {l : eg_Lo} : wps rm K Q c_M_offOf_108 kc ks (l0 :: l1 :: l2 :: l3 :: l4 :: l5 :: l6 :: l7 :: some (.int x) :: l) (st) h = wps rm K Q c_M_offOf_110 kc ks (l0 :: l1 :: l2 :: l3 :: l4 :: l5 :: l6 :: l7 :: some (.int x) :: l) (.int x :: st) h := rfl
theorem s_M_offOf_110  : wps rm K Q c_M_offOf_110 kc ks loc (st) h = wps rm K Q c_M_offOf_111 kc ks loc (.int (3) :: st) h := rfl
theorem s_M_offOf_111 {x y : Int32} : wps rm K Q c_M_offOf_111 kc ks loc (.int y :: .int x :: st) h = wps rm K Q c_M_offOf_112 kc ks loc (.int (x + y) :: st) h := rfl
theorem s_M_offOf_112 {x : Nat} {i : Int32} : wps rm K Q c_M_offOf_112 kc ks loc (.int i :: .ref (x + 1) :: st) h = eg_ia h x i (fun v => wps rm K Q c_M_offOf_113 kc ks loc (.int v :: st) h) := rfl
theorem s_M_offOf_113 {x y : Int32} : wps rm K Q c_M_offOf_113 kc ks loc (.int y :: .int x :: st) h = wps rm K Q c_M_offOf_114 kc ks loc (.int (x * y) :: st) h := rfl
theorem s_M_offOf_114 {x y : Int32} : wps rm K Q c_M_offOf_114 kc ks loc (.int y :: .int x :: st) h = wps rm K Q c_M_offOf_115 kc ks loc (.int (x + y) :: st) h := rfl
theorem s_M_offOf_115 {x : Int32} {l0 l1 l2 l3 l4 l5 : Option Value} {l : eg_Lo} : wps rm K Q c_M_offOf_115 kc ks (l0 :: l1 :: l2 :: l3 :: l4 :: l5 :: some (.int x) :: l) (st) h = wps rm K Q c_M_offOf_117 kc ks (l0 :: l1 :: l2 :: l3 :: l4 :: l5 :: some (.int x) :: l) (.int x :: st) h := rfl
theorem s_M_offOf_117 {x : Int32} {l0 l1 l2 l3 l4 l5 l6 : Option Value} {l : eg_Lo} : wps rm K Q c_M_offOf_117 kc ks (l0 :: l1 :: l2 :: l3 :: l4 :: l5 :: l6 :: some (.int x) :: l) (st) h = wps rm K Q c_M_offOf_119 kc ks (l0 :: l1 :: l2 :: l3 :: l4 :: l5 :: l6 :: some (.int x) :: l) (.int x :: st) h := rfl
theorem s_M_offOf_119 {x y : Int32} : wps rm K Q c_M_offOf_119 kc ks loc (.int y :: .int x :: st) h = wps rm K Q c_M_offOf_120 kc ks loc (.int (x * y) :: st) h := rfl
theorem s_M_offOf_120 {x : Nat} {l0 l1 l2 : Option Value} {l : eg_Lo} : wps rm K Q c_M_offOf_120 kc ks (l0 :: l1 :: l2 :: some (.ref x) :: l) (st) h = wps rm K Q c_M_offOf_121 kc ks (l0 :: l1 :: l2 :: some (.ref x) :: l) (.ref x :: st) h := rfl
theorem s_M_offOf_121 {x : Int32} {l0 l1 l2 l3 l4 l5 l6 l7 : Option Value} {l : eg_Lo} : wps rm K Q c_M_offOf_121 kc ks (l0 :: l1 :: l2 :: l3 :: l4 :: l5 :: l6 :: l7 :: some (.int x) :: l) (st) h = wps rm K Q c_M_offOf_123 kc ks (l0 :: l1 :: l2 :: l3 :: l4 :: l5 :: l6 :: l7 :: some (.int x) :: l) (.int x :: st) h := rfl
theorem s_M_offOf_123  : wps rm K Q c_M_offOf_123 kc ks loc (st) h = wps rm K Q c_M_offOf_124 kc ks loc (.int (4) :: st) h := rfl
theorem s_M_offOf_124 {x y : Int32} : wps rm K Q c_M_offOf_124 kc ks loc (.int y :: .int x :: st) h = wps rm K Q c_M_offOf_125 kc ks loc (.int (x + y) :: st) h := rfl
theorem s_M_offOf_125 {x : Nat} {i : Int32} : wps rm K Q c_M_offOf_125 kc ks loc (.int i :: .ref (x + 1) :: st) h = eg_ia h x i (fun v => wps rm K Q c_M_offOf_126 kc ks loc (.int v :: st) h) := rfl
theorem s_M_offOf_126 {x y : Int32} : wps rm K Q c_M_offOf_126 kc ks loc (.int y :: .int x :: st) h = wps rm K Q c_M_offOf_127 kc ks loc (.int (x * y) :: st) h := rfl
theorem s_M_offOf_127 {x y : Int32} : wps rm K Q c_M_offOf_127 kc ks loc (.int y :: .int x :: st) h = wps rm K Q c_M_offOf_128 kc ks loc (.int (x + y) :: st) h := rfl
theorem s_M_offOf_128 {x : Int32} : wps rm K Q c_M_offOf_128 kc ks loc (.int x :: st) h = wps rm K Q c_M_offOf_130 kc ks (eg_set1 loc 9 (.int x)) (st) h := rfl
theorem s_M_offOf_130 {x : Int32} {l0 l1 l2 l3 l4 l5 l6 l7 l8 : Option Value} {l : eg_Lo} : wps rm K Q c_M_offOf_130 kc ks (l0 :: l1 :: l2 :: l3 :: l4 :: l5 :: l6 :: l7 :: l8 :: some (.int x) :: l) (st) h = wps rm K Q c_M_offOf_132 kc ks (l0 :: l1 :: l2 :: l3 :: l4 :: l5 :: l6 :: l7 :: l8 :: some (.int x) :: l) (.int x :: st) h := rfl
theorem s_M_offOf_132  : wps rm K Q c_M_offOf_132 kc ks loc (st) h = wps rm K Q c_M_offOf_134 kc ks loc (.int (90000) :: st) h := rfl
theorem s_M_offOf_134 {x y : Int32} : wps rm K Q c_M_offOf_134 kc ks loc (.int y :: .int x :: st) h = (¬ y = 0 ∧ wps rm K Q c_M_offOf_135 kc ks loc (.int (x / y) :: st) h) := rfl
theorem s_M_offOf_135 {x : Int32} : wps rm K Q c_M_offOf_135 kc ks loc (.int x :: st) h = wps rm K Q c_M_offOf_137 kc ks (eg_set1 loc 10 (.int x)) (st) h := rfl
theorem s_M_offOf_137 {x : Int32} {l0 l1 l2 l3 l4 l5 l6 l7 l8 : Option Value} {l : eg_Lo} : wps rm K Q c_M_offOf_137 kc ks (l0 :: l1 :: l2 :: l3 :: l4 :: l5 :: l6 :: l7 :: l8 :: some (.int x) :: l) (st) h = wps rm K Q c_M_offOf_139 kc ks (l0 :: l1 :: l2 :: l3 :: l4 :: l5 :: l6 :: l7 :: l8 :: some (.int x) :: l) (.int x :: st) h := rfl
theorem s_M_offOf_139  : wps rm K Q c_M_offOf_139 kc ks loc (st) h = wps rm K Q c_M_offOf_141 kc ks loc (.int (90000) :: st) h := rfl
theorem s_M_offOf_141 {x y : Int32} : wps rm K Q c_M_offOf_141 kc ks loc (.int y :: .int x :: st) h = (¬ y = 0 ∧ wps rm K Q c_M_offOf_142 kc ks loc (.int (x - x / y * y) :: st) h) := rfl
theorem s_M_offOf_142 {x : Int32} : wps rm K Q c_M_offOf_142 kc ks loc (.int x :: st) h = ((0 ≤ x → K 152 kc ks loc st h) ∧ (¬ 0 ≤ x → wps rm K Q c_M_offOf_145 kc ks loc (st) h)) := rfl
theorem s_M_offOf_145 {x : Int32} {l0 l1 l2 l3 l4 l5 l6 l7 l8 l9 : Option Value} {l : eg_Lo} : wps rm K Q c_M_offOf_145 kc ks (l0 :: l1 :: l2 :: l3 :: l4 :: l5 :: l6 :: l7 :: l8 :: l9 :: some (.int x) :: l) (st) h = wps rm K Q c_M_offOf_147 kc ks (l0 :: l1 :: l2 :: l3 :: l4 :: l5 :: l6 :: l7 :: l8 :: l9 :: some (.int x) :: l) (.int x :: st) h := rfl
theorem s_M_offOf_147  : wps rm K Q c_M_offOf_147 kc ks loc (st) h = wps rm K Q c_M_offOf_148 kc ks loc (.int (1) :: st) h := rfl
theorem s_M_offOf_148 {x y : Int32} : wps rm K Q c_M_offOf_148 kc ks loc (.int y :: .int x :: st) h = wps rm K Q c_M_offOf_149 kc ks loc (.int (x - y) :: st) h := rfl
theorem s_M_offOf_149  : wps rm K Q c_M_offOf_149 kc ks loc (st) h = K 154 kc ks loc st h := rfl
theorem s_M_offOf_152 {x : Int32} {l0 l1 l2 l3 l4 l5 l6 l7 l8 l9 : Option Value} {l : eg_Lo} : wps rm K Q c_M_offOf_152 kc ks (l0 :: l1 :: l2 :: l3 :: l4 :: l5 :: l6 :: l7 :: l8 :: l9 :: some (.int x) :: l) (st) h = wps rm K Q c_M_offOf_154 kc ks (l0 :: l1 :: l2 :: l3 :: l4 :: l5 :: l6 :: l7 :: l8 :: l9 :: some (.int x) :: l) (.int x :: st) h := rfl
theorem s_M_offOf_154 {x : Int32} : wps rm K Q c_M_offOf_154 kc ks loc ([.int x]) h = (kc = rm.cells ∧ (0 = 1 → x = 0 ∨ x = 1) ∧ Q (some (.int x)) h) := rfl
def T_M_offOf : List (Nat × List eg_I) := [(8, c_M_offOf_8), (9, c_M_offOf_9), (19, c_M_offOf_19), (20, c_M_offOf_20), (35, c_M_offOf_35), (36, c_M_offOf_36), (51, c_M_offOf_51), (52, c_M_offOf_52), (152, c_M_offOf_152), (154, c_M_offOf_154)]
theorem j_M_offOf_8 {R : Nat → Nat → Nat → eg_Lo → List Value → List eg_E → Prop} {f pc0 : Nat} : eg_run rm R Q T_M_offOf (f + 1) 8 kc ks loc st h = wps rm (eg_run rm R Q T_M_offOf f) Q c_M_offOf_8 kc ks loc st h := rfl
theorem j_M_offOf_9 {R : Nat → Nat → Nat → eg_Lo → List Value → List eg_E → Prop} {f pc0 : Nat} : eg_run rm R Q T_M_offOf (f + 1) 9 kc ks loc st h = wps rm (eg_run rm R Q T_M_offOf f) Q c_M_offOf_9 kc ks loc st h := rfl
theorem j_M_offOf_19 {R : Nat → Nat → Nat → eg_Lo → List Value → List eg_E → Prop} {f pc0 : Nat} : eg_run rm R Q T_M_offOf (f + 1) 19 kc ks loc st h = wps rm (eg_run rm R Q T_M_offOf f) Q c_M_offOf_19 kc ks loc st h := rfl
theorem j_M_offOf_20 {R : Nat → Nat → Nat → eg_Lo → List Value → List eg_E → Prop} {f pc0 : Nat} : eg_run rm R Q T_M_offOf (f + 1) 20 kc ks loc st h = wps rm (eg_run rm R Q T_M_offOf f) Q c_M_offOf_20 kc ks loc st h := rfl
theorem j_M_offOf_35 {R : Nat → Nat → Nat → eg_Lo → List Value → List eg_E → Prop} {f pc0 : Nat} : eg_run rm R Q T_M_offOf (f + 1) 35 kc ks loc st h = wps rm (eg_run rm R Q T_M_offOf f) Q c_M_offOf_35 kc ks loc st h := rfl
theorem j_M_offOf_36 {R : Nat → Nat → Nat → eg_Lo → List Value → List eg_E → Prop} {f pc0 : Nat} : eg_run rm R Q T_M_offOf (f + 1) 36 kc ks loc st h = wps rm (eg_run rm R Q T_M_offOf f) Q c_M_offOf_36 kc ks loc st h := rfl
theorem j_M_offOf_51 {R : Nat → Nat → Nat → eg_Lo → List Value → List eg_E → Prop} {f pc0 : Nat} : eg_run rm R Q T_M_offOf (f + 1) 51 kc ks loc st h = wps rm (eg_run rm R Q T_M_offOf f) Q c_M_offOf_51 kc ks loc st h := rfl
theorem j_M_offOf_52 {R : Nat → Nat → Nat → eg_Lo → List Value → List eg_E → Prop} {f pc0 : Nat} : eg_run rm R Q T_M_offOf (f + 1) 52 kc ks loc st h = wps rm (eg_run rm R Q T_M_offOf f) Q c_M_offOf_52 kc ks loc st h := rfl
theorem j_M_offOf_152 {R : Nat → Nat → Nat → eg_Lo → List Value → List eg_E → Prop} {f pc0 : Nat} : eg_run rm R Q T_M_offOf (f + 1) 152 kc ks loc st h = wps rm (eg_run rm R Q T_M_offOf f) Q c_M_offOf_152 kc ks loc st h := rfl
theorem j_M_offOf_154 {R : Nat → Nat → Nat → eg_Lo → List Value → List eg_E → Prop} {f pc0 : Nat} : eg_run rm R Q T_M_offOf (f + 1) 154 kc ks loc st h = wps rm (eg_run rm R Q T_M_offOf f) Q c_M_offOf_154 kc ks loc st h := rfl
end
theorem q_M_offOf : (T_M_offOf.all fun q => eg_seq m_M_offOf q.1 q.2) = true := by decide +kernel
theorem b_M_offOf {as : List Value} {h : List eg_E} {Q : Option Value → List eg_E → Prop} (hf : (eg_fl as).length ≤ 11) (hw : wps (eg_rm m_M_offOf) (eg_run (eg_rm m_M_offOf) (eg_R m_M_offOf Q (h.length + 0)) Q T_M_offOf 12) Q c_M_offOf_0 0 0 (eg_entry 11 as) [] h) : eg_Runs n_M_offOf as h Q := eg_begin (d := m_M_offOf) rfl (by decide) (by decide +kernel) q_M_offOf hf hw
/-! ===== M_held_I ===== -/
def c_M_held_I_27 : List eg_I := .inl (27, 1, .ireturn, 0, 0) :: []
def c_M_held_I_26 : List eg_I := .inl (26, 1, .iload 0, 0, 0) :: c_M_held_I_27
def c_M_held_I_23 : List eg_I := .inl (23, 3, .goto (4), 27, 0) :: []
def c_M_held_I_20 : List eg_I := .inl (20, 3, .iconst (300), 0, 0) :: c_M_held_I_23
def c_M_held_I_17 : List eg_I := .inl (17, 3, .if_icmp .le (9), 26, 0) :: c_M_held_I_20
def c_M_held_I_14 : List eg_I := .inl (14, 3, .iconst (300), 0, 0) :: c_M_held_I_17
def c_M_held_I_13 : List eg_I := .inl (13, 1, .iload 0, 0, 0) :: c_M_held_I_14
def c_M_held_I_10 : List eg_I := .inl (10, 3, .goto (17), 27, 0) :: []
def c_M_held_I_7 : List eg_I := .inl (7, 3, .iconst (-300), 0, 0) :: c_M_held_I_10
def c_M_held_I_4 : List eg_I := .inl (4, 3, .if_icmp .ge (9), 13, 0) :: c_M_held_I_7
def c_M_held_I_1 : List eg_I := .inl (1, 3, .iconst (-300), 0, 0) :: c_M_held_I_4
def c_M_held_I_0 : List eg_I := .inl (0, 1, .iload 0, 0, 0) :: c_M_held_I_1
section
variable {rm : Room} {K : Nat → Nat → Nat → eg_Lo → List Value → List eg_E → Prop} {Q : Option Value → List eg_E → Prop} {kc ks : Nat} {loc : eg_Lo} {st : List Value} {h : List eg_E}
theorem s_M_held_I_0 {x : Int32} {l : eg_Lo} : wps rm K Q c_M_held_I_0 kc ks (some (.int x) :: l) (st) h = wps rm K Q c_M_held_I_1 kc ks (some (.int x) :: l) (.int x :: st) h := rfl
theorem s_M_held_I_1  : wps rm K Q c_M_held_I_1 kc ks loc (st) h = wps rm K Q c_M_held_I_4 kc ks loc (.int (-300) :: st) h := rfl
theorem s_M_held_I_4 {x y : Int32} : wps rm K Q c_M_held_I_4 kc ks loc (.int y :: .int x :: st) h = ((y ≤ x → K 13 kc ks loc st h) ∧ (¬ y ≤ x → wps rm K Q c_M_held_I_7 kc ks loc (st) h)) := rfl
theorem s_M_held_I_7  : wps rm K Q c_M_held_I_7 kc ks loc (st) h = wps rm K Q c_M_held_I_10 kc ks loc (.int (-300) :: st) h := rfl
theorem s_M_held_I_10  : wps rm K Q c_M_held_I_10 kc ks loc (st) h = K 27 kc ks loc st h := rfl
theorem s_M_held_I_13 {x : Int32} {l : eg_Lo} : wps rm K Q c_M_held_I_13 kc ks (some (.int x) :: l) (st) h = wps rm K Q c_M_held_I_14 kc ks (some (.int x) :: l) (.int x :: st) h := rfl
theorem s_M_held_I_14  : wps rm K Q c_M_held_I_14 kc ks loc (st) h = wps rm K Q c_M_held_I_17 kc ks loc (.int (300) :: st) h := rfl
theorem s_M_held_I_17 {x y : Int32} : wps rm K Q c_M_held_I_17 kc ks loc (.int y :: .int x :: st) h = ((x ≤ y → K 26 kc ks loc st h) ∧ (¬ x ≤ y → wps rm K Q c_M_held_I_20 kc ks loc (st) h)) := rfl
theorem s_M_held_I_20  : wps rm K Q c_M_held_I_20 kc ks loc (st) h = wps rm K Q c_M_held_I_23 kc ks loc (.int (300) :: st) h := rfl
theorem s_M_held_I_23  : wps rm K Q c_M_held_I_23 kc ks loc (st) h = K 27 kc ks loc st h := rfl
theorem s_M_held_I_26 {x : Int32} {l : eg_Lo} : wps rm K Q c_M_held_I_26 kc ks (some (.int x) :: l) (st) h = wps rm K Q c_M_held_I_27 kc ks (some (.int x) :: l) (.int x :: st) h := rfl
theorem s_M_held_I_27 {x : Int32} : wps rm K Q c_M_held_I_27 kc ks loc ([.int x]) h = (kc = rm.cells ∧ (0 = 1 → x = 0 ∨ x = 1) ∧ Q (some (.int x)) h) := rfl
def T_M_held_I : List (Nat × List eg_I) := [(13, c_M_held_I_13), (26, c_M_held_I_26), (27, c_M_held_I_27)]
theorem j_M_held_I_13 {R : Nat → Nat → Nat → eg_Lo → List Value → List eg_E → Prop} {f pc0 : Nat} : eg_run rm R Q T_M_held_I (f + 1) 13 kc ks loc st h = wps rm (eg_run rm R Q T_M_held_I f) Q c_M_held_I_13 kc ks loc st h := rfl
theorem j_M_held_I_26 {R : Nat → Nat → Nat → eg_Lo → List Value → List eg_E → Prop} {f pc0 : Nat} : eg_run rm R Q T_M_held_I (f + 1) 26 kc ks loc st h = wps rm (eg_run rm R Q T_M_held_I f) Q c_M_held_I_26 kc ks loc st h := rfl
theorem j_M_held_I_27 {R : Nat → Nat → Nat → eg_Lo → List Value → List eg_E → Prop} {f pc0 : Nat} : eg_run rm R Q T_M_held_I (f + 1) 27 kc ks loc st h = wps rm (eg_run rm R Q T_M_held_I f) Q c_M_held_I_27 kc ks loc st h := rfl
end
theorem q_M_held_I : (T_M_held_I.all fun q => eg_seq m_M_held_I q.1 q.2) = true := by decide +kernel
theorem b_M_held_I {as : List Value} {h : List eg_E} {Q : Option Value → List eg_E → Prop} (hf : (eg_fl as).length ≤ 1) (hw : wps (eg_rm m_M_held_I) (eg_run (eg_rm m_M_held_I) (eg_R m_M_held_I Q (h.length + 0)) Q T_M_held_I 5) Q c_M_held_I_0 0 0 (eg_entry 1 as) [] h) : eg_Runs n_M_held_I as h Q := eg_begin (d := m_M_held_I) rfl (by decide) (by decide +kernel) q_M_held_I hf hw
/-! ===== M_mend ===== -/
def c_M_mend_174 : List eg_I := .inl (174, 1, .lreturn, 0, 0) :: []
def c_M_mend_173 : List eg_I := .inl (173, 1, .i2l, 0, 0) :: c_M_mend_174
def c_M_mend_172 : List eg_I := .inl (172, 1, .iload 2, 0, 0) :: c_M_mend_173
def c_M_mend_169 : List eg_I := .inl (169, 3, .goto (-150), 19, 0) :: []
def c_M_mend_166 : List eg_I := .inl (166, 3, .iinc 3 (1), 0, 0) :: c_M_mend_169
def c_M_mend_165 : List eg_I := .inl (165, 1, .iastore, 0, 0) :: c_M_mend_166
def c_M_mend_163 : List eg_I := .inl (163, 2, .iload 6, 0, 0) :: c_M_mend_165
def c_M_mend_161 : List eg_I := .inl (161, 2, .iload 4, 0, 0) :: c_M_mend_163
def c_M_mend_158 : List eg_I := .inl (158, 3, .getfield 16, 12, 2) :: c_M_mend_161
def c_M_mend_157 : List eg_I := .inl (157, 1, .aload 0, 0, 0) :: c_M_mend_158
def c_M_mend_156 : List eg_I := .inl (156, 1, .iastore, 0, 0) :: c_M_mend_157
def c_M_mend_154 : List eg_I := .inl (154, 2, .iload 5, 0, 0) :: c_M_mend_156
def c_M_mend_152 : List eg_I := .inl (152, 2, .iload 4, 0, 0) :: c_M_mend_154
def c_M_mend_149 : List eg_I := .inl (149, 3, .getfield 13, 12, 1) :: c_M_mend_152
def c_M_mend_148 : List eg_I := .inl (148, 1, .aload 0, 0, 0) :: c_M_mend_149
def c_M_mend_147 : List eg_I := .inl (147, 1, .istore 2, 0, 0) :: c_M_mend_148
def c_M_mend_146 : List eg_I := .inl (146, 1, .iadd, 0, 0) :: c_M_mend_147
def c_M_mend_145 : List eg_I := .inl (145, 1, .iconst (0), 0, 0) :: c_M_mend_146
def c_M_mend_142 : List eg_I := .inl (142, 3, .goto (4), 146, 0) :: []
def c_M_mend_141 : List eg_I := .inl (141, 1, .iconst (1), 0, 0) :: c_M_mend_142
def c_M_mend_138 : List eg_I := .inl (138, 3, .if_icmp .eq (7), 145, 0) :: c_M_mend_141
def c_M_mend_137 : List eg_I := .inl (137, 1, .iaload, 0, 0) :: c_M_mend_138
def c_M_mend_135 : List eg_I := .inl (135, 2, .iload 4, 0, 0) :: c_M_mend_137
def c_M_mend_132 : List eg_I := .inl (132, 3, .getfield 16, 12, 2) :: c_M_mend_135
def c_M_mend_131 : List eg_I := .inl (131, 1, .aload 0, 0, 0) :: c_M_mend_132
def c_M_mend_129 : List eg_I := .inl (129, 2, .iload 6, 0, 0) :: c_M_mend_131
def c_M_mend_126 : List eg_I := .inl (126, 3, .if_icmp .ne (15), 141, 0) :: c_M_mend_129
def c_M_mend_125 : List eg_I := .inl (125, 1, .iaload, 0, 0) :: c_M_mend_126
def c_M_mend_123 : List eg_I := .inl (123, 2, .iload 4, 0, 0) :: c_M_mend_125
def c_M_mend_120 : List eg_I := .inl (120, 3, .getfield 13, 12, 1) :: c_M_mend_123
def c_M_mend_119 : List eg_I := .inl (119, 1, .aload 0, 0, 0) :: c_M_mend_120
def c_M_mend_117 : List eg_I := .inl (117, 2, .iload 5, 0, 0) :: c_M_mend_119
def c_M_mend_116 : List eg_I := .inl (116, 1, .iload 2, 0, 0) :: c_M_mend_117
def c_M_mend_114 : List eg_I := .inl (114, 2, .istore 6, 0, 0) :: c_M_mend_116
def c_M_mend_111 : List eg_I := .inr (111, 0, 133, n_M_held_I, 1, 12, 0, 0) :: c_M_mend_114
def c_M_mend_110 : List eg_I := .inl (110, 1, .isub, 0, 0) :: c_M_mend_111
def c_M_mend_107 : List eg_I := .inr (107, 1, 129, n_M_offOf, 3, 12, 0, 0) :: c_M_mend_110
def c_M_mend_104 : List eg_I := .inl (104, 3, .getfield 29, 12, 6) :: c_M_mend_107
def c_M_mend_103 : List eg_I := .inl (103, 1, .aload 0, 0, 0) :: c_M_mend_104
def c_M_mend_102 : List eg_I := .inl (102, 1, .iaload, 0, 0) :: c_M_mend_103
def c_M_mend_100 : List eg_I := .inl (100, 2, .iload 4, 0, 0) :: c_M_mend_102
def c_M_mend_97 : List eg_I := .inl (97, 3, .getfield 16, 12, 2) :: c_M_mend_100
def c_M_mend_96 : List eg_I := .inl (96, 1, .aload 0, 0, 0) :: c_M_mend_97
def c_M_mend_95 : List eg_I := .inl (95, 1, .iaload, 0, 0) :: c_M_mend_96
def c_M_mend_93 : List eg_I := .inl (93, 2, .iload 4, 0, 0) :: c_M_mend_95
def c_M_mend_90 : List eg_I := .inl (90, 3, .getfield 13, 12, 1) :: c_M_mend_93
def c_M_mend_89 : List eg_I := .inl (89, 1, .aload 0, 0, 0) :: c_M_mend_90
def c_M_mend_88 : List eg_I := .inl (88, 1, .aload 0, 0, 0) :: c_M_mend_89
def c_M_mend_87 : List eg_I := .inl (87, 1, .iaload, 0, 0) :: c_M_mend_88
def c_M_mend_85 : List eg_I := .inl (85, 2, .iload 4, 0, 0) :: c_M_mend_87
def c_M_mend_82 : List eg_I := .inl (82, 3, .getfield 16, 12, 2) :: c_M_mend_85
def c_M_mend_81 : List eg_I := .inl (81, 1, .aload 0, 0, 0) :: c_M_mend_82
def c_M_mend_79 : List eg_I := .inl (79, 2, .istore 5, 0, 0) :: c_M_mend_81
def c_M_mend_76 : List eg_I := .inr (76, 0, 133, n_M_held_I, 1, 12, 0, 0) :: c_M_mend_79
def c_M_mend_75 : List eg_I := .inl (75, 1, .isub, 0, 0) :: c_M_mend_76
def c_M_mend_72 : List eg_I := .inr (72, 1, 129, n_M_offOf, 3, 12, 0, 0) :: c_M_mend_75
def c_M_mend_69 : List eg_I := .inl (69, 3, .getfield 26, 12, 5) :: c_M_mend_72
def c_M_mend_68 : List eg_I := .inl (68, 1, .aload 0, 0, 0) :: c_M_mend_69
def c_M_mend_67 : List eg_I := .inl (67, 1, .iaload, 0, 0) :: c_M_mend_68
def c_M_mend_65 : List eg_I := .inl (65, 2, .iload 4, 0, 0) :: c_M_mend_67
def c_M_mend_62 : List eg_I := .inl (62, 3, .getfield 16, 12, 2) :: c_M_mend_65
def c_M_mend_61 : List eg_I := .inl (61, 1, .aload 0, 0, 0) :: c_M_mend_62
def c_M_mend_60 : List eg_I := .inl (60, 1, .iaload, 0, 0) :: c_M_mend_61
def c_M_mend_58 : List eg_I := .inl (58, 2, .iload 4, 0, 0) :: c_M_mend_60
def c_M_mend_55 : List eg_I := .inl (55, 3, .getfield 13, 12, 1) :: c_M_mend_58
def c_M_mend_54 : List eg_I := .inl (54, 1, .aload 0, 0, 0) :: c_M_mend_55
def c_M_mend_53 : List eg_I := .inl (53, 1, .aload 0, 0, 0) :: c_M_mend_54
def c_M_mend_52 : List eg_I := .inl (52, 1, .iaload, 0, 0) :: c_M_mend_53
def c_M_mend_50 : List eg_I := .inl (50, 2, .iload 4, 0, 0) :: c_M_mend_52
def c_M_mend_47 : List eg_I := .inl (47, 3, .getfield 13, 12, 1) :: c_M_mend_50
def c_M_mend_46 : List eg_I := .inl (46, 1, .aload 0, 0, 0) :: c_M_mend_47
def c_M_mend_43 : List eg_I := .inl (43, 3, .ifCond .ne (123), 166, 0) :: c_M_mend_46
def c_M_mend_42 : List eg_I := .inl (42, 1, .baload, 0, 0) :: c_M_mend_43
def c_M_mend_40 : List eg_I := .inl (40, 2, .iload 4, 0, 0) :: c_M_mend_42
def c_M_mend_37 : List eg_I := .inl (37, 3, .getfield 22, 12, 4) :: c_M_mend_40
def c_M_mend_36 : List eg_I := .inl (36, 1, .aload 0, 0, 0) :: c_M_mend_37
def c_M_mend_34 : List eg_I := .inl (34, 2, .istore 4, 0, 0) :: c_M_mend_36
def c_M_mend_31 : List eg_I := .inr (31, 0, 103, n_M_at_II, 2, 12, 0, 0) :: c_M_mend_34
def c_M_mend_30 : List eg_I := .inl (30, 1, .iload 3, 0, 0) :: c_M_mend_31
def c_M_mend_29 : List eg_I := .inl (29, 1, .iload 1, 0, 0) :: c_M_mend_30
def c_M_mend_26 : List eg_I := .inl (26, 3, .if_icmp .ge (146), 172, 0) :: c_M_mend_29
def c_M_mend_25 : List eg_I := .inl (25, 1, .iaload, 0, 0) :: c_M_mend_26
def c_M_mend_24 : List eg_I := .inl (24, 1, .iload 1, 0, 0) :: c_M_mend_25
def c_M_mend_21 : List eg_I := .inl (21, 3, .getfield 9, 12, 0) :: c_M_mend_24
def c_M_mend_20 : List eg_I := .inl (20, 1, .aload 0, 0, 0) :: c_M_mend_21
def c_M_mend_19 : List eg_I := .inl (19, 1, .iload 3, 0, 0) :: c_M_mend_20
def c_M_mend_18 : List eg_I := .inl (18, 1, .istore 3, 0, 0) :: [.inl (19, 0, .nop, 0, 0)]
def c_M_mend_17 : List eg_I := .inl (17, 1, .iconst (0), 0, 0) :: c_M_mend_18
def c_M_mend_16 : List eg_I := .inl (16, 1, .istore 2, 0, 0) :: c_M_mend_17
def c_M_mend_15 : List eg_I := .inl (15, 1, .iconst (0), 0, 0) :: c_M_mend_16
def c_M_mend_14 : List eg_I := .inl (14, 1, .lreturn, 0, 0) :: []
def c_M_mend_11 : List eg_I := .inr (11, 1, 112, n_M_finding, 1, 12, 0, 0) :: c_M_mend_14
def c_M_mend_8 : List eg_I := .inl (8, 3, .sipush (-1000000000000000001), 110, 0) :: c_M_mend_11
def c_M_mend_7 : List eg_I := .inl (7, 1, .aload 0, 0, 0) :: c_M_mend_8
def c_M_mend_4 : List eg_I := .inl (4, 3, .ifCond .ne (11), 15, 0) :: c_M_mend_7
def c_M_mend_1 : List eg_I := .inr (1, 0, 99, n_M_isPart, 1, 12, 0, 0) :: c_M_mend_4
def c_M_mend_0 : List eg_I := .inl (0, 1, .iload 1, 0, 0) :: c_M_mend_1
section
variable {rm : Room} {K : Nat → Nat → Nat → eg_Lo → List Value → List eg_E → Prop} {Q : Option Value → List eg_E → Prop} {kc ks : Nat} {loc : eg_Lo} {st : List Value} {h : List eg_E}
theorem s_M_mend_0 {x : Int32} {l0 : Option Value} {l : eg_Lo} : wps rm K Q c_M_mend_0 kc ks (l0 :: some (.int x) :: l) (st) h = wps rm K Q c_M_mend_1 kc ks (l0 :: some (.int x) :: l) (.int x :: st) h := rfl
theorem s_M_mend_1  {a1 : Value} : wps rm K Q c_M_mend_1 kc ks loc (a1 :: st) h = (st.length ≤ 4 ∧ eg_Cs n_M_isPart [a1] h (fun v h9 => wps rm K Q c_M_mend_4 kc ks loc (v.toList ++ st) h9)) := eg_c0_1
theorem s_M_mend_4 {x : Int32} : wps rm K Q c_M_mend_4 kc ks loc (.int x :: st) h = ((¬ x = 0 → K 15 kc ks loc st h) ∧ (x = 0 → wps rm K Q c_M_mend_7 kc ks loc (st) h)) := rfl
theorem s_M_mend_7 {x : Nat} {l : eg_Lo} : wps rm K Q c_M_mend_7 kc ks (some (.ref x) :: l) (st) h = wps rm K Q c_M_mend_8 kc ks (some (.ref x) :: l) (.ref x :: st) h := rfl
theorem s_M_mend_8  : wps rm K Q c_M_mend_8 kc ks loc (st) h = wps rm K Q c_M_mend_11 kc ks loc (.long (-1000000000000000001) :: st) h := rfl
theorem s_M_mend_11  {a1 : Value} {x : Nat} : wps rm K Q c_M_mend_11 kc ks loc (a1 :: .ref (x + 1) :: st) h = (eg_cls h x 12 ∧ st.length ≤ 4 ∧ eg_Cs n_M_finding (.ref (x + 1) :: [a1]) h (fun v h9 => wps rm K Q c_M_mend_14 kc ks loc (v.toList ++ st) h9)) := eg_c1_1
theorem s_M_mend_14 {x : Int64} : wps rm K Q c_M_mend_14 kc ks loc ([.long x]) h = (kc = rm.cells ∧ Q (some (.long x)) h) := rfl
theorem s_M_mend_15  : wps rm K Q c_M_mend_15 kc ks loc (st) h = wps rm K Q c_M_mend_16 kc ks loc (.int (0) :: st) h := rfl
theorem s_M_mend_16 {x : Int32} : wps rm K Q c_M_mend_16 kc ks loc (.int x :: st) h = wps rm K Q c_M_mend_17 kc ks (eg_set1 loc 2 (.int x)) (st) h := rfl
theorem s_M_mend_17  : wps rm K Q c_M_mend_17 kc ks loc (st) h = wps rm K Q c_M_mend_18 kc ks loc (.int (0) :: st) h := rfl
theorem s_M_mend_18 {x : Int32} : wps rm K Q c_M_mend_18 kc ks loc (.int x :: st) h = K 19 kc ks (eg_set1 loc 3 (.int x)) (st) h := rfl
theorem s_M_mend_19 {x : Int32} {l0 l1 l2 : Option Value} {l : eg_Lo} : wps rm K Q c_M_mend_19 kc ks (l0 :: l1 :: l2 :: some (.int x) :: l) (st) h = wps rm K Q c_M_mend_20 kc ks (l0 :: l1 :: l2 :: some (.int x) :: l) (.int x :: st) h := rfl
theorem s_M_mend_20 {x : Nat} {l : eg_Lo} : wps rm K Q c_M_mend_20 kc ks (some (.ref x) :: l) (st) h = wps rm K Q c_M_mend_21 kc ks (some (.ref x) :: l) (.ref x :: st) h := rfl
theorem s_M_mend_21 {x : Nat} : wps rm K Q c_M_mend_21 kc ks loc (.ref (x + 1) :: st) h = eg_gf h x 12 0 (fun v => wps rm K Q c_M_mend_24 kc ks loc (v :: st) h) := rfl
theorem s_M_mend_24 {x : Int32} {l0 : Option Value} {l : eg_Lo} : wps rm K Q c_M_mend_24 kc ks (l0 :: some (.int x) :: l) (st) h = wps rm K Q c_M_mend_25 kc ks (l0 :: some (.int x) :: l) (.int x :: st) h := rfl
theorem s_M_mend_25 {x : Nat} {i : Int32} : wps rm K Q c_M_mend_25 kc ks loc (.int i :: .ref (x + 1) :: st) h = eg_ia h x i (fun v => wps rm K Q c_M_mend_26 kc ks loc (.int v :: st) h) := rfl
theorem s_M_mend_26 {x y : Int32} : wps rm K Q c_M_mend_26 kc ks loc (.int y :: .int x :: st) h = ((y ≤ x → K 172 kc ks loc st h) ∧ (¬ y ≤ x → wps rm K Q c_M_mend_29 kc ks loc (st) h)) := rfl
theorem s_M_mend_29 {x : Int32} {l0 : Option Value} {l : eg_Lo} : wps rm K Q c_M_mend_29 kc ks (l0 :: some (.int x) :: l) (st) h = wps rm K Q c_M_mend_30 kc ks (l0 :: some (.int x) :: l) (.int x :: st) h := rfl
theorem s_M_mend_30 {x : Int32} {l0 l1 l2 : Option Value} {l : eg_Lo} : wps rm K Q c_M_mend_30 kc ks (l0 :: l1 :: l2 :: some (.int x) :: l) (st) h = wps rm K Q c_M_mend_31 kc ks (l0 :: l1 :: l2 :: some (.int x) :: l) (.int x :: st) h := rfl
theorem s_M_mend_31  {a1 : Value} {a2 : Value} : wps rm K Q c_M_mend_31 kc ks loc (a2 :: a1 :: st) h = (st.length ≤ 4 ∧ eg_Cs n_M_at_II [a1, a2] h (fun v h9 => wps rm K Q c_M_mend_34 kc ks loc (v.toList ++ st) h9)) := eg_c0_2
theorem s_M_mend_34 {x : Int32} : wps rm K Q c_M_mend_34 kc ks loc (.int x :: st) h = wps rm K Q c_M_mend_36 kc ks (eg_set1 loc 4 (.int x)) (st) h := rfl
theorem s_M_mend_36 {x : Nat} {l : eg_Lo} : wps rm K Q c_M_mend_36 kc ks (some (.ref x) :: l) (st) h = wps rm K Q c_M_mend_37 kc ks (some (.ref x) :: l) (.ref x :: st) h := rfl
theorem s_M_mend_37 {x : Nat} : wps rm K Q c_M_mend_37 kc ks loc (.ref (x + 1) :: st) h = eg_gf h x 12 4 (fun v => wps rm K Q c_M_mend_40 kc ks loc (v :: st) h) := rfl
theorem s_M_mend_40 {x : Int32} {l0 l1 l2 l3 : Option Value} {l : eg_Lo} : wps rm K Q c_M_mend_40 kc ks (l0 :: l1 :: l2 :: l3 :: some (.int x) :: l) (st) h = wps rm K Q c_M_mend_42 kc ks (l0 :: l1 :: l2 :: l3 :: some (.int x) :: l) (.int x :: st) h := rfl
theorem s_M_mend_42 {x : Nat} {i : Int32} : wps rm K Q c_M_mend_42 kc ks loc (.int i :: .ref (x + 1) :: st) h = eg_ba h x i (fun v => wps rm K Q c_M_mend_43 kc ks loc (.int v :: st) h) := rfl
theorem s_M_mend_43 {x : Int32} : wps rm K Q c_M_mend_43 kc ks loc (.int x :: st) h = ((¬ x = 0 → K 166 kc ks loc st h) ∧ (x = 0 → wps rm K Q c_M_mend_46 kc ks loc (st) h)) := rfl
theorem s_M_mend_46 {x : Nat} {l : eg_Lo} : wps rm K Q c_M_mend_46 kc ks (some (.ref x) :: l) (st) h = wps rm K Q c_M_mend_47 kc ks (some (.ref x) :: l) (.ref x :: st) h := rfl
theorem s_M_mend_47 {x : Nat} : wps rm K Q c_M_mend_47 kc ks loc (.ref (x + 1) :: st) h = eg_gf h x 12 1 (fun v => wps rm K Q c_M_mend_50 kc ks loc (v :: st) h) := rfl
theorem s_M_mend_50 {x : Int32} {l0 l1 l2 l3 : Option Value} {l : eg_Lo} : wps rm K Q c_M_mend_50 kc ks (l0 :: l1 :: l2 :: l3 :: some (.int x) :: l) (st) h = wps rm K Q c_M_mend_52 kc ks (l0 :: l1 :: l2 :: l3 :: some (.int x) :: l) (.int x :: st) h := rfl
theorem s_M_mend_52 {x : Nat} {i : Int32} : wps rm K Q c_M_mend_52 kc ks loc (.int i :: .ref (x + 1) :: st) h = eg_ia h x i (fun v => wps rm K Q c_M_mend_53 kc ks loc (.int v :: st) h) := rfl
theorem s_M_mend_53 {x : Nat} {l : eg_Lo} : wps rm K Q c_M_mend_53 kc ks (some (.ref x) :: l) (st) h = wps rm K Q c_M_mend_54 kc ks (some (.ref x) :: l) (.ref x :: st) h := rfl
theorem s_M_mend_54 {x : Nat} {l : eg_Lo} : wps rm K Q c_M_mend_54 kc ks (some (.ref x) :: l) (st) h = wps rm K Q c_M_mend_55 kc ks (some (.ref x) :: l) (.ref x :: st) h := rfl
theorem s_M_mend_55 {x : Nat} : wps rm K Q c_M_mend_55 kc ks loc (.ref (x + 1) :: st) h = eg_gf h x 12 1 (fun v => wps rm K Q c_M_mend_58 kc ks loc (v :: st) h) := rfl
theorem s_M_mend_58 {x : Int32} {l0 l1 l2 l3 : Option Value} {l : eg_Lo} : wps rm K Q c_M_mend_58 kc ks (l0 :: l1 :: l2 :: l3 :: some (.int x) :: l) (st) h = wps rm K Q c_M_mend_60 kc ks (l0 :: l1 :: l2 :: l3 :: some (.int x) :: l) (.int x :: st) h := rfl
theorem s_M_mend_60 {x : Nat} {i : Int32} : wps rm K Q c_M_mend_60 kc ks loc (.int i :: .ref (x + 1) :: st) h = eg_ia h x i (fun v => wps rm K Q c_M_mend_61 kc ks loc (.int v :: st) h) := rfl
theorem s_M_mend_61 {x : Nat} {l : eg_Lo} : wps rm K Q c_M_mend_61 kc ks (some (.ref x) :: l) (st) h = wps rm K Q c_M_mend_62 kc ks (some (.ref x) :: l) (.ref x :: st) h := rfl
theorem s_M_mend_62 {x : Nat} : wps rm K Q c_M_mend_62 kc ks loc (.ref (x + 1) :: st) h = eg_gf h x 12 2 (fun v => wps rm K Q c_M_mend_65 kc ks loc (v :: st) h) := rfl
theorem s_M_mend_65 {x : Int32} {l0 l1 l2 l3 : Option Value} {l : eg_Lo} : wps rm K Q c_M_mend_65 kc ks (l0 :: l1 :: l2 :: l3 :: some (.int x) :: l) (st) h = wps rm K Q c_M_mend_67 kc ks (l0 :: l1 :: l2 :: l3 :: some (.int x) :: l) (.int x :: st) h := rfl
theorem s_M_mend_67 {x : Nat} {i : Int32} : wps rm K Q c_M_mend_67 kc ks loc (.int i :: .ref (x + 1) :: st) h = eg_ia h x i (fun v => wps rm K Q c_M_mend_68 kc ks loc (.int v :: st) h) := rfl
theorem s_M_mend_68 {x : Nat} {l : eg_Lo} : wps rm K Q c_M_mend_68 kc ks (some (.ref x) :: l) (st) h = wps rm K Q c_M_mend_69 kc ks (some (.ref x) :: l) (.ref x :: st) h := rfl
theorem s_M_mend_69 {x : Nat} : wps rm K Q c_M_mend_69 kc ks loc (.ref (x + 1) :: st) h = eg_gf h x 12 5 (fun v => wps rm K Q c_M_mend_72 kc ks loc (v :: st) h) := rfl
theorem s_M_mend_72  {a1 : Value} {a2 : Value} {a3 : Value} {x : Nat} : wps rm K Q c_M_mend_72 kc ks loc (a3 :: a2 :: a1 :: .ref (x + 1) :: st) h = (eg_cls h x 12 ∧ st.length ≤ 4 ∧ eg_Cs n_M_offOf (.ref (x + 1) :: [a1, a2, a3]) h (fun v h9 => wps rm K Q c_M_mend_75 kc ks loc (v.toList ++ st) h9)) := eg_c1_3
theorem s_M_mend_75 {x y : Int32} : wps rm K Q c_M_mend_75 kc ks loc (.int y :: .int x :: st) h = wps rm K Q c_M_mend_76 kc ks loc (.int (x - y) :: st) h := rfl
theorem s_M_mend_76  {a1 : Value} : wps rm K Q c_M_mend_76 kc ks loc (a1 :: st) h = (st.length ≤ 4 ∧ eg_Cs n_M_held_I [a1] h (fun v h9 => wps rm K Q c_M_mend_79 kc ks loc (v.toList ++ st) h9)) := eg_c0_1
theorem s_M_mend_79 {x : Int32} : wps rm K Q c_M_mend_79 kc ks loc (.int x :: st) h = wps rm K Q c_M_mend_81 kc ks (eg_set1 loc 5 (.int x)) (st) h := rfl
theorem s_M_mend_81 {x : Nat} {l : eg_Lo} : wps rm K Q c_M_mend_81 kc ks (some (.ref x) :: l) (st) h = wps rm K Q c_M_mend_82 kc ks (some (.ref x) :: l) (.ref x :: st) h := rfl
theorem s_M_mend_82 {x : Nat} : wps rm K Q c_M_mend_82 kc ks loc (.ref (x + 1) :: st) h = eg_gf h x 12 2 (fun v => wps rm K Q c_M_mend_85 kc ks loc (v :: st) h) := rfl
theorem s_M_mend_85 {x : Int32} {l0 l1 l2 l3 : Option Value} {l : eg_Lo} : wps rm K Q c_M_mend_85 kc ks (l0 :: l1 :: l2 :: l3 :: some (.int x) :: l) (st) h = wps rm K Q c_M_mend_87 kc ks (l0 :: l1 :: l2 :: l3 :: some (.int x) :: l) (.int x :: st) h := rfl
theorem s_M_mend_87 {x : Nat} {i : Int32} : wps rm K Q c_M_mend_87 kc ks loc (.int i :: .ref (x + 1) :: st) h = eg_ia h x i (fun v => wps rm K Q c_M_mend_88 kc ks loc (.int v :: st) h) := rfl
theorem s_M_mend_88 {x : Nat} {l : eg_Lo} : wps rm K Q c_M_mend_88 kc ks (some (.ref x) :: l) (st) h = wps rm K Q c_M_mend_89 kc ks (some (.ref x) :: l) (.ref x :: st) h := rfl
theorem s_M_mend_89 {x : Nat} {l : eg_Lo} : wps rm K Q c_M_mend_89 kc ks (some (.ref x) :: l) (st) h = wps rm K Q c_M_mend_90 kc ks (some (.ref x) :: l) (.ref x :: st) h := rfl
theorem s_M_mend_90 {x : Nat} : wps rm K Q c_M_mend_90 kc ks loc (.ref (x + 1) :: st) h = eg_gf h x 12 1 (fun v => wps rm K Q c_M_mend_93 kc ks loc (v :: st) h) := rfl
theorem s_M_mend_93 {x : Int32} {l0 l1 l2 l3 : Option Value} {l : eg_Lo} : wps rm K Q c_M_mend_93 kc ks (l0 :: l1 :: l2 :: l3 :: some (.int x) :: l) (st) h = wps rm K Q c_M_mend_95 kc ks (l0 :: l1 :: l2 :: l3 :: some (.int x) :: l) (.int x :: st) h := rfl
theorem s_M_mend_95 {x : Nat} {i : Int32} : wps rm K Q c_M_mend_95 kc ks loc (.int i :: .ref (x + 1) :: st) h = eg_ia h x i (fun v => wps rm K Q c_M_mend_96 kc ks loc (.int v :: st) h) := rfl
theorem s_M_mend_96 {x : Nat} {l : eg_Lo} : wps rm K Q c_M_mend_96 kc ks (some (.ref x) :: l) (st) h = wps rm K Q c_M_mend_97 kc ks (some (.ref x) :: l) (.ref x :: st) h := rfl
theorem s_M_mend_97 {x : Nat} : wps rm K Q c_M_mend_97 kc ks loc (.ref (x + 1) :: st) h = eg_gf h x 12 2 (fun v => wps rm K Q c_M_mend_100 kc ks loc (v :: st) h) := rfl
theorem s_M_mend_100 {x : Int32} {l0 l1 l2 l3 : Option Value} {l : eg_Lo} : wps rm K Q c_M_mend_100 kc ks (l0 :: l1 :: l2 :: l3 :: some (.int x) :: l) (st) h = wps rm K Q c_M_mend_102 kc ks (l0 :: l1 :: l2 :: l3 :: some (.int x) :: l) (.int x :: st) h := rfl
theorem s_M_mend_102 {x : Nat} {i : Int32} : wps rm K Q c_M_mend_102 kc ks loc (.int i :: .ref (x + 1) :: st) h = eg_ia h x i (fun v => wps rm K Q c_M_mend_103 kc ks loc (.int v :: st) h) := rfl
theorem s_M_mend_103 {x : Nat} {l : eg_Lo} : wps rm K Q c_M_mend_103 kc ks (some (.ref x) :: l) (st) h = wps rm K Q c_M_mend_104 kc ks (some (.ref x) :: l) (.ref x :: st) h := rfl
theorem s_M_mend_104 {x : Nat} : wps rm K Q c_M_mend_104 kc ks loc (.ref (x + 1) :: st) h = eg_gf h x 12 6 (fun v => wps rm K Q c_M_mend_107 kc ks loc (v :: st) h) := rfl
theorem s_M_mend_107  {a1 : Value} {a2 : Value} {a3 : Value} {x : Nat} : wps rm K Q c_M_mend_107 kc ks loc (a3 :: a2 :: a1 :: .ref (x + 1) :: st) h = (eg_cls h x 12 ∧ st.length ≤ 4 ∧ eg_Cs n_M_offOf (.ref (x + 1) :: [a1, a2, a3]) h (fun v h9 => wps rm K Q c_M_mend_110 kc ks loc (v.toList ++ st) h9)) := eg_c1_3
theorem s_M_mend_110 {x y : Int32} : wps rm K Q c_M_mend_110 kc ks loc (.int y :: .int x :: st) h = wps rm K Q c_M_mend_111 kc ks loc (.int (x - y) :: st) h := rfl
theorem s_M_mend_111  {a1 : Value} : wps rm K Q c_M_mend_111 kc ks loc (a1 :: st) h = (st.length ≤ 4 ∧ eg_Cs n_M_held_I [a1] h (fun v h9 => wps rm K Q c_M_mend_114 kc ks loc (v.toList ++ st) h9)) := eg_c0_1
theorem s_M_mend_114 {x : Int32} : wps rm K Q c_M_mend_114 kc ks loc (.int x :: st) h = wps rm K Q c_M_mend_116 kc ks (eg_set1 loc 6 (.int x)) (st) h := rfl
theorem s_M_mend_116 {x : Int32} {l0 l1 : Option Value} {l : eg_Lo} : wps rm K Q c_M_mend_116 kc ks (l0 :: l1 :: some (.int x) :: l) (st) h = wps rm K Q c_M_mend_117 kc ks (l0 :: l1 :: some (.int x) :: l) (.int x :: st) h := rfl
theorem s_M_mend_117 {x : Int32} {l0 l1 l2 l3 l4 : Option Value} {l : eg_Lo} : wps rm K Q c_M_mend_117 kc ks (l0 :: l1 :: l2 :: l3 :: l4 :: some (.int x) :: l) (st) h = wps rm K Q c_M_mend_119 kc ks (l0 :: l1 :: l2 :: l3 :: l4 :: some (.int x) :: l) (.int x :: st) h := rfl
theorem s_M_mend_119 {x : Nat} {l : eg_Lo} : wps rm K Q c_M_mend_119 kc ks (some (.ref x) :: l) (st) h = wps rm K Q c_M_mend_120 kc ks (some (.ref x) :: l) (.ref x :: st) h := rfl
theorem s_M_mend_120 {x : Nat} : wps rm K Q c_M_mend_120 kc ks loc (.ref (x + 1) :: st) h = eg_gf h x 12 1 (fun v => wps rm K Q c_M_mend_123 kc ks loc (v :: st) h) := rfl
theorem s_M_mend_123 {x : Int32} {l0 l1 l2 l3 : Option Value} {l : eg_Lo} : wps rm K Q c_M_mend_123 kc ks (l0 :: l1 :: l2 :: l3 :: some (.int x) :: l) (st) h = wps rm K Q c_M_mend_125 kc ks (l0 :: l1 :: l2 :: l3 :: some (.int x) :: l) (.int x :: st) h := rfl
theorem s_M_mend_125 {x : Nat} {i : Int32} : wps rm K Q c_M_mend_125 kc ks loc (.int i :: .ref (x + 1) :: st) h = eg_ia h x i (fun v => wps rm K Q c_M_mend_126 kc ks loc (.int v :: st) h) := rfl
theorem s_M_mend_126 {x y : Int32} : wps rm K Q c_M_mend_126 kc ks loc (.int y :: .int x :: st) h = ((¬ x = y → K 141 kc ks loc st h) ∧ (x = y → wps rm K Q c_M_mend_129 kc ks loc (st) h)) := rfl
theorem s_M_mend_129 {x : Int32} {l0 l1 l2 l3 l4 l5 : Option Value} {l : eg_Lo} : wps rm K Q c_M_mend_129 kc ks (l0 :: l1 :: l2 :: l3 :: l4 :: l5 :: some (.int x) :: l) (st) h = wps rm K Q c_M_mend_131 kc ks (l0 :: l1 :: l2 :: l3 :: l4 :: l5 :: some (.int x) :: l) (.int x :: st) h := rfl
theorem s_M_mend_131 {x : Nat} {l : eg_Lo} : wps rm K Q c_M_mend_131 kc ks (some (.ref x) :: l) (st) h = wps rm K Q c_M_mend_132 kc ks (some (.ref x) :: l) (.ref x :: st) h := rfl
theorem s_M_mend_132 {x : Nat} : wps rm K Q c_M_mend_132 kc ks loc (.ref (x + 1) :: st) h = eg_gf h x 12 2 (fun v => wps rm K Q c_M_mend_135 kc ks loc (v :: st) h) := rfl
theorem s_M_mend_135 {x : Int32} {l0 l1 l2 l3 : Option Value} {l : eg_Lo} : wps rm K Q c_M_mend_135 kc ks (l0 :: l1 :: l2 :: l3 :: some (.int x) :: l) (st) h = wps rm K Q c_M_mend_137 kc ks (l0 :: l1 :: l2 :: l3 :: some (.int x) :: l) (.int x :: st) h := rfl
theorem s_M_mend_137 {x : Nat} {i : Int32} : wps rm K Q c_M_mend_137 kc ks loc (.int i :: .ref (x + 1) :: st) h = eg_ia h x i (fun v => wps rm K Q c_M_mend_138 kc ks loc (.int v :: st) h) := rfl
theorem s_M_mend_138 {x y : Int32} : wps rm K Q c_M_mend_138 kc ks loc (.int y :: .int x :: st) h = ((x = y → K 145 kc ks loc st h) ∧ (¬ x = y → wps rm K Q c_M_mend_141 kc ks loc (st) h)) := rfl
theorem s_M_mend_141  : wps rm K Q c_M_mend_141 kc ks loc (st) h = wps rm K Q c_M_mend_142 kc ks loc (.int (1) :: st) h := rfl
theorem s_M_mend_142  : wps rm K Q c_M_mend_142 kc ks loc (st) h = K 146 kc ks loc st h := rfl
theorem s_M_mend_145  : wps rm K Q c_M_mend_145 kc ks loc (st) h = wps rm K Q c_M_mend_146 kc ks loc (.int (0) :: st) h := rfl
theorem s_M_mend_146 {x y : Int32} : wps rm K Q c_M_mend_146 kc ks loc (.int y :: .int x :: st) h = wps rm K Q c_M_mend_147 kc ks loc (.int (x + y) :: st) h := rfl
theorem s_M_mend_147 {x : Int32} : wps rm K Q c_M_mend_147 kc ks loc (.int x :: st) h = wps rm K Q c_M_mend_148 kc ks (eg_set1 loc 2 (.int x)) (st) h := rfl
theorem s_M_mend_148 {x : Nat} {l : eg_Lo} : wps rm K Q c_M_mend_148 kc ks (some (.ref x) :: l) (st) h = wps rm K Q c_M_mend_149 kc ks (some (.ref x) :: l) (.ref x :: st) h := rfl
theorem s_M_mend_149 {x : Nat} : wps rm K Q c_M_mend_149 kc ks loc (.ref (x + 1) :: st) h = eg_gf h x 12 1 (fun v => wps rm K Q c_M_mend_152 kc ks loc (v :: st) h) := rfl
theorem s_M_mend_152 {x : Int32} {l0 l1 l2 l3 : Option Value} {l : eg_Lo} : wps rm K Q c_M_mend_152 kc ks (l0 :: l1 :: l2 :: l3 :: some (.int x) :: l) (st) h = wps rm K Q c_M_mend_154 kc ks (l0 :: l1 :: l2 :: l3 :: some (.int x) :: l) (.int x :: st) h := rfl
theorem s_M_mend_154 {x : Int32} {l0 l1 l2 l3 l4 : Option Value} {l : eg_Lo} : wps rm K Q c_M_mend_154 kc ks (l0 :: l1 :: l2 :: l3 :: l4 :: some (.int x) :: l) (st) h = wps rm K Q c_M_mend_156 kc ks (l0 :: l1 :: l2 :: l3 :: l4 :: some (.int x) :: l) (.int x :: st) h := rfl
theorem s_M_mend_156 {x : Nat} {i : Int32} {v : Int32} : wps rm K Q c_M_mend_156 kc ks loc (.int v :: .int i :: .ref (x + 1) :: st) h = eg_is h x i v (fun h9 => wps rm K Q c_M_mend_157 kc ks loc (st) h9) := rfl
theorem s_M_mend_157 {x : Nat} {l : eg_Lo} : wps rm K Q c_M_mend_157 kc ks (some (.ref x) :: l) (st) h = wps rm K Q c_M_mend_158 kc ks (some (.ref x) :: l) (.ref x :: st) h := rfl
theorem s_M_mend_158 {x : Nat} : wps rm K Q c_M_mend_158 kc ks loc (.ref (x + 1) :: st) h = eg_gf h x 12 2 (fun v => wps rm K Q c_M_mend_161 kc ks loc (v :: st) h) := rfl
theorem s_M_mend_161 {x : Int32} {l0 l1 l2 l3 : Option Value} {l : eg_Lo} : wps rm K Q c_M_mend_161 kc ks (l0 :: l1 :: l2 :: l3 :: some (.int x) :: l) (st) h = wps rm K Q c_M_mend_163 kc ks (l0 :: l1 :: l2 :: l3 :: some (.int x) :: l) (.int x :: st) h := rfl
theorem s_M_mend_163 {x : Int32} {l0 l1 l2 l3 l4 l5 : Option Value} {l : eg_Lo} : wps rm K Q c_M_mend_163 kc ks (l0 :: l1 :: l2 :: l3 :: l4 :: l5 :: some (.int x) :: l) (st) h = wps rm K Q c_M_mend_165 kc ks (l0 :: l1 :: l2 :: l3 :: l4 :: l5 :: some (.int x) :: l) (.int x :: st) h := rfl
theorem s_M_mend_165 {x : Nat} {i : Int32} {v : Int32} : wps rm K Q c_M_mend_165 kc ks loc (.int v :: .int i :: .ref (x + 1) :: st) h = eg_is h x i v (fun h9 => wps rm K Q c_M_mend_166 kc ks loc (st) h9) := rfl
theorem s_M_mend_166 {x : Int32} {l0 l1 l2 : Option Value} {l9 : eg_Lo} : wps rm K Q c_M_mend_166 kc ks (l0 :: l1 :: l2 :: some (.int x) :: l9) (st) h = wps rm K Q c_M_mend_169 kc ks (eg_set1 (l0 :: l1 :: l2 :: some (.int x) :: l9) 3 (.int (x + (1)))) (st) h := rfl
theorem s_M_mend_169  : wps rm K Q c_M_mend_169 kc ks loc (st) h = K 19 kc ks loc st h := rfl
theorem s_M_mend_172 {x : Int32} {l0 l1 : Option Value} {l : eg_Lo} : wps rm K Q c_M_mend_172 kc ks (l0 :: l1 :: some (.int x) :: l) (st) h = wps rm K Q c_M_mend_173 kc ks (l0 :: l1 :: some (.int x) :: l) (.int x :: st) h := rfl
theorem s_M_mend_173 {x : Int32} : wps rm K Q c_M_mend_173 kc ks loc (.int x :: st) h = wps rm K Q c_M_mend_174 kc ks loc (.long (x.toInt64) :: st) h := rfl
theorem s_M_mend_174 {x : Int64} : wps rm K Q c_M_mend_174 kc ks loc ([.long x]) h = (kc = rm.cells ∧ Q (some (.long x)) h) := rfl
def T_M_mend : List (Nat × List eg_I) := [(15, c_M_mend_15), (141, c_M_mend_141), (145, c_M_mend_145), (146, c_M_mend_146), (166, c_M_mend_166), (172, c_M_mend_172)]
theorem j_M_mend_15 {R : Nat → Nat → Nat → eg_Lo → List Value → List eg_E → Prop} {f pc0 : Nat} : eg_run rm R Q T_M_mend (f + 1) 15 kc ks loc st h = wps rm (eg_run rm R Q T_M_mend f) Q c_M_mend_15 kc ks loc st h := rfl
theorem j_M_mend_141 {R : Nat → Nat → Nat → eg_Lo → List Value → List eg_E → Prop} {f pc0 : Nat} : eg_run rm R Q T_M_mend (f + 1) 141 kc ks loc st h = wps rm (eg_run rm R Q T_M_mend f) Q c_M_mend_141 kc ks loc st h := rfl
theorem j_M_mend_145 {R : Nat → Nat → Nat → eg_Lo → List Value → List eg_E → Prop} {f pc0 : Nat} : eg_run rm R Q T_M_mend (f + 1) 145 kc ks loc st h = wps rm (eg_run rm R Q T_M_mend f) Q c_M_mend_145 kc ks loc st h := rfl
theorem j_M_mend_146 {R : Nat → Nat → Nat → eg_Lo → List Value → List eg_E → Prop} {f pc0 : Nat} : eg_run rm R Q T_M_mend (f + 1) 146 kc ks loc st h = wps rm (eg_run rm R Q T_M_mend f) Q c_M_mend_146 kc ks loc st h := rfl
theorem j_M_mend_166 {R : Nat → Nat → Nat → eg_Lo → List Value → List eg_E → Prop} {f pc0 : Nat} : eg_run rm R Q T_M_mend (f + 1) 166 kc ks loc st h = wps rm (eg_run rm R Q T_M_mend f) Q c_M_mend_166 kc ks loc st h := rfl
theorem j_M_mend_172 {R : Nat → Nat → Nat → eg_Lo → List Value → List eg_E → Prop} {f pc0 : Nat} : eg_run rm R Q T_M_mend (f + 1) 172 kc ks loc st h = wps rm (eg_run rm R Q T_M_mend f) Q c_M_mend_172 kc ks loc st h := rfl
theorem j_M_mend_19 {R : Nat → Nat → Nat → eg_Lo → List Value → List eg_E → Prop} {f pc0 : Nat} : eg_run rm R Q T_M_mend (f + 1) 19 kc ks loc st h = R 19 kc ks loc st h := rfl
end
theorem q_M_mend : (T_M_mend.all fun q => eg_seq m_M_mend q.1 q.2) = true := by decide +kernel
theorem b_M_mend {as : List Value} {h : List eg_E} {Q : Option Value → List eg_E → Prop} (hf : (eg_fl as).length ≤ 7) (hw : wps (eg_rm m_M_mend) (eg_run (eg_rm m_M_mend) (eg_R m_M_mend Q (h.length + 0)) Q T_M_mend 8) Q c_M_mend_0 0 0 (eg_entry 7 as) [] h) : eg_Runs n_M_mend as h Q := eg_begin (d := m_M_mend) rfl (by decide) (by decide +kernel) q_M_mend hf hw
theorem p_M_mend_19 {Q : Option Value → List eg_E → Prop} {n0 kc ks : Nat} {loc : eg_Lo} {st : List Value} {h : List eg_E} (hw : wps (eg_rm m_M_mend) (eg_run (eg_rm m_M_mend) (eg_R m_M_mend Q n0) Q T_M_mend 8) Q c_M_mend_19 kc ks loc st h) : eg_R m_M_mend Q n0 19 kc ks loc st h := eg_go (by decide +kernel) q_M_mend hw
/-! ===== M_grid ===== -/
def c_M_grid_55 : List eg_I := .inl (55, 1, .lreturn, 0, 0) :: []
def c_M_grid_54 : List eg_I := .inl (54, 1, .sipush (1), 0, 0) :: c_M_grid_55
def c_M_grid_53 : List eg_I := .inl (53, 1, .iastore, 0, 0) :: c_M_grid_54
def c_M_grid_52 : List eg_I := .inl (52, 1, .iload 3, 0, 0) :: c_M_grid_53
def c_M_grid_51 : List eg_I := .inl (51, 1, .iload 1, 0, 0) :: c_M_grid_52
def c_M_grid_48 : List eg_I := .inl (48, 3, .getfield 29, 12, 6) :: c_M_grid_51
def c_M_grid_47 : List eg_I := .inl (47, 1, .aload 0, 0, 0) :: c_M_grid_48
def c_M_grid_46 : List eg_I := .inl (46, 1, .iastore, 0, 0) :: c_M_grid_47
def c_M_grid_45 : List eg_I := .inl (45, 1, .iload 2, 0, 0) :: c_M_grid_46
def c_M_grid_44 : List eg_I := .inl (44, 1, .iload 1, 0, 0) :: c_M_grid_45
def c_M_grid_41 : List eg_I := .inl (41, 3, .getfield 26, 12, 5) :: c_M_grid_44
def c_M_grid_40 : List eg_I := .inl (40, 1, .aload 0, 0, 0) :: c_M_grid_41
def c_M_grid_39 : List eg_I := .inl (39, 1, .lreturn, 0, 0) :: []
def c_M_grid_36 : List eg_I := .inr (36, 1, 112, n_M_finding, 1, 12, 0, 0) :: c_M_grid_39
def c_M_grid_33 : List eg_I := .inl (33, 3, .sipush (-1000000000000000001), 110, 0) :: c_M_grid_36
def c_M_grid_32 : List eg_I := .inl (32, 1, .aload 0, 0, 0) :: c_M_grid_33
def c_M_grid_29 : List eg_I := .inl (29, 3, .ifCond .ne (11), 40, 0) :: c_M_grid_32
def c_M_grid_26 : List eg_I := .inr (26, 0, 95, n_M_isIn, 3, 12, 0, 0) :: c_M_grid_29
def c_M_grid_24 : List eg_I := .inl (24, 2, .iconst (50), 0, 0) :: c_M_grid_26
def c_M_grid_22 : List eg_I := .inl (22, 2, .iconst (-50), 0, 0) :: c_M_grid_24
def c_M_grid_21 : List eg_I := .inl (21, 1, .iload 3, 0, 0) :: c_M_grid_22
def c_M_grid_18 : List eg_I := .inl (18, 3, .ifCond .eq (14), 32, 0) :: c_M_grid_21
def c_M_grid_15 : List eg_I := .inr (15, 0, 95, n_M_isIn, 3, 12, 0, 0) :: c_M_grid_18
def c_M_grid_13 : List eg_I := .inl (13, 2, .iconst (50), 0, 0) :: c_M_grid_15
def c_M_grid_11 : List eg_I := .inl (11, 2, .iconst (-50), 0, 0) :: c_M_grid_13
def c_M_grid_10 : List eg_I := .inl (10, 1, .iload 2, 0, 0) :: c_M_grid_11
def c_M_grid_7 : List eg_I := .inl (7, 3, .ifCond .eq (25), 32, 0) :: c_M_grid_10
def c_M_grid_4 : List eg_I := .inr (4, 0, 95, n_M_isIn, 3, 12, 0, 0) :: c_M_grid_7
def c_M_grid_2 : List eg_I := .inl (2, 2, .iconst (8), 0, 0) :: c_M_grid_4
def c_M_grid_1 : List eg_I := .inl (1, 1, .iconst (0), 0, 0) :: c_M_grid_2
def c_M_grid_0 : List eg_I := .inl (0, 1, .iload 1, 0, 0) :: c_M_grid_1
section
variable {rm : Room} {K : Nat → Nat → Nat → eg_Lo → List Value → List eg_E → Prop} {Q : Option Value → List eg_E → Prop} {kc ks : Nat} {loc : eg_Lo} {st : List Value} {h : List eg_E}
theorem s_M_grid_0 {x : Int32} {l0 : Option Value} {l : eg_Lo} : wps rm K Q c_M_grid_0 kc ks (l0 :: some (.int x) :: l) (st) h = wps rm K Q c_M_grid_1 kc ks (l0 :: some (.int x) :: l) (.int x :: st) h := rfl
theorem s_M_grid_1  : wps rm K Q c_M_grid_1 kc ks loc (st) h = wps rm K Q c_M_grid_2 kc ks loc (.int (0) :: st) h := rfl
theorem s_M_grid_2  : wps rm K Q c_M_grid_2 kc ks loc (st) h = wps rm K Q c_M_grid_4 kc ks loc (.int (8) :: st) h := rfl
theorem s_M_grid_4  {a1 : Value} {a2 : Value} {a3 : Value} : wps rm K Q c_M_grid_4 kc ks loc (a3 :: a2 :: a1 :: st) h = (st.length ≤ 4 ∧ eg_Cs n_M_isIn [a1, a2, a3] h (fun v h9 => wps rm K Q c_M_grid_7 kc ks loc (v.toList ++ st) h9)) := eg_c0_3
theorem s_M_grid_7 {x : Int32} : wps rm K Q c_M_grid_7 kc ks loc (.int x :: st) h = ((x = 0 → K 32 kc ks loc st h) ∧ (¬ x = 0 → wps rm K Q c_M_grid_10 kc ks loc (st) h)) := rfl
theorem s_M_grid_10 {x : Int32} {l0 l1 : Option Value} {l : eg_Lo} : wps rm K Q c_M_grid_10 kc ks (l0 :: l1 :: some (.int x) :: l) (st) h = wps rm K Q c_M_grid_11 kc ks (l0 :: l1 :: some (.int x) :: l) (.int x :: st) h := rfl
theorem s_M_grid_11  : wps rm K Q c_M_grid_11 kc ks loc (st) h = wps rm K Q c_M_grid_13 kc ks loc (.int (-50) :: st) h := rfl
theorem s_M_grid_13  : wps rm K Q c_M_grid_13 kc ks loc (st) h = wps rm K Q c_M_grid_15 kc ks loc (.int (50) :: st) h := rfl
theorem s_M_grid_15  {a1 : Value} {a2 : Value} {a3 : Value} : wps rm K Q c_M_grid_15 kc ks loc (a3 :: a2 :: a1 :: st) h = (st.length ≤ 4 ∧ eg_Cs n_M_isIn [a1, a2, a3] h (fun v h9 => wps rm K Q c_M_grid_18 kc ks loc (v.toList ++ st) h9)) := eg_c0_3
theorem s_M_grid_18 {x : Int32} : wps rm K Q c_M_grid_18 kc ks loc (.int x :: st) h = ((x = 0 → K 32 kc ks loc st h) ∧ (¬ x = 0 → wps rm K Q c_M_grid_21 kc ks loc (st) h)) := rfl
theorem s_M_grid_21 {x : Int32} {l0 l1 l2 : Option Value} {l : eg_Lo} : wps rm K Q c_M_grid_21 kc ks (l0 :: l1 :: l2 :: some (.int x) :: l) (st) h = wps rm K Q c_M_grid_22 kc ks (l0 :: l1 :: l2 :: some (.int x) :: l) (.int x :: st) h := rfl
theorem s_M_grid_22  : wps rm K Q c_M_grid_22 kc ks loc (st) h = wps rm K Q c_M_grid_24 kc ks loc (.int (-50) :: st) h := rfl
theorem s_M_grid_24  : wps rm K Q c_M_grid_24 kc ks loc (st) h = wps rm K Q c_M_grid_26 kc ks loc (.int (50) :: st) h := rfl
theorem s_M_grid_26  {a1 : Value} {a2 : Value} {a3 : Value} : wps rm K Q c_M_grid_26 kc ks loc (a3 :: a2 :: a1 :: st) h = (st.length ≤ 4 ∧ eg_Cs n_M_isIn [a1, a2, a3] h (fun v h9 => wps rm K Q c_M_grid_29 kc ks loc (v.toList ++ st) h9)) := eg_c0_3
theorem s_M_grid_29 {x : Int32} : wps rm K Q c_M_grid_29 kc ks loc (.int x :: st) h = ((¬ x = 0 → K 40 kc ks loc st h) ∧ (x = 0 → wps rm K Q c_M_grid_32 kc ks loc (st) h)) := rfl
theorem s_M_grid_32 {x : Nat} {l : eg_Lo} : wps rm K Q c_M_grid_32 kc ks (some (.ref x) :: l) (st) h = wps rm K Q c_M_grid_33 kc ks (some (.ref x) :: l) (.ref x :: st) h := rfl
theorem s_M_grid_33  : wps rm K Q c_M_grid_33 kc ks loc (st) h = wps rm K Q c_M_grid_36 kc ks loc (.long (-1000000000000000001) :: st) h := rfl
theorem s_M_grid_36  {a1 : Value} {x : Nat} : wps rm K Q c_M_grid_36 kc ks loc (a1 :: .ref (x + 1) :: st) h = (eg_cls h x 12 ∧ st.length ≤ 4 ∧ eg_Cs n_M_finding (.ref (x + 1) :: [a1]) h (fun v h9 => wps rm K Q c_M_grid_39 kc ks loc (v.toList ++ st) h9)) := eg_c1_1
theorem s_M_grid_39 {x : Int64} : wps rm K Q c_M_grid_39 kc ks loc ([.long x]) h = (kc = rm.cells ∧ Q (some (.long x)) h) := rfl
theorem s_M_grid_40 {x : Nat} {l : eg_Lo} : wps rm K Q c_M_grid_40 kc ks (some (.ref x) :: l) (st) h = wps rm K Q c_M_grid_41 kc ks (some (.ref x) :: l) (.ref x :: st) h := rfl
theorem s_M_grid_41 {x : Nat} : wps rm K Q c_M_grid_41 kc ks loc (.ref (x + 1) :: st) h = eg_gf h x 12 5 (fun v => wps rm K Q c_M_grid_44 kc ks loc (v :: st) h) := rfl
theorem s_M_grid_44 {x : Int32} {l0 : Option Value} {l : eg_Lo} : wps rm K Q c_M_grid_44 kc ks (l0 :: some (.int x) :: l) (st) h = wps rm K Q c_M_grid_45 kc ks (l0 :: some (.int x) :: l) (.int x :: st) h := rfl
theorem s_M_grid_45 {x : Int32} {l0 l1 : Option Value} {l : eg_Lo} : wps rm K Q c_M_grid_45 kc ks (l0 :: l1 :: some (.int x) :: l) (st) h = wps rm K Q c_M_grid_46 kc ks (l0 :: l1 :: some (.int x) :: l) (.int x :: st) h := rfl
theorem s_M_grid_46 {x : Nat} {i : Int32} {v : Int32} : wps rm K Q c_M_grid_46 kc ks loc (.int v :: .int i :: .ref (x + 1) :: st) h = eg_is h x i v (fun h9 => wps rm K Q c_M_grid_47 kc ks loc (st) h9) := rfl
theorem s_M_grid_47 {x : Nat} {l : eg_Lo} : wps rm K Q c_M_grid_47 kc ks (some (.ref x) :: l) (st) h = wps rm K Q c_M_grid_48 kc ks (some (.ref x) :: l) (.ref x :: st) h := rfl
theorem s_M_grid_48 {x : Nat} : wps rm K Q c_M_grid_48 kc ks loc (.ref (x + 1) :: st) h = eg_gf h x 12 6 (fun v => wps rm K Q c_M_grid_51 kc ks loc (v :: st) h) := rfl
theorem s_M_grid_51 {x : Int32} {l0 : Option Value} {l : eg_Lo} : wps rm K Q c_M_grid_51 kc ks (l0 :: some (.int x) :: l) (st) h = wps rm K Q c_M_grid_52 kc ks (l0 :: some (.int x) :: l) (.int x :: st) h := rfl
theorem s_M_grid_52 {x : Int32} {l0 l1 l2 : Option Value} {l : eg_Lo} : wps rm K Q c_M_grid_52 kc ks (l0 :: l1 :: l2 :: some (.int x) :: l) (st) h = wps rm K Q c_M_grid_53 kc ks (l0 :: l1 :: l2 :: some (.int x) :: l) (.int x :: st) h := rfl
theorem s_M_grid_53 {x : Nat} {i : Int32} {v : Int32} : wps rm K Q c_M_grid_53 kc ks loc (.int v :: .int i :: .ref (x + 1) :: st) h = eg_is h x i v (fun h9 => wps rm K Q c_M_grid_54 kc ks loc (st) h9) := rfl
theorem s_M_grid_54  : wps rm K Q c_M_grid_54 kc ks loc (st) h = wps rm K Q c_M_grid_55 kc ks loc (.long (1) :: st) h := rfl
theorem s_M_grid_55 {x : Int64} : wps rm K Q c_M_grid_55 kc ks loc ([.long x]) h = (kc = rm.cells ∧ Q (some (.long x)) h) := rfl
def T_M_grid : List (Nat × List eg_I) := [(32, c_M_grid_32), (40, c_M_grid_40)]
theorem j_M_grid_32 {R : Nat → Nat → Nat → eg_Lo → List Value → List eg_E → Prop} {f pc0 : Nat} : eg_run rm R Q T_M_grid (f + 1) 32 kc ks loc st h = wps rm (eg_run rm R Q T_M_grid f) Q c_M_grid_32 kc ks loc st h := rfl
theorem j_M_grid_40 {R : Nat → Nat → Nat → eg_Lo → List Value → List eg_E → Prop} {f pc0 : Nat} : eg_run rm R Q T_M_grid (f + 1) 40 kc ks loc st h = wps rm (eg_run rm R Q T_M_grid f) Q c_M_grid_40 kc ks loc st h := rfl
end
theorem q_M_grid : (T_M_grid.all fun q => eg_seq m_M_grid q.1 q.2) = true := by decide +kernel
theorem b_M_grid {as : List Value} {h : List eg_E} {Q : Option Value → List eg_E → Prop} (hf : (eg_fl as).length ≤ 4) (hw : wps (eg_rm m_M_grid) (eg_run (eg_rm m_M_grid) (eg_R m_M_grid Q (h.length + 0)) Q T_M_grid 4) Q c_M_grid_0 0 0 (eg_entry 4 as) [] h) : eg_Runs n_M_grid as h Q := eg_begin (d := m_M_grid) rfl (by decide) (by decide +kernel) q_M_grid hf hw
/-! ===== M_off ===== -/
def c_M_off_44 : List eg_I := .inl (44, 1, .lreturn, 0, 0) :: []
def c_M_off_43 : List eg_I := .inl (43, 1, .i2l, 0, 0) :: c_M_off_44
def c_M_off_40 : List eg_I := .inr (40, 1, 129, n_M_offOf, 3, 12, 0, 0) :: c_M_off_43
def c_M_off_37 : List eg_I := .inl (37, 3, .getfield 26, 12, 5) :: c_M_off_40
def c_M_off_36 : List eg_I := .inl (36, 1, .aload 0, 0, 0) :: c_M_off_37
def c_M_off_33 : List eg_I := .inl (33, 3, .goto (7), 40, 0) :: []
def c_M_off_30 : List eg_I := .inl (30, 3, .getfield 29, 12, 6) :: c_M_off_33
def c_M_off_29 : List eg_I := .inl (29, 1, .aload 0, 0, 0) :: c_M_off_30
def c_M_off_26 : List eg_I := .inl (26, 3, .ifCond .eq (10), 36, 0) :: c_M_off_29
def c_M_off_25 : List eg_I := .inl (25, 1, .iload 3, 0, 0) :: c_M_off_26
def c_M_off_24 : List eg_I := .inl (24, 1, .iload 2, 0, 0) :: c_M_off_25
def c_M_off_23 : List eg_I := .inl (23, 1, .iload 1, 0, 0) :: c_M_off_24
def c_M_off_22 : List eg_I := .inl (22, 1, .aload 0, 0, 0) :: c_M_off_23
def c_M_off_21 : List eg_I := .inl (21, 1, .lreturn, 0, 0) :: []
def c_M_off_18 : List eg_I := .inr (18, 1, 112, n_M_finding, 1, 12, 0, 0) :: c_M_off_21
def c_M_off_15 : List eg_I := .inl (15, 3, .sipush (-1000000000000000001), 110, 0) :: c_M_off_18
def c_M_off_14 : List eg_I := .inl (14, 1, .aload 0, 0, 0) :: c_M_off_15
def c_M_off_11 : List eg_I := .inl (11, 3, .ifCond .ne (11), 22, 0) :: c_M_off_14
def c_M_off_8 : List eg_I := .inr (8, 0, 107, n_M_isNear, 1, 12, 0, 0) :: c_M_off_11
def c_M_off_7 : List eg_I := .inl (7, 1, .iload 2, 0, 0) :: c_M_off_8
def c_M_off_4 : List eg_I := .inl (4, 3, .ifCond .eq (10), 14, 0) :: c_M_off_7
def c_M_off_1 : List eg_I := .inr (1, 0, 107, n_M_isNear, 1, 12, 0, 0) :: c_M_off_4
def c_M_off_0 : List eg_I := .inl (0, 1, .iload 1, 0, 0) :: c_M_off_1
section
variable {rm : Room} {K : Nat → Nat → Nat → eg_Lo → List Value → List eg_E → Prop} {Q : Option Value → List eg_E → Prop} {kc ks : Nat} {loc : eg_Lo} {st : List Value} {h : List eg_E}
theorem s_M_off_0 {x : Int32} {l0 : Option Value} {l : eg_Lo} : wps rm K Q c_M_off_0 kc ks (l0 :: some (.int x) :: l) (st) h = wps rm K Q c_M_off_1 kc ks (l0 :: some (.int x) :: l) (.int x :: st) h := rfl
theorem s_M_off_1  {a1 : Value} : wps rm K Q c_M_off_1 kc ks loc (a1 :: st) h = (st.length ≤ 4 ∧ eg_Cs n_M_isNear [a1] h (fun v h9 => wps rm K Q c_M_off_4 kc ks loc (v.toList ++ st) h9)) := eg_c0_1
theorem s_M_off_4 {x : Int32} : wps rm K Q c_M_off_4 kc ks loc (.int x :: st) h = ((x = 0 → K 14 kc ks loc st h) ∧ (¬ x = 0 → wps rm K Q c_M_off_7 kc ks loc (st) h)) := rfl
theorem s_M_off_7 {x : Int32} {l0 l1 : Option Value} {l : eg_Lo} : wps rm K Q c_M_off_7 kc ks (l0 :: l1 :: some (.int x) :: l) (st) h = wps rm K Q c_M_off_8 kc ks (l0 :: l1 :: some (.int x) :: l) (.int x :: st) h := rfl
theorem s_M_off_8  {a1 : Value} : wps rm K Q c_M_off_8 kc ks loc (a1 :: st) h = (st.length ≤ 4 ∧ eg_Cs n_M_isNear [a1] h (fun v h9 => wps rm K Q c_M_off_11 kc ks loc (v.toList ++ st) h9)) := eg_c0_1
theorem s_M_off_11 {x : Int32} : wps rm K Q c_M_off_11 kc ks loc (.int x :: st) h = ((¬ x = 0 → K 22 kc ks loc st h) ∧ (x = 0 → wps rm K Q c_M_off_14 kc ks loc (st) h)) := rfl
theorem s_M_off_14 {x : Nat} {l : eg_Lo} : wps rm K Q c_M_off_14 kc ks (some (.ref x) :: l) (st) h = wps rm K Q c_M_off_15 kc ks (some (.ref x) :: l) (.ref x :: st) h := rfl
theorem s_M_off_15  : wps rm K Q c_M_off_15 kc ks loc (st) h = wps rm K Q c_M_off_18 kc ks loc (.long (-1000000000000000001) :: st) h := rfl
theorem s_M_off_18  {a1 : Value} {x : Nat} : wps rm K Q c_M_off_18 kc ks loc (a1 :: .ref (x + 1) :: st) h = (eg_cls h x 12 ∧ st.length ≤ 4 ∧ eg_Cs n_M_finding (.ref (x + 1) :: [a1]) h (fun v h9 => wps rm K Q c_M_off_21 kc ks loc (v.toList ++ st) h9)) := eg_c1_1
theorem s_M_off_21 {x : Int64} : wps rm K Q c_M_off_21 kc ks loc ([.long x]) h = (kc = rm.cells ∧ Q (some (.long x)) h) := rfl
theorem s_M_off_22 {x : Nat} {l : eg_Lo} : wps rm K Q c_M_off_22 kc ks (some (.ref x) :: l) (st) h = wps rm K Q c_M_off_23 kc ks (some (.ref x) :: l) (.ref x :: st) h := rfl
theorem s_M_off_23 {x : Int32} {l0 : Option Value} {l : eg_Lo} : wps rm K Q c_M_off_23 kc ks (l0 :: some (.int x) :: l) (st) h = wps rm K Q c_M_off_24 kc ks (l0 :: some (.int x) :: l) (.int x :: st) h := rfl
theorem s_M_off_24 {x : Int32} {l0 l1 : Option Value} {l : eg_Lo} : wps rm K Q c_M_off_24 kc ks (l0 :: l1 :: some (.int x) :: l) (st) h = wps rm K Q c_M_off_25 kc ks (l0 :: l1 :: some (.int x) :: l) (.int x :: st) h := rfl
theorem s_M_off_25 {x : Int32} {l0 l1 l2 : Option Value} {l : eg_Lo} : wps rm K Q c_M_off_25 kc ks (l0 :: l1 :: l2 :: some (.int x) :: l) (st) h = wps rm K Q c_M_off_26 kc ks (l0 :: l1 :: l2 :: some (.int x) :: l) (.int x :: st) h := rfl
theorem s_M_off_26 {x : Int32} : wps rm K Q c_M_off_26 kc ks loc (.int x :: st) h = ((x = 0 → K 36 kc ks loc st h) ∧ (¬ x = 0 → wps rm K Q c_M_off_29 kc ks loc (st) h)) := rfl
theorem s_M_off_29 {x : Nat} {l : eg_Lo} : wps rm K Q c_M_off_29 kc ks (some (.ref x) :: l) (st) h = wps rm K Q c_M_off_30 kc ks (some (.ref x) :: l) (.ref x :: st) h := rfl
theorem s_M_off_30 {x : Nat} : wps rm K Q c_M_off_30 kc ks loc (.ref (x + 1) :: st) h = eg_gf h x 12 6 (fun v => wps rm K Q c_M_off_33 kc ks loc (v :: st) h) := rfl
theorem s_M_off_33  : wps rm K Q c_M_off_33 kc ks loc (st) h = K 40 kc ks loc st h := rfl
theorem s_M_off_36 {x : Nat} {l : eg_Lo} : wps rm K Q c_M_off_36 kc ks (some (.ref x) :: l) (st) h = wps rm K Q c_M_off_37 kc ks (some (.ref x) :: l) (.ref x :: st) h := rfl
theorem s_M_off_37 {x : Nat} : wps rm K Q c_M_off_37 kc ks loc (.ref (x + 1) :: st) h = eg_gf h x 12 5 (fun v => wps rm K Q c_M_off_40 kc ks loc (v :: st) h) := rfl
theorem s_M_off_40  {a1 : Value} {a2 : Value} {a3 : Value} {x : Nat} : wps rm K Q c_M_off_40 kc ks loc (a3 :: a2 :: a1 :: .ref (x + 1) :: st) h = (eg_cls h x 12 ∧ st.length ≤ 4 ∧ eg_Cs n_M_offOf (.ref (x + 1) :: [a1, a2, a3]) h (fun v h9 => wps rm K Q c_M_off_43 kc ks loc (v.toList ++ st) h9)) := eg_c1_3
theorem s_M_off_43 {x : Int32} : wps rm K Q c_M_off_43 kc ks loc (.int x :: st) h = wps rm K Q c_M_off_44 kc ks loc (.long (x.toInt64) :: st) h := rfl
theorem s_M_off_44 {x : Int64} : wps rm K Q c_M_off_44 kc ks loc ([.long x]) h = (kc = rm.cells ∧ Q (some (.long x)) h) := rfl
def T_M_off : List (Nat × List eg_I) := [(14, c_M_off_14), (22, c_M_off_22), (36, c_M_off_36), (40, c_M_off_40)]
theorem j_M_off_14 {R : Nat → Nat → Nat → eg_Lo → List Value → List eg_E → Prop} {f pc0 : Nat} : eg_run rm R Q T_M_off (f + 1) 14 kc ks loc st h = wps rm (eg_run rm R Q T_M_off f) Q c_M_off_14 kc ks loc st h := rfl
theorem j_M_off_22 {R : Nat → Nat → Nat → eg_Lo → List Value → List eg_E → Prop} {f pc0 : Nat} : eg_run rm R Q T_M_off (f + 1) 22 kc ks loc st h = wps rm (eg_run rm R Q T_M_off f) Q c_M_off_22 kc ks loc st h := rfl
theorem j_M_off_36 {R : Nat → Nat → Nat → eg_Lo → List Value → List eg_E → Prop} {f pc0 : Nat} : eg_run rm R Q T_M_off (f + 1) 36 kc ks loc st h = wps rm (eg_run rm R Q T_M_off f) Q c_M_off_36 kc ks loc st h := rfl
theorem j_M_off_40 {R : Nat → Nat → Nat → eg_Lo → List Value → List eg_E → Prop} {f pc0 : Nat} : eg_run rm R Q T_M_off (f + 1) 40 kc ks loc st h = wps rm (eg_run rm R Q T_M_off f) Q c_M_off_40 kc ks loc st h := rfl
end
theorem q_M_off : (T_M_off.all fun q => eg_seq m_M_off q.1 q.2) = true := by decide +kernel
theorem b_M_off {as : List Value} {h : List eg_E} {Q : Option Value → List eg_E → Prop} (hf : (eg_fl as).length ≤ 4) (hw : wps (eg_rm m_M_off) (eg_run (eg_rm m_M_off) (eg_R m_M_off Q (h.length + 0)) Q T_M_off 6) Q c_M_off_0 0 0 (eg_entry 4 as) [] h) : eg_Runs n_M_off as h Q := eg_begin (d := m_M_off) rfl (by decide) (by decide +kernel) q_M_off hf hw
/-! ===== M_apart ===== -/
def c_M_apart_248 : List eg_I := .inl (248, 1, .lreturn, 0, 0) :: []
def c_M_apart_247 : List eg_I := .inl (247, 1, .i2l, 0, 0) :: c_M_apart_248
def c_M_apart_245 : List eg_I := .inl (245, 2, .iload 6, 0, 0) :: c_M_apart_247
def c_M_apart_242 : List eg_I := .inl (242, 3, .goto (6), 248, 0) :: []
def c_M_apart_240 : List eg_I := .inl (240, 2, .lload 4, 0, 0) :: c_M_apart_242
def c_M_apart_237 : List eg_I := .inl (237, 3, .ifCond .ne (8), 245, 0) :: c_M_apart_240
def c_M_apart_236 : List eg_I := .inl (236, 1, .iload 3, 0, 0) :: c_M_apart_237
def c_M_apart_233 : List eg_I := .inl (233, 3, .goto (15), 248, 0) :: []
def c_M_apart_230 : List eg_I := .inr (230, 1, 112, n_M_finding, 1, 12, 0, 0) :: c_M_apart_233
def c_M_apart_227 : List eg_I := .inl (227, 3, .sipush (-1000000000000000006), 138, 0) :: c_M_apart_230
def c_M_apart_226 : List eg_I := .inl (226, 1, .aload 0, 0, 0) :: c_M_apart_227
def c_M_apart_223 : List eg_I := .inl (223, 3, .ifCond .ge (13), 236, 0) :: c_M_apart_226
def c_M_apart_222 : List eg_I := .inl (222, 1, .lcmp, 0, 0) :: c_M_apart_223
def c_M_apart_221 : List eg_I := .inl (221, 1, .sipush (0), 0, 0) :: c_M_apart_222
def c_M_apart_219 : List eg_I := .inl (219, 2, .lload 4, 0, 0) :: c_M_apart_221
def c_M_apart_216 : List eg_I := .inl (216, 3, .goto (-174), 42, 0) :: []
def c_M_apart_213 : List eg_I := .inl (213, 3, .iinc 7 (1), 0, 0) :: c_M_apart_216
def c_M_apart_211 : List eg_I := .inl (211, 2, .lstore 4, 0, 0) :: c_M_apart_213
def c_M_apart_209 : List eg_I := .inl (209, 2, .lload 4, 0, 0) :: c_M_apart_211
def c_M_apart_206 : List eg_I := .inl (206, 3, .goto (5), 211, 0) :: []
def c_M_apart_204 : List eg_I := .inl (204, 2, .lload 16, 0, 0) :: c_M_apart_206
def c_M_apart_201 : List eg_I := .inl (201, 3, .ifCond .le (8), 209, 0) :: c_M_apart_204
def c_M_apart_200 : List eg_I := .inl (200, 1, .lcmp, 0, 0) :: c_M_apart_201
def c_M_apart_198 : List eg_I := .inl (198, 2, .lload 4, 0, 0) :: c_M_apart_200
def c_M_apart_196 : List eg_I := .inl (196, 2, .lload 16, 0, 0) :: c_M_apart_198
def c_M_apart_194 : List eg_I := .inl (194, 2, .istore 6, 0, 0) :: c_M_apart_196
def c_M_apart_192 : List eg_I := .inl (192, 2, .iload 6, 0, 0) :: c_M_apart_194
def c_M_apart_189 : List eg_I := .inl (189, 3, .goto (5), 194, 0) :: []
def c_M_apart_187 : List eg_I := .inl (187, 2, .iload 7, 0, 0) :: c_M_apart_189
def c_M_apart_184 : List eg_I := .inl (184, 3, .ifCond .le (8), 192, 0) :: c_M_apart_187
def c_M_apart_183 : List eg_I := .inl (183, 1, .lcmp, 0, 0) :: c_M_apart_184
def c_M_apart_181 : List eg_I := .inl (181, 2, .lload 4, 0, 0) :: c_M_apart_183
def c_M_apart_179 : List eg_I := .inl (179, 2, .lload 16, 0, 0) :: c_M_apart_181
def c_M_apart_177 : List eg_I := .inl (177, 2, .lstore 16, 0, 0) :: c_M_apart_179
def c_M_apart_176 : List eg_I := .inl (176, 1, .ladd, 0, 0) :: c_M_apart_177
def c_M_apart_175 : List eg_I := .inl (175, 1, .lmul, 0, 0) :: c_M_apart_176
def c_M_apart_173 : List eg_I := .inl (173, 2, .lload 14, 0, 0) :: c_M_apart_175
def c_M_apart_171 : List eg_I := .inl (171, 2, .lload 14, 0, 0) :: c_M_apart_173
def c_M_apart_170 : List eg_I := .inl (170, 1, .ladd, 0, 0) :: c_M_apart_171
def c_M_apart_169 : List eg_I := .inl (169, 1, .lmul, 0, 0) :: c_M_apart_170
def c_M_apart_167 : List eg_I := .inl (167, 2, .lload 12, 0, 0) :: c_M_apart_169
def c_M_apart_165 : List eg_I := .inl (165, 2, .lload 12, 0, 0) :: c_M_apart_167
def c_M_apart_164 : List eg_I := .inl (164, 1, .lmul, 0, 0) :: c_M_apart_165
def c_M_apart_162 : List eg_I := .inl (162, 2, .lload 10, 0, 0) :: c_M_apart_164
def c_M_apart_160 : List eg_I := .inl (160, 2, .lload 10, 0, 0) :: c_M_apart_162
def c_M_apart_157 : List eg_I := .inl (157, 3, .goto (20), 177, 0) :: []
def c_M_apart_154 : List eg_I := .inl (154, 3, .sipush (-1), 136, 0) :: c_M_apart_157
def c_M_apart_151 : List eg_I := .inl (151, 3, .ifCond .eq (9), 160, 0) :: c_M_apart_154
def c_M_apart_150 : List eg_I := .inl (150, 1, .baload, 0, 0) :: c_M_apart_151
def c_M_apart_148 : List eg_I := .inl (148, 2, .iload 9, 0, 0) :: c_M_apart_150
def c_M_apart_145 : List eg_I := .inl (145, 3, .getfield 22, 12, 4) :: c_M_apart_148
def c_M_apart_144 : List eg_I := .inl (144, 1, .aload 0, 0, 0) :: c_M_apart_145
def c_M_apart_141 : List eg_I := .inl (141, 3, .ifCond .ne (13), 154, 0) :: c_M_apart_144
def c_M_apart_140 : List eg_I := .inl (140, 1, .baload, 0, 0) :: c_M_apart_141
def c_M_apart_138 : List eg_I := .inl (138, 2, .iload 8, 0, 0) :: c_M_apart_140
def c_M_apart_135 : List eg_I := .inl (135, 3, .getfield 22, 12, 4) :: c_M_apart_138
def c_M_apart_134 : List eg_I := .inl (134, 1, .aload 0, 0, 0) :: c_M_apart_135
def c_M_apart_132 : List eg_I := .inl (132, 2, .lstore 14, 0, 0) :: c_M_apart_134
def c_M_apart_131 : List eg_I := .inl (131, 1, .i2l, 0, 0) :: c_M_apart_132
def c_M_apart_130 : List eg_I := .inl (130, 1, .isub, 0, 0) :: c_M_apart_131
def c_M_apart_129 : List eg_I := .inl (129, 1, .iaload, 0, 0) :: c_M_apart_130
def c_M_apart_127 : List eg_I := .inl (127, 2, .iload 9, 0, 0) :: c_M_apart_129
def c_M_apart_124 : List eg_I := .inl (124, 3, .getfield 19, 12, 3) :: c_M_apart_127
def c_M_apart_123 : List eg_I := .inl (123, 1, .aload 0, 0, 0) :: c_M_apart_124
def c_M_apart_122 : List eg_I := .inl (122, 1, .iaload, 0, 0) :: c_M_apart_123
def c_M_apart_120 : List eg_I := .inl (120, 2, .iload 8, 0, 0) :: c_M_apart_122
def c_M_apart_117 : List eg_I := .inl (117, 3, .getfield 19, 12, 3) :: c_M_apart_120
def c_M_apart_116 : List eg_I := .inl (116, 1, .aload 0, 0, 0) :: c_M_apart_117
def c_M_apart_114 : List eg_I := .inl (114, 2, .lstore 12, 0, 0) :: c_M_apart_116
def c_M_apart_113 : List eg_I := .inl (113, 1, .i2l, 0, 0) :: c_M_apart_114
def c_M_apart_112 : List eg_I := .inl (112, 1, .isub, 0, 0) :: c_M_apart_113
def c_M_apart_111 : List eg_I := .inl (111, 1, .iaload, 0, 0) :: c_M_apart_112
def c_M_apart_109 : List eg_I := .inl (109, 2, .iload 9, 0, 0) :: c_M_apart_111
def c_M_apart_106 : List eg_I := .inl (106, 3, .getfield 16, 12, 2) :: c_M_apart_109
def c_M_apart_105 : List eg_I := .inl (105, 1, .aload 0, 0, 0) :: c_M_apart_106
def c_M_apart_104 : List eg_I := .inl (104, 1, .iaload, 0, 0) :: c_M_apart_105
def c_M_apart_102 : List eg_I := .inl (102, 2, .iload 8, 0, 0) :: c_M_apart_104
def c_M_apart_99 : List eg_I := .inl (99, 3, .getfield 16, 12, 2) :: c_M_apart_102
def c_M_apart_98 : List eg_I := .inl (98, 1, .aload 0, 0, 0) :: c_M_apart_99
def c_M_apart_96 : List eg_I := .inl (96, 2, .lstore 10, 0, 0) :: c_M_apart_98
def c_M_apart_95 : List eg_I := .inl (95, 1, .i2l, 0, 0) :: c_M_apart_96
def c_M_apart_94 : List eg_I := .inl (94, 1, .isub, 0, 0) :: c_M_apart_95
def c_M_apart_93 : List eg_I := .inl (93, 1, .iaload, 0, 0) :: c_M_apart_94
def c_M_apart_91 : List eg_I := .inl (91, 2, .iload 9, 0, 0) :: c_M_apart_93
def c_M_apart_88 : List eg_I := .inl (88, 3, .getfield 13, 12, 1) :: c_M_apart_91
def c_M_apart_87 : List eg_I := .inl (87, 1, .aload 0, 0, 0) :: c_M_apart_88
def c_M_apart_86 : List eg_I := .inl (86, 1, .iaload, 0, 0) :: c_M_apart_87
def c_M_apart_84 : List eg_I := .inl (84, 2, .iload 8, 0, 0) :: c_M_apart_86
def c_M_apart_81 : List eg_I := .inl (81, 3, .getfield 13, 12, 1) :: c_M_apart_84
def c_M_apart_80 : List eg_I := .inl (80, 1, .aload 0, 0, 0) :: c_M_apart_81
def c_M_apart_78 : List eg_I := .inl (78, 2, .istore 9, 0, 0) :: c_M_apart_80
def c_M_apart_75 : List eg_I := .inr (75, 0, 103, n_M_at_II, 2, 12, 0, 0) :: c_M_apart_78
def c_M_apart_73 : List eg_I := .inl (73, 2, .iload 7, 0, 0) :: c_M_apart_75
def c_M_apart_72 : List eg_I := .inl (72, 1, .iload 2, 0, 0) :: c_M_apart_73
def c_M_apart_70 : List eg_I := .inl (70, 2, .istore 8, 0, 0) :: c_M_apart_72
def c_M_apart_67 : List eg_I := .inr (67, 0, 103, n_M_at_II, 2, 12, 0, 0) :: c_M_apart_70
def c_M_apart_65 : List eg_I := .inl (65, 2, .iload 7, 0, 0) :: c_M_apart_67
def c_M_apart_64 : List eg_I := .inl (64, 1, .iload 1, 0, 0) :: c_M_apart_65
def c_M_apart_61 : List eg_I := .inl (61, 3, .if_icmp .ge (158), 219, 0) :: c_M_apart_64
def c_M_apart_60 : List eg_I := .inl (60, 1, .iaload, 0, 0) :: c_M_apart_61
def c_M_apart_59 : List eg_I := .inl (59, 1, .iload 2, 0, 0) :: c_M_apart_60
def c_M_apart_56 : List eg_I := .inl (56, 3, .getfield 9, 12, 0) :: c_M_apart_59
def c_M_apart_55 : List eg_I := .inl (55, 1, .aload 0, 0, 0) :: c_M_apart_56
def c_M_apart_53 : List eg_I := .inl (53, 2, .iload 7, 0, 0) :: c_M_apart_55
def c_M_apart_50 : List eg_I := .inl (50, 3, .if_icmp .ge (169), 219, 0) :: c_M_apart_53
def c_M_apart_49 : List eg_I := .inl (49, 1, .iaload, 0, 0) :: c_M_apart_50
def c_M_apart_48 : List eg_I := .inl (48, 1, .iload 1, 0, 0) :: c_M_apart_49
def c_M_apart_45 : List eg_I := .inl (45, 3, .getfield 9, 12, 0) :: c_M_apart_48
def c_M_apart_44 : List eg_I := .inl (44, 1, .aload 0, 0, 0) :: c_M_apart_45
def c_M_apart_42 : List eg_I := .inl (42, 2, .iload 7, 0, 0) :: c_M_apart_44
def c_M_apart_40 : List eg_I := .inl (40, 2, .istore 7, 0, 0) :: [.inl (42, 0, .nop, 0, 0)]
def c_M_apart_39 : List eg_I := .inl (39, 1, .iconst (0), 0, 0) :: c_M_apart_40
def c_M_apart_37 : List eg_I := .inl (37, 2, .istore 6, 0, 0) :: c_M_apart_39
def c_M_apart_36 : List eg_I := .inl (36, 1, .iconst (-1), 0, 0) :: c_M_apart_37
def c_M_apart_34 : List eg_I := .inl (34, 2, .lstore 4, 0, 0) :: c_M_apart_36
def c_M_apart_31 : List eg_I := .inl (31, 3, .sipush (-1), 136, 0) :: c_M_apart_34
def c_M_apart_30 : List eg_I := .inl (30, 1, .lreturn, 0, 0) :: []
def c_M_apart_27 : List eg_I := .inr (27, 1, 112, n_M_finding, 1, 12, 0, 0) :: c_M_apart_30
def c_M_apart_24 : List eg_I := .inl (24, 3, .sipush (-1000000000000000001), 110, 0) :: c_M_apart_27
def c_M_apart_23 : List eg_I := .inl (23, 1, .aload 0, 0, 0) :: c_M_apart_24
def c_M_apart_20 : List eg_I := .inl (20, 3, .ifCond .ne (11), 31, 0) :: c_M_apart_23
def c_M_apart_17 : List eg_I := .inr (17, 0, 95, n_M_isIn, 3, 12, 0, 0) :: c_M_apart_20
def c_M_apart_16 : List eg_I := .inl (16, 1, .iconst (1), 0, 0) :: c_M_apart_17
def c_M_apart_15 : List eg_I := .inl (15, 1, .iconst (0), 0, 0) :: c_M_apart_16
def c_M_apart_14 : List eg_I := .inl (14, 1, .iload 3, 0, 0) :: c_M_apart_15
def c_M_apart_11 : List eg_I := .inl (11, 3, .ifCond .eq (12), 23, 0) :: c_M_apart_14
def c_M_apart_8 : List eg_I := .inr (8, 0, 99, n_M_isPart, 1, 12, 0, 0) :: c_M_apart_11
def c_M_apart_7 : List eg_I := .inl (7, 1, .iload 2, 0, 0) :: c_M_apart_8
def c_M_apart_4 : List eg_I := .inl (4, 3, .ifCond .eq (19), 23, 0) :: c_M_apart_7
def c_M_apart_1 : List eg_I := .inr (1, 0, 99, n_M_isPart, 1, 12, 0, 0) :: c_M_apart_4
def c_M_apart_0 : List eg_I := .inl (0, 1, .iload 1, 0, 0) :: c_M_apart_1
section
variable {rm : Room} {K : Nat → Nat → Nat → eg_Lo → List Value → List eg_E → Prop} {Q : Option Value → List eg_E → Prop} {kc ks : Nat} {loc : eg_Lo} {st : List Value} {h : List eg_E}
theorem s_M_apart_0 {x : Int32} {l0 : Option Value} {l : eg_Lo} : wps rm K Q c_M_apart_0 kc ks (l0 :: some (.int x) :: l) (st) h = wps rm K Q c_M_apart_1 kc ks (l0 :: some (.int x) :: l) (.int x :: st) h := rfl
theorem s_M_apart_1  {a1 : Value} : wps rm K Q c_M_apart_1 kc ks loc (a1 :: st) h = (st.length ≤ 4 ∧ eg_Cs n_M_isPart [a1] h (fun v h9 => wps rm K Q c_M_apart_4 kc ks loc (v.toList ++ st) h9)) := eg_c0_1
theorem s_M_apart_4 {x : Int32} : wps rm K Q c_M_apart_4 kc ks loc (.int x :: st) h = ((x = 0 → K 23 kc ks loc st h) ∧ (¬ x = 0 → wps rm K Q c_M_apart_7 kc ks loc (st) h)) := rfl
theorem s_M_apart_7 {x : Int32} {l0 l1 : Option Value} {l : eg_Lo} : wps rm K Q c_M_apart_7 kc ks (l0 :: l1 :: some (.int x) :: l) (st) h = wps rm K Q c_M_apart_8 kc ks (l0 :: l1 :: some (.int x) :: l) (.int x :: st) h := rfl
theorem s_M_apart_8  {a1 : Value} : wps rm K Q c_M_apart_8 kc ks loc (a1 :: st) h = (st.length ≤ 4 ∧ eg_Cs n_M_isPart [a1] h (fun v h9 => wps rm K Q c_M_apart_11 kc ks loc (v.toList ++ st) h9)) := eg_c0_1
theorem s_M_apart_11 {x : Int32} : wps rm K Q c_M_apart_11 kc ks loc (.int x :: st) h = ((x = 0 → K 23 kc ks loc st h) ∧ (¬ x = 0 → wps rm K Q c_M_apart_14 kc ks loc (st) h)) := rfl
theorem s_M_apart_14 {x : Int32} {l0 l1 l2 : Option Value} {l : eg_Lo} : wps rm K Q c_M_apart_14 kc ks (l0 :: l1 :: l2 :: some (.int x) :: l) (st) h = wps rm K Q c_M_apart_15 kc ks (l0 :: l1 :: l2 :: some (.int x) :: l) (.int x :: st) h := rfl
theorem s_M_apart_15  : wps rm K Q c_M_apart_15 kc ks loc (st) h = wps rm K Q c_M_apart_16 kc ks loc (.int (0) :: st) h := rfl
theorem s_M_apart_16  : wps rm K Q c_M_apart_16 kc ks loc (st) h = wps rm K Q c_M_apart_17 kc ks loc (.int (1) :: st) h := rfl
theorem s_M_apart_17  {a1 : Value} {a2 : Value} {a3 : Value} : wps rm K Q c_M_apart_17 kc ks loc (a3 :: a2 :: a1 :: st) h = (st.length ≤ 4 ∧ eg_Cs n_M_isIn [a1, a2, a3] h (fun v h9 => wps rm K Q c_M_apart_20 kc ks loc (v.toList ++ st) h9)) := eg_c0_3
theorem s_M_apart_20 {x : Int32} : wps rm K Q c_M_apart_20 kc ks loc (.int x :: st) h = ((¬ x = 0 → K 31 kc ks loc st h) ∧ (x = 0 → wps rm K Q c_M_apart_23 kc ks loc (st) h)) := rfl
theorem s_M_apart_23 {x : Nat} {l : eg_Lo} : wps rm K Q c_M_apart_23 kc ks (some (.ref x) :: l) (st) h = wps rm K Q c_M_apart_24 kc ks (some (.ref x) :: l) (.ref x :: st) h := rfl
theorem s_M_apart_24  : wps rm K Q c_M_apart_24 kc ks loc (st) h = wps rm K Q c_M_apart_27 kc ks loc (.long (-1000000000000000001) :: st) h := rfl
theorem s_M_apart_27  {a1 : Value} {x : Nat} : wps rm K Q c_M_apart_27 kc ks loc (a1 :: .ref (x + 1) :: st) h = (eg_cls h x 12 ∧ st.length ≤ 4 ∧ eg_Cs n_M_finding (.ref (x + 1) :: [a1]) h (fun v h9 => wps rm K Q c_M_apart_30 kc ks loc (v.toList ++ st) h9)) := eg_c1_1
theorem s_M_apart_30 {x : Int64} : wps rm K Q c_M_apart_30 kc ks loc ([.long x]) h = (kc = rm.cells ∧ Q (some (.long x)) h) := rfl
theorem s_M_apart_31  : wps rm K Q c_M_apart_31 kc ks loc (st) h = wps rm K Q c_M_apart_34 kc ks loc (.long (-1) :: st) h := rfl
theorem s_M_apart_34 {x : Int64} : wps rm K Q c_M_apart_34 kc ks loc (.long x :: st) h = wps rm K Q c_M_apart_36 kc ks (eg_set2 loc 4 (.long x)) (st) h := rfl
theorem s_M_apart_36  : wps rm K Q c_M_apart_36 kc ks loc (st) h = wps rm K Q c_M_apart_37 kc ks loc (.int (-1) :: st) h := rfl
theorem s_M_apart_37 {x : Int32} : wps rm K Q c_M_apart_37 kc ks loc (.int x :: st) h = wps rm K Q c_M_apart_39 kc ks (eg_set1 loc 6 (.int x)) (st) h := rfl
theorem s_M_apart_39  : wps rm K Q c_M_apart_39 kc ks loc (st) h = wps rm K Q c_M_apart_40 kc ks loc (.int (0) :: st) h := rfl
theorem s_M_apart_40 {x : Int32} : wps rm K Q c_M_apart_40 kc ks loc (.int x :: st) h = K 42 kc ks (eg_set1 loc 7 (.int x)) (st) h := rfl
theorem s_M_apart_42 {x : Int32} {l0 l1 l2 l3 l4 l5 l6 : Option Value} {l : eg_Lo} : wps rm K Q c_M_apart_42 kc ks (l0 :: l1 :: l2 :: l3 :: l4 :: l5 :: l6 :: some (.int x) :: l) (st) h = wps rm K Q c_M_apart_44 kc ks (l0 :: l1 :: l2 :: l3 :: l4 :: l5 :: l6 :: some (.int x) :: l) (.int x :: st) h := rfl
theorem s_M_apart_44 {x : Nat} {l : eg_Lo} : wps rm K Q c_M_apart_44 kc ks (some (.ref x) :: l) (st) h = wps rm K Q c_M_apart_45 kc ks (some (.ref x) :: l) (.ref x :: st) h := rfl
theorem s_M_apart_45 {x : Nat} : wps rm K Q c_M_apart_45 kc ks loc (.ref (x + 1) :: st) h = eg_gf h x 12 0 (fun v => wps rm K Q c_M_apart_48 kc ks loc (v :: st) h) := rfl
theorem s_M_apart_48 {x : Int32} {l0 : Option Value} {l : eg_Lo} : wps rm K Q c_M_apart_48 kc ks (l0 :: some (.int x) :: l) (st) h = wps rm K Q c_M_apart_49 kc ks (l0 :: some (.int x) :: l) (.int x :: st) h := rfl
theorem s_M_apart_49 {x : Nat} {i : Int32} : wps rm K Q c_M_apart_49 kc ks loc (.int i :: .ref (x + 1) :: st) h = eg_ia h x i (fun v => wps rm K Q c_M_apart_50 kc ks loc (.int v :: st) h) := rfl
theorem s_M_apart_50 {x y : Int32} : wps rm K Q c_M_apart_50 kc ks loc (.int y :: .int x :: st) h = ((y ≤ x → K 219 kc ks loc st h) ∧ (¬ y ≤ x → wps rm K Q c_M_apart_53 kc ks loc (st) h)) := rfl
theorem s_M_apart_53 {x : Int32} {l0 l1 l2 l3 l4 l5 l6 : Option Value} {l : eg_Lo} : wps rm K Q c_M_apart_53 kc ks (l0 :: l1 :: l2 :: l3 :: l4 :: l5 :: l6 :: some (.int x) :: l) (st) h = wps rm K Q c_M_apart_55 kc ks (l0 :: l1 :: l2 :: l3 :: l4 :: l5 :: l6 :: some (.int x) :: l) (.int x :: st) h := rfl
theorem s_M_apart_55 {x : Nat} {l : eg_Lo} : wps rm K Q c_M_apart_55 kc ks (some (.ref x) :: l) (st) h = wps rm K Q c_M_apart_56 kc ks (some (.ref x) :: l) (.ref x :: st) h := rfl
theorem s_M_apart_56 {x : Nat} : wps rm K Q c_M_apart_56 kc ks loc (.ref (x + 1) :: st) h = eg_gf h x 12 0 (fun v => wps rm K Q c_M_apart_59 kc ks loc (v :: st) h) := rfl
theorem s_M_apart_59 {x : Int32} {l0 l1 : Option Value} {l : eg_Lo} : wps rm K Q c_M_apart_59 kc ks (l0 :: l1 :: some (.int x) :: l) (st) h = wps rm K Q c_M_apart_60 kc ks (l0 :: l1 :: some (.int x) :: l) (.int x :: st) h := rfl
theorem s_M_apart_60 {x : Nat} {i : Int32} : wps rm K Q c_M_apart_60 kc ks loc (.int i :: .ref (x + 1) :: st) h = eg_ia h x i (fun v => wps rm K Q c_M_apart_61 kc ks loc (.int v :: st) h) := rfl
theorem s_M_apart_61 {x y : Int32} : wps rm K Q c_M_apart_61 kc ks loc (.int y :: .int x :: st) h = ((y ≤ x → K 219 kc ks loc st h) ∧ (¬ y ≤ x → wps rm K Q c_M_apart_64 kc ks loc (st) h)) := rfl
theorem s_M_apart_64 {x : Int32} {l0 : Option Value} {l : eg_Lo} : wps rm K Q c_M_apart_64 kc ks (l0 :: some (.int x) :: l) (st) h = wps rm K Q c_M_apart_65 kc ks (l0 :: some (.int x) :: l) (.int x :: st) h := rfl
theorem s_M_apart_65 {x : Int32} {l0 l1 l2 l3 l4 l5 l6 : Option Value} {l : eg_Lo} : wps rm K Q c_M_apart_65 kc ks (l0 :: l1 :: l2 :: l3 :: l4 :: l5 :: l6 :: some (.int x) :: l) (st) h = wps rm K Q c_M_apart_67 kc ks (l0 :: l1 :: l2 :: l3 :: l4 :: l5 :: l6 :: some (.int x) :: l) (.int x :: st) h := rfl
theorem s_M_apart_67  {a1 : Value} {a2 : Value} : wps rm K Q c_M_apart_67 kc ks loc (a2 :: a1 :: st) h = (st.length ≤ 4 ∧ eg_Cs n_M_at_II [a1, a2] h (fun v h9 => wps rm K Q c_M_apart_70 kc ks loc (v.toList ++ st) h9)) := eg_c0_2
theorem s_M_apart_70 {x : Int32} : wps rm K Q c_M_apart_70 kc ks loc (.int x :: st) h = wps rm K Q c_M_apart_72 kc ks (eg_set1 loc 8 (.int x)) (st) h := rfl
theorem s_M_apart_72 {x : Int32} {l0 l1 : Option Value} {l : eg_Lo} : wps rm K Q c_M_apart_72 kc ks (l0 :: l1 :: some (.int x) :: l) (st) h = wps rm K Q c_M_apart_73 kc ks (l0 :: l1 :: some (.int x) :: l) (.int x :: st) h := rfl
theorem s_M_apart_73 {x : Int32} {l0 l1 l2 l3 l4 l5 l6 : Option Value} {l : eg_Lo} : wps rm K Q c_M_apart_73 kc ks (l0 :: l1 :: l2 :: l3 :: l4 :: l5 :: l6 :: some (.int x) :: l) (st) h = wps rm K Q c_M_apart_75 kc ks (l0 :: l1 :: l2 :: l3 :: l4 :: l5 :: l6 :: some (.int x) :: l) (.int x :: st) h := rfl
theorem s_M_apart_75  {a1 : Value} {a2 : Value} : wps rm K Q c_M_apart_75 kc ks loc (a2 :: a1 :: st) h = (st.length ≤ 4 ∧ eg_Cs n_M_at_II [a1, a2] h (fun v h9 => wps rm K Q c_M_apart_78 kc ks loc (v.toList ++ st) h9)) := eg_c0_2
theorem s_M_apart_78 {x : Int32} : wps rm K Q c_M_apart_78 kc ks loc (.int x :: st) h = wps rm K Q c_M_apart_80 kc ks (eg_set1 loc 9 (.int x)) (st) h := rfl
theorem s_M_apart_80 {x : Nat} {l : eg_Lo} : wps rm K Q c_M_apart_80 kc ks (some (.ref x) :: l) (st) h = wps rm K Q c_M_apart_81 kc ks (some (.ref x) :: l) (.ref x :: st) h := rfl
theorem s_M_apart_81 {x : Nat} : wps rm K Q c_M_apart_81 kc ks loc (.ref (x + 1) :: st) h = eg_gf h x 12 1 (fun v => wps rm K Q c_M_apart_84 kc ks loc (v :: st) h) := rfl
theorem s_M_apart_84 {x : Int32} {l0 l1 l2 l3 l4 l5 l6 l7 : Option Value} {l : eg_Lo} : wps rm K Q c_M_apart_84 kc ks (l0 :: l1 :: l2 :: l3 :: l4 :: l5 :: l6 :: l7 :: some (.int x) :: l) (st) h = wps rm K Q c_M_apart_86 kc ks (l0 :: l1 :: l2 :: l3 :: l4 :: l5 :: l6 :: l7 :: some (.int x) :: l) (.int x :: st) h := rfl
theorem s_M_apart_86 {x : Nat} {i : Int32} : wps rm K Q c_M_apart_86 kc ks loc (.int i :: .ref (x + 1) :: st) h = eg_ia h x i (fun v => wps rm K Q c_M_apart_87 kc ks loc (.int v :: st) h) := rfl
theorem s_M_apart_87 {x : Nat} {l : eg_Lo} : wps rm K Q c_M_apart_87 kc ks (some (.ref x) :: l) (st) h = wps rm K Q c_M_apart_88 kc ks (some (.ref x) :: l) (.ref x :: st) h := rfl
theorem s_M_apart_88 {x : Nat} : wps rm K Q c_M_apart_88 kc ks loc (.ref (x + 1) :: st) h = eg_gf h x 12 1 (fun v => wps rm K Q c_M_apart_91 kc ks loc (v :: st) h) := rfl
theorem s_M_apart_91 {x : Int32} {l0 l1 l2 l3 l4 l5 l6 l7 l8 : Option Value} {l : eg_Lo} : wps rm K Q c_M_apart_91 kc ks (l0 :: l1 :: l2 :: l3 :: l4 :: l5 :: l6 :: l7 :: l8 :: some (.int x) :: l) (st) h = wps rm K Q c_M_apart_93 kc ks (l0 :: l1 :: l2 :: l3 :: l4 :: l5 :: l6 :: l7 :: l8 :: some (.int x) :: l) (.int x :: st) h := rfl
theorem s_M_apart_93 {x : Nat} {i : Int32} : wps rm K Q c_M_apart_93 kc ks loc (.int i :: .ref (x + 1) :: st) h = eg_ia h x i (fun v => wps rm K Q c_M_apart_94 kc ks loc (.int v :: st) h) := rfl
theorem s_M_apart_94 {x y : Int32} : wps rm K Q c_M_apart_94 kc ks loc (.int y :: .int x :: st) h = wps rm K Q c_M_apart_95 kc ks loc (.int (x - y) :: st) h := rfl
theorem s_M_apart_95 {x : Int32} : wps rm K Q c_M_apart_95 kc ks loc (.int x :: st) h = wps rm K Q c_M_apart_96 kc ks loc (.long (x.toInt64) :: st) h := rfl
theorem s_M_apart_96 {x : Int64} : wps rm K Q c_M_apart_96 kc ks loc (.long x :: st) h = wps rm K Q c_M_apart_98 kc ks (eg_set2 loc 10 (.long x)) (st) h := rfl
theorem s_M_apart_98 {x : Nat} {l : eg_Lo} : wps rm K Q c_M_apart_98 kc ks (some (.ref x) :: l) (st) h = wps rm K Q c_M_apart_99 kc ks (some (.ref x) :: l) (.ref x :: st) h := rfl
theorem s_M_apart_99 {x : Nat} : wps rm K Q c_M_apart_99 kc ks loc (.ref (x + 1) :: st) h = eg_gf h x 12 2 (fun v => wps rm K Q c_M_apart_102 kc ks loc (v :: st) h) := rfl
theorem s_M_apart_102 {x : Int32} {l0 l1 l2 l3 l4 l5 l6 l7 : Option Value} {l : eg_Lo} : wps rm K Q c_M_apart_102 kc ks (l0 :: l1 :: l2 :: l3 :: l4 :: l5 :: l6 :: l7 :: some (.int x) :: l) (st) h = wps rm K Q c_M_apart_104 kc ks (l0 :: l1 :: l2 :: l3 :: l4 :: l5 :: l6 :: l7 :: some (.int x) :: l) (.int x :: st) h := rfl
theorem s_M_apart_104 {x : Nat} {i : Int32} : wps rm K Q c_M_apart_104 kc ks loc (.int i :: .ref (x + 1) :: st) h = eg_ia h x i (fun v => wps rm K Q c_M_apart_105 kc ks loc (.int v :: st) h) := rfl
theorem s_M_apart_105 {x : Nat} {l : eg_Lo} : wps rm K Q c_M_apart_105 kc ks (some (.ref x) :: l) (st) h = wps rm K Q c_M_apart_106 kc ks (some (.ref x) :: l) (.ref x :: st) h := rfl
theorem s_M_apart_106 {x : Nat} : wps rm K Q c_M_apart_106 kc ks loc (.ref (x + 1) :: st) h = eg_gf h x 12 2 (fun v => wps rm K Q c_M_apart_109 kc ks loc (v :: st) h) := rfl
theorem s_M_apart_109 {x : Int32} {l0 l1 l2 l3 l4 l5 l6 l7 l8 : Option Value} {l : eg_Lo} : wps rm K Q c_M_apart_109 kc ks (l0 :: l1 :: l2 :: l3 :: l4 :: l5 :: l6 :: l7 :: l8 :: some (.int x) :: l) (st) h = wps rm K Q c_M_apart_111 kc ks (l0 :: l1 :: l2 :: l3 :: l4 :: l5 :: l6 :: l7 :: l8 :: some (.int x) :: l) (.int x :: st) h := rfl
theorem s_M_apart_111 {x : Nat} {i : Int32} : wps rm K Q c_M_apart_111 kc ks loc (.int i :: .ref (x + 1) :: st) h = eg_ia h x i (fun v => wps rm K Q c_M_apart_112 kc ks loc (.int v :: st) h) := rfl
theorem s_M_apart_112 {x y : Int32} : wps rm K Q c_M_apart_112 kc ks loc (.int y :: .int x :: st) h = wps rm K Q c_M_apart_113 kc ks loc (.int (x - y) :: st) h := rfl
theorem s_M_apart_113 {x : Int32} : wps rm K Q c_M_apart_113 kc ks loc (.int x :: st) h = wps rm K Q c_M_apart_114 kc ks loc (.long (x.toInt64) :: st) h := rfl
theorem s_M_apart_114 {x : Int64} : wps rm K Q c_M_apart_114 kc ks loc (.long x :: st) h = wps rm K Q c_M_apart_116 kc ks (eg_set2 loc 12 (.long x)) (st) h := rfl
theorem s_M_apart_116 {x : Nat} {l : eg_Lo} : wps rm K Q c_M_apart_116 kc ks (some (.ref x) :: l) (st) h = wps rm K Q c_M_apart_117 kc ks (some (.ref x) :: l) (.ref x :: st) h := rfl
theorem s_M_apart_117 {x : Nat} : wps rm K Q c_M_apart_117 kc ks loc (.ref (x + 1) :: st) h = eg_gf h x 12 3 (fun v => wps rm K Q c_M_apart_120 kc ks loc (v :: st) h) := rfl
theorem s_M_apart_120 {x : Int32} {l0 l1 l2 l3 l4 l5 l6 l7 : Option Value} {l : eg_Lo} : wps rm K Q c_M_apart_120 kc ks (l0 :: l1 :: l2 :: l3 :: l4 :: l5 :: l6 :: l7 :: some (.int x) :: l) (st) h = wps rm K Q c_M_apart_122 kc ks (l0 :: l1 :: l2 :: l3 :: l4 :: l5 :: l6 :: l7 :: some (.int x) :: l) (.int x :: st) h := rfl
theorem s_M_apart_122 {x : Nat} {i : Int32} : wps rm K Q c_M_apart_122 kc ks loc (.int i :: .ref (x + 1) :: st) h = eg_ia h x i (fun v => wps rm K Q c_M_apart_123 kc ks loc (.int v :: st) h) := rfl
theorem s_M_apart_123 {x : Nat} {l : eg_Lo} : wps rm K Q c_M_apart_123 kc ks (some (.ref x) :: l) (st) h = wps rm K Q c_M_apart_124 kc ks (some (.ref x) :: l) (.ref x :: st) h := rfl
theorem s_M_apart_124 {x : Nat} : wps rm K Q c_M_apart_124 kc ks loc (.ref (x + 1) :: st) h = eg_gf h x 12 3 (fun v => wps rm K Q c_M_apart_127 kc ks loc (v :: st) h) := rfl
theorem s_M_apart_127 {x : Int32} {l0 l1 l2 l3 l4 l5 l6 l7 l8 : Option Value} {l : eg_Lo} : wps rm K Q c_M_apart_127 kc ks (l0 :: l1 :: l2 :: l3 :: l4 :: l5 :: l6 :: l7 :: l8 :: some (.int x) :: l) (st) h = wps rm K Q c_M_apart_129 kc ks (l0 :: l1 :: l2 :: l3 :: l4 :: l5 :: l6 :: l7 :: l8 :: some (.int x) :: l) (.int x :: st) h := rfl
theorem s_M_apart_129 {x : Nat} {i : Int32} : wps rm K Q c_M_apart_129 kc ks loc (.int i :: .ref (x + 1) :: st) h = eg_ia h x i (fun v => wps rm K Q c_M_apart_130 kc ks loc (.int v :: st) h) := rfl
theorem s_M_apart_130 {x y : Int32} : wps rm K Q c_M_apart_130 kc ks loc (.int y :: .int x :: st) h = wps rm K Q c_M_apart_131 kc ks loc (.int (x - y) :: st) h := rfl
theorem s_M_apart_131 {x : Int32} : wps rm K Q c_M_apart_131 kc ks loc (.int x :: st) h = wps rm K Q c_M_apart_132 kc ks loc (.long (x.toInt64) :: st) h := rfl
theorem s_M_apart_132 {x : Int64} : wps rm K Q c_M_apart_132 kc ks loc (.long x :: st) h = wps rm K Q c_M_apart_134 kc ks (eg_set2 loc 14 (.long x)) (st) h := rfl
theorem s_M_apart_134 {x : Nat} {l : eg_Lo} : wps rm K Q c_M_apart_134 kc ks (some (.ref x) :: l) (st) h = wps rm K Q c_M_apart_135 kc ks (some (.ref x) :: l) (.ref x :: st) h := rfl
theorem s_M_apart_135 {x : Nat} : wps rm K Q c_M_apart_135 kc ks loc (.ref (x + 1) :: st) h = eg_gf h x 12 4 (fun v => wps rm K Q c_M_apart_138 kc ks loc (v :: st) h) := rfl
theorem s_M_apart_138 {x : Int32} {l0 l1 l2 l3 l4 l5 l6 l7 : Option Value} {l : eg_Lo} : wps rm K Q c_M_apart_138 kc ks (l0 :: l1 :: l2 :: l3 :: l4 :: l5 :: l6 :: l7 :: some (.int x) :: l) (st) h = wps rm K Q c_M_apart_140 kc ks (l0 :: l1 :: l2 :: l3 :: l4 :: l5 :: l6 :: l7 :: some (.int x) :: l) (.int x :: st) h := rfl
theorem s_M_apart_140 {x : Nat} {i : Int32} : wps rm K Q c_M_apart_140 kc ks loc (.int i :: .ref (x + 1) :: st) h = eg_ba h x i (fun v => wps rm K Q c_M_apart_141 kc ks loc (.int v :: st) h) := rfl
theorem s_M_apart_141 {x : Int32} : wps rm K Q c_M_apart_141 kc ks loc (.int x :: st) h = ((¬ x = 0 → K 154 kc ks loc st h) ∧ (x = 0 → wps rm K Q c_M_apart_144 kc ks loc (st) h)) := rfl
theorem s_M_apart_144 {x : Nat} {l : eg_Lo} : wps rm K Q c_M_apart_144 kc ks (some (.ref x) :: l) (st) h = wps rm K Q c_M_apart_145 kc ks (some (.ref x) :: l) (.ref x :: st) h := rfl
theorem s_M_apart_145 {x : Nat} : wps rm K Q c_M_apart_145 kc ks loc (.ref (x + 1) :: st) h = eg_gf h x 12 4 (fun v => wps rm K Q c_M_apart_148 kc ks loc (v :: st) h) := rfl
theorem s_M_apart_148 {x : Int32} {l0 l1 l2 l3 l4 l5 l6 l7 l8 : Option Value} {l : eg_Lo} : wps rm K Q c_M_apart_148 kc ks (l0 :: l1 :: l2 :: l3 :: l4 :: l5 :: l6 :: l7 :: l8 :: some (.int x) :: l) (st) h = wps rm K Q c_M_apart_150 kc ks (l0 :: l1 :: l2 :: l3 :: l4 :: l5 :: l6 :: l7 :: l8 :: some (.int x) :: l) (.int x :: st) h := rfl
theorem s_M_apart_150 {x : Nat} {i : Int32} : wps rm K Q c_M_apart_150 kc ks loc (.int i :: .ref (x + 1) :: st) h = eg_ba h x i (fun v => wps rm K Q c_M_apart_151 kc ks loc (.int v :: st) h) := rfl
theorem s_M_apart_151 {x : Int32} : wps rm K Q c_M_apart_151 kc ks loc (.int x :: st) h = ((x = 0 → K 160 kc ks loc st h) ∧ (¬ x = 0 → wps rm K Q c_M_apart_154 kc ks loc (st) h)) := rfl
theorem s_M_apart_154  : wps rm K Q c_M_apart_154 kc ks loc (st) h = wps rm K Q c_M_apart_157 kc ks loc (.long (-1) :: st) h := rfl
theorem s_M_apart_157  : wps rm K Q c_M_apart_157 kc ks loc (st) h = K 177 kc ks loc st h := rfl
theorem s_M_apart_160 {x : Int64} {l0 l1 l2 l3 l4 l5 l6 l7 l8 l9 : Option Value} {l : eg_Lo} : wps rm K Q c_M_apart_160 kc ks (l0 :: l1 :: l2 :: l3 :: l4 :: l5 :: l6 :: l7 :: l8 :: l9 :: some (.long x) :: l) (st) h = wps rm K Q c_M_apart_162 kc ks (l0 :: l1 :: l2 :: l3 :: l4 :: l5 :: l6 :: l7 :: l8 :: l9 :: some (.long x) :: l) (.long x :: st) h := rfl
theorem s_M_apart_162 {x : Int64} {l0 l1 l2 l3 l4 l5 l6 l7 l8 l9 : Option Value} {l : eg_Lo} : wps rm K Q c_M_apart_162 kc ks (l0 :: l1 :: l2 :: l3 :: l4 :: l5 :: l6 :: l7 :: l8 :: l9 :: some (.long x) :: l) (st) h = wps rm K Q c_M_apart_164 kc ks (l0 :: l1 :: l2 :: l3 :: l4 :: l5 :: l6 :: l7 :: l8 :: l9 :: some (.long x) :: l) (.long x :: st) h := rfl
theorem s_M_apart_164 {x y : Int64} : wps rm K Q c_M_apart_164 kc ks loc (.long y :: .long x :: st) h = wps rm K Q c_M_apart_165 kc ks loc (.long (x * y) :: st) h := rfl
theorem s_M_apart_165 {x : Int64} {l0 l1 l2 l3 l4 l5 l6 l7 l8 l9 l10 l11 : Option Value} {l : eg_Lo} : wps rm K Q c_M_apart_165 kc ks (l0 :: l1 :: l2 :: l3 :: l4 :: l5 :: l6 :: l7 :: l8 :: l9 :: l10 :: l11 :: some (.long x) :: l) (st) h = wps rm K Q c_M_apart_167 kc ks (l0 :: l1 :: l2 :: l3 :: l4 :: l5 :: l6 :: l7 :: l8 :: l9 :: l10 :: l11 :: some (.long x) :: l) (.long x :: st) h := rfl
theorem s_M_apart_167 {x : Int64} {l0 l1 l2 l3 l4 l5 l6 l7 l8 l9 l10 l11 : Option Value} {l : eg_Lo} : wps rm K Q c_M_apart_167 kc ks (l0 :: l1 :: l2 :: l3 :: l4 :: l5 :: l6 :: l7 :: l8 :: l9 :: l10 :: l11 :: some (.long x) :: l) (st) h = wps rm K Q c_M_apart_169 kc ks (l0 :: l1 :: l2 :: l3 :: l4 :: l5 :: l6 :: l7 :: l8 :: l9 :: l10 :: l11 :: some (.long x) :: l) (.long x :: st) h := rfl
theorem s_M_apart_169 {x y : Int64} : wps rm K Q c_M_apart_169 kc ks loc (.long y :: .long x :: st) h = wps rm K Q c_M_apart_170 kc ks loc (.long (x * y) :: st) h := rfl
theorem s_M_apart_170 {x y : Int64} : wps rm K Q c_M_apart_170 kc ks loc (.long y :: .long x :: st) h = wps rm K Q c_M_apart_171 kc ks loc (.long (x + y) :: st) h := rfl
theorem s_M_apart_171 {x : Int64} {l0 l1 l2 l3 l4 l5 l6 l7 l8 l9 l10 l11 l12 l13 : Option Value} {l : eg_Lo} : wps rm K Q c_M_apart_171 kc ks (l0 :: l1 :: l2 :: l3 :: l4 :: l5 :: l6 :: l7 :: l8 :: l9 :: l10 :: l11 :: l12 :: l13 :: some (.long x) :: l) (st) h = wps rm K Q c_M_apart_173 kc ks (l0 :: l1 :: l2 :: l3 :: l4 :: l5 :: l6 :: l7 :: l8 :: l9 :: l10 :: l11 :: l12 :: l13 :: some (.long x) :: l) (.long x :: st) h := rfl
theorem s_M_apart_173 {x : Int64} {l0 l1 l2 l3 l4 l5 l6 l7 l8 l9 l10 l11 l12 l13 : Option Value} {l : eg_Lo} : wps rm K Q c_M_apart_173 kc ks (l0 :: l1 :: l2 :: l3 :: l4 :: l5 :: l6 :: l7 :: l8 :: l9 :: l10 :: l11 :: l12 :: l13 :: some (.long x) :: l) (st) h = wps rm K Q c_M_apart_175 kc ks (l0 :: l1 :: l2 :: l3 :: l4 :: l5 :: l6 :: l7 :: l8 :: l9 :: l10 :: l11 :: l12 :: l13 :: some (.long x) :: l) (.long x :: st) h := rfl
theorem s_M_apart_175 {x y : Int64} : wps rm K Q c_M_apart_175 kc ks loc (.long y :: .long x :: st) h = wps rm K Q c_M_apart_176 kc ks loc (.long (x * y) :: st) h := rfl
theorem s_M_apart_176 {x y : Int64} : wps rm K Q c_M_apart_176 kc ks loc (.long y :: .long x :: st) h = wps rm K Q c_M_apart_177 kc ks loc (.long (x + y) :: st) h := rfl
theorem s_M_apart_177 {x : Int64} : wps rm K Q c_M_apart_177 kc ks loc (.long x :: st) h = wps rm K Q c_M_apart_179 kc ks (eg_set2 loc 16 (.long x)) (st) h := rfl
theorem s_M_apart_179 {x : Int64} {l0 l1 l2 l3 l4 l5 l6 l7 l8 l9 l10 l11 l12 l13 l14 l15 : Option Value} {l : eg_Lo} : wps rm K Q c_M_apart_179 kc ks (l0 :: l1 :: l2 :: l3 :: l4 :: l5 :: l6 :: l7 :: l8 :: l9 :: l10 :: l11 :: l12 :: l13 :: l14 :: l15 :: some (.long x) :: l) (st) h = wps rm K Q c_M_apart_181 kc ks (l0 :: l1 :: l2 :: l3 :: l4 :: l5 :: l6 :: l7 :: l8 :: l9 :: l10 :: l11 :: l12 :: l13 :: l14 :: l15 :: some (.long x) :: l) (.long x :: st) h := rfl
theorem s_M_apart_181 {x : Int64} {l0 l1 l2 l3 : Option Value} {l : eg_Lo} : wps rm K Q c_M_apart_181 kc ks (l0 :: l1 :: l2 :: l3 :: some (.long x) :: l) (st) h = wps rm K Q c_M_apart_183 kc ks (l0 :: l1 :: l2 :: l3 :: some (.long x) :: l) (.long x :: st) h := rfl
theorem s_M_apart_183 {x y : Int64} : wps rm K Q c_M_apart_183 kc ks loc (.long y :: .long x :: st) h = wps rm K Q c_M_apart_184 kc ks loc (.int (lg_cmp x y) :: st) h := rfl
theorem s_M_apart_184 {x : Int32} : wps rm K Q c_M_apart_184 kc ks loc (.int x :: st) h = ((x ≤ 0 → K 192 kc ks loc st h) ∧ (¬ x ≤ 0 → wps rm K Q c_M_apart_187 kc ks loc (st) h)) := rfl
theorem s_M_apart_187 {x : Int32} {l0 l1 l2 l3 l4 l5 l6 : Option Value} {l : eg_Lo} : wps rm K Q c_M_apart_187 kc ks (l0 :: l1 :: l2 :: l3 :: l4 :: l5 :: l6 :: some (.int x) :: l) (st) h = wps rm K Q c_M_apart_189 kc ks (l0 :: l1 :: l2 :: l3 :: l4 :: l5 :: l6 :: some (.int x) :: l) (.int x :: st) h := rfl
theorem s_M_apart_189  : wps rm K Q c_M_apart_189 kc ks loc (st) h = K 194 kc ks loc st h := rfl
theorem s_M_apart_192 {x : Int32} {l0 l1 l2 l3 l4 l5 : Option Value} {l : eg_Lo} : wps rm K Q c_M_apart_192 kc ks (l0 :: l1 :: l2 :: l3 :: l4 :: l5 :: some (.int x) :: l) (st) h = wps rm K Q c_M_apart_194 kc ks (l0 :: l1 :: l2 :: l3 :: l4 :: l5 :: some (.int x) :: l) (.int x :: st) h := rfl
theorem s_M_apart_194 {x : Int32} : wps rm K Q c_M_apart_194 kc ks loc (.int x :: st) h = wps rm K Q c_M_apart_196 kc ks (eg_set1 loc 6 (.int x)) (st) h := rfl
theorem s_M_apart_196 {x : Int64} {l0 l1 l2 l3 l4 l5 l6 l7 l8 l9 l10 l11 l12 l13 l14 l15 : Option Value} {l : eg_Lo} : wps rm K Q c_M_apart_196 kc ks (l0 :: l1 :: l2 :: l3 :: l4 :: l5 :: l6 :: l7 :: l8 :: l9 :: l10 :: l11 :: l12 :: l13 :: l14 :: l15 :: some (.long x) :: l) (st) h = wps rm K Q c_M_apart_198 kc ks (l0 :: l1 :: l2 :: l3 :: l4 :: l5 :: l6 :: l7 :: l8 :: l9 :: l10 :: l11 :: l12 :: l13 :: l14 :: l15 :: some (.long x) :: l) (.long x :: st) h := rfl
theorem s_M_apart_198 {x : Int64} {l0 l1 l2 l3 : Option Value} {l : eg_Lo} : wps rm K Q c_M_apart_198 kc ks (l0 :: l1 :: l2 :: l3 :: some (.long x) :: l) (st) h = wps rm K Q c_M_apart_200 kc ks (l0 :: l1 :: l2 :: l3 :: some (.long x) :: l) (.long x :: st) h := rfl
theorem s_M_apart_200 {x y : Int64} : wps rm K Q c_M_apart_200 kc ks loc (.long y :: .long x :: st) h = wps rm K Q c_M_apart_201 kc ks loc (.int (lg_cmp x y) :: st) h := rfl
theorem s_M_apart_201 {x : Int32} : wps rm K Q c_M_apart_201 kc ks loc (.int x :: st) h = ((x ≤ 0 → K 209 kc ks loc st h) ∧ (¬ x ≤ 0 → wps rm K Q c_M_apart_204 kc ks loc (st) h)) := rfl
theorem s_M_apart_204 {x : Int64} {l0 l1 l2 l3 l4 l5 l6 l7 l8 l9 l10 l11 l12 l13 l14 l15 : Option Value} {l : eg_Lo} : wps rm K Q c_M_apart_204 kc ks (l0 :: l1 :: l2 :: l3 :: l4 :: l5 :: l6 :: l7 :: l8 :: l9 :: l10 :: l11 :: l12 :: l13 :: l14 :: l15 :: some (.long x) :: l) (st) h = wps rm K Q c_M_apart_206 kc ks (l0 :: l1 :: l2 :: l3 :: l4 :: l5 :: l6 :: l7 :: l8 :: l9 :: l10 :: l11 :: l12 :: l13 :: l14 :: l15 :: some (.long x) :: l) (.long x :: st) h := rfl
theorem s_M_apart_206  : wps rm K Q c_M_apart_206 kc ks loc (st) h = K 211 kc ks loc st h := rfl
theorem s_M_apart_209 {x : Int64} {l0 l1 l2 l3 : Option Value} {l : eg_Lo} : wps rm K Q c_M_apart_209 kc ks (l0 :: l1 :: l2 :: l3 :: some (.long x) :: l) (st) h = wps rm K Q c_M_apart_211 kc ks (l0 :: l1 :: l2 :: l3 :: some (.long x) :: l) (.long x :: st) h := rfl
theorem s_M_apart_211 {x : Int64} : wps rm K Q c_M_apart_211 kc ks loc (.long x :: st) h = wps rm K Q c_M_apart_213 kc ks (eg_set2 loc 4 (.long x)) (st) h := rfl
theorem s_M_apart_213 {x : Int32} {l0 l1 l2 l3 l4 l5 l6 : Option Value} {l9 : eg_Lo} : wps rm K Q c_M_apart_213 kc ks (l0 :: l1 :: l2 :: l3 :: l4 :: l5 :: l6 :: some (.int x) :: l9) (st) h = wps rm K Q c_M_apart_216 kc ks (eg_set1 (l0 :: l1 :: l2 :: l3 :: l4 :: l5 :: l6 :: some (.int x) :: l9) 7 (.int (x + (1)))) (st) h := rfl
theorem s_M_apart_216  : wps rm K Q c_M_apart_216 kc ks loc (st) h = K 42 kc ks loc st h := rfl
theorem s_M_apart_219 {x : Int64} {l0 l1 l2 l3 : Option Value} {l : eg_Lo} : wps rm K Q c_M_apart_219 kc ks (l0 :: l1 :: l2 :: l3 :: some (.long x) :: l) (st) h = wps rm K Q c_M_apart_221 kc ks (l0 :: l1 :: l2 :: l3 :: some (.long x) :: l) (.long x :: st) h := rfl
theorem s_M_apart_221  : wps rm K Q c_M_apart_221 kc ks loc (st) h = wps rm K Q c_M_apart_222 kc ks loc (.long (0) :: st) h := rfl
theorem s_M_apart_222 {x y : Int64} : wps rm K Q c_M_apart_222 kc ks loc (.long y :: .long x :: st) h = wps rm K Q c_M_apart_223 kc ks loc (.int (lg_cmp x y) :: st) h := rfl
theorem s_M_apart_223 {x : Int32} : wps rm K Q c_M_apart_223 kc ks loc (.int x :: st) h = ((0 ≤ x → K 236 kc ks loc st h) ∧ (¬ 0 ≤ x → wps rm K Q c_M_apart_226 kc ks loc (st) h)) := rfl
theorem s_M_apart_226 {x : Nat} {l : eg_Lo} : wps rm K Q c_M_apart_226 kc ks (some (.ref x) :: l) (st) h = wps rm K Q c_M_apart_227 kc ks (some (.ref x) :: l) (.ref x :: st) h := rfl
theorem s_M_apart_227  : wps rm K Q c_M_apart_227 kc ks loc (st) h = wps rm K Q c_M_apart_230 kc ks loc (.long (-1000000000000000006) :: st) h := rfl
theorem s_M_apart_230  {a1 : Value} {x : Nat} : wps rm K Q c_M_apart_230 kc ks loc (a1 :: .ref (x + 1) :: st) h = (eg_cls h x 12 ∧ st.length ≤ 4 ∧ eg_Cs n_M_finding (.ref (x + 1) :: [a1]) h (fun v h9 => wps rm K Q c_M_apart_233 kc ks loc (v.toList ++ st) h9)) := eg_c1_1
theorem s_M_apart_233  : wps rm K Q c_M_apart_233 kc ks loc (st) h = K 248 kc ks loc st h := rfl
theorem s_M_apart_236 {x : Int32} {l0 l1 l2 : Option Value} {l : eg_Lo} : wps rm K Q c_M_apart_236 kc ks (l0 :: l1 :: l2 :: some (.int x) :: l) (st) h = wps rm K Q c_M_apart_237 kc ks (l0 :: l1 :: l2 :: some (.int x) :: l) (.int x :: st) h := rfl
theorem s_M_apart_237 {x : Int32} : wps rm K Q c_M_apart_237 kc ks loc (.int x :: st) h = ((¬ x = 0 → K 245 kc ks loc st h) ∧ (x = 0 → wps rm K Q c_M_apart_240 kc ks loc (st) h)) := rfl
theorem s_M_apart_240 {x : Int64} {l0 l1 l2 l3 : Option Value} {l : eg_Lo} : wps rm K Q c_M_apart_240 kc ks (l0 :: l1 :: l2 :: l3 :: some (.long x) :: l) (st) h = wps rm K Q c_M_apart_242 kc ks (l0 :: l1 :: l2 :: l3 :: some (.long x) :: l) (.long x :: st) h := rfl
theorem s_M_apart_242  : wps rm K Q c_M_apart_242 kc ks loc (st) h = K 248 kc ks loc st h := rfl
theorem s_M_apart_245 {x : Int32} {l0 l1 l2 l3 l4 l5 : Option Value} {l : eg_Lo} : wps rm K Q c_M_apart_245 kc ks (l0 :: l1 :: l2 :: l3 :: l4 :: l5 :: some (.int x) :: l) (st) h = wps rm K Q c_M_apart_247 kc ks (l0 :: l1 :: l2 :: l3 :: l4 :: l5 :: some (.int x) :: l) (.int x :: st) h := rfl
theorem s_M_apart_247 {x : Int32} : wps rm K Q c_M_apart_247 kc ks loc (.int x :: st) h = wps rm K Q c_M_apart_248 kc ks loc (.long (x.toInt64) :: st) h := rfl
theorem s_M_apart_248 {x : Int64} : wps rm K Q c_M_apart_248 kc ks loc ([.long x]) h = (kc = rm.cells ∧ Q (some (.long x)) h) := rfl
def T_M_apart : List (Nat × List eg_I) := [(23, c_M_apart_23), (31, c_M_apart_31), (154, c_M_apart_154), (160, c_M_apart_160), (177, c_M_apart_177), (192, c_M_apart_192), (194, c_M_apart_194), (209, c_M_apart_209), (211, c_M_apart_211), (219, c_M_apart_219), (236, c_M_apart_236), (245, c_M_apart_245), (248, c_M_apart_248)]
theorem j_M_apart_23 {R : Nat → Nat → Nat → eg_Lo → List Value → List eg_E → Prop} {f pc0 : Nat} : eg_run rm R Q T_M_apart (f + 1) 23 kc ks loc st h = wps rm (eg_run rm R Q T_M_apart f) Q c_M_apart_23 kc ks loc st h := rfl
theorem j_M_apart_31 {R : Nat → Nat → Nat → eg_Lo → List Value → List eg_E → Prop} {f pc0 : Nat} : eg_run rm R Q T_M_apart (f + 1) 31 kc ks loc st h = wps rm (eg_run rm R Q T_M_apart f) Q c_M_apart_31 kc ks loc st h := rfl
theorem j_M_apart_154 {R : Nat → Nat → Nat → eg_Lo → List Value → List eg_E → Prop} {f pc0 : Nat} : eg_run rm R Q T_M_apart (f + 1) 154 kc ks loc st h = wps rm (eg_run rm R Q T_M_apart f) Q c_M_apart_154 kc ks loc st h := rfl
theorem j_M_apart_160 {R : Nat → Nat → Nat → eg_Lo → List Value → List eg_E → Prop} {f pc0 : Nat} : eg_run rm R Q T_M_apart (f + 1) 160 kc ks loc st h = wps rm (eg_run rm R Q T_M_apart f) Q c_M_apart_160 kc ks loc st h := rfl
theorem j_M_apart_177 {R : Nat → Nat → Nat → eg_Lo → List Value → List eg_E → Prop} {f pc0 : Nat} : eg_run rm R Q T_M_apart (f + 1) 177 kc ks loc st h = wps rm (eg_run rm R Q T_M_apart f) Q c_M_apart_177 kc ks loc st h := rfl
theorem j_M_apart_192 {R : Nat → Nat → Nat → eg_Lo → List Value → List eg_E → Prop} {f pc0 : Nat} : eg_run rm R Q T_M_apart (f + 1) 192 kc ks loc st h = wps rm (eg_run rm R Q T_M_apart f) Q c_M_apart_192 kc ks loc st h := rfl
theorem j_M_apart_194 {R : Nat → Nat → Nat → eg_Lo → List Value → List eg_E → Prop} {f pc0 : Nat} : eg_run rm R Q T_M_apart (f + 1) 194 kc ks loc st h = wps rm (eg_run rm R Q T_M_apart f) Q c_M_apart_194 kc ks loc st h := rfl
theorem j_M_apart_209 {R : Nat → Nat → Nat → eg_Lo → List Value → List eg_E → Prop} {f pc0 : Nat} : eg_run rm R Q T_M_apart (f + 1) 209 kc ks loc st h = wps rm (eg_run rm R Q T_M_apart f) Q c_M_apart_209 kc ks loc st h := rfl
theorem j_M_apart_211 {R : Nat → Nat → Nat → eg_Lo → List Value → List eg_E → Prop} {f pc0 : Nat} : eg_run rm R Q T_M_apart (f + 1) 211 kc ks loc st h = wps rm (eg_run rm R Q T_M_apart f) Q c_M_apart_211 kc ks loc st h := rfl
theorem j_M_apart_219 {R : Nat → Nat → Nat → eg_Lo → List Value → List eg_E → Prop} {f pc0 : Nat} : eg_run rm R Q T_M_apart (f + 1) 219 kc ks loc st h = wps rm (eg_run rm R Q T_M_apart f) Q c_M_apart_219 kc ks loc st h := rfl
theorem j_M_apart_236 {R : Nat → Nat → Nat → eg_Lo → List Value → List eg_E → Prop} {f pc0 : Nat} : eg_run rm R Q T_M_apart (f + 1) 236 kc ks loc st h = wps rm (eg_run rm R Q T_M_apart f) Q c_M_apart_236 kc ks loc st h := rfl
theorem j_M_apart_245 {R : Nat → Nat → Nat → eg_Lo → List Value → List eg_E → Prop} {f pc0 : Nat} : eg_run rm R Q T_M_apart (f + 1) 245 kc ks loc st h = wps rm (eg_run rm R Q T_M_apart f) Q c_M_apart_245 kc ks loc st h := rfl
theorem j_M_apart_248 {R : Nat → Nat → Nat → eg_Lo → List Value → List eg_E → Prop} {f pc0 : Nat} : eg_run rm R Q T_M_apart (f + 1) 248 kc ks loc st h = wps rm (eg_run rm R Q T_M_apart f) Q c_M_apart_248 kc ks loc st h := rfl
theorem j_M_apart_42 {R : Nat → Nat → Nat → eg_Lo → List Value → List eg_E → Prop} {f pc0 : Nat} : eg_run rm R Q T_M_apart (f + 1) 42 kc ks loc st h = R 42 kc ks loc st h := rfl
end
theorem q_M_apart : (T_M_apart.all fun q => eg_seq m_M_apart q.1 q.2) = true := by decide +kernel
theorem b_M_apart {as : List Value} {h : List eg_E} {Q : Option Value → List eg_E → Prop} (hf : (eg_fl as).length ≤ 18) (hw : wps (eg_rm m_M_apart) (eg_run (eg_rm m_M_apart) (eg_R m_M_apart Q (h.length + 0)) Q T_M_apart 15) Q c_M_apart_0 0 0 (eg_entry 18 as) [] h) : eg_Runs n_M_apart as h Q := eg_begin (d := m_M_apart) rfl (by decide) (by decide +kernel) q_M_apart hf hw
theorem p_M_apart_42 {Q : Option Value → List eg_E → Prop} {n0 kc ks : Nat} {loc : eg_Lo} {st : List Value} {h : List eg_E} (hw : wps (eg_rm m_M_apart) (eg_run (eg_rm m_M_apart) (eg_R m_M_apart Q n0) Q T_M_apart 15) Q c_M_apart_42 kc ks loc st h) : eg_R m_M_apart Q n0 42 kc ks loc st h := eg_go (by decide +kernel) q_M_apart hw
/-! ===== M_isSheet ===== -/
def c_M_isSheet_6 : List eg_I := .inl (6, 1, .ireturn, 0, 1) :: []
def c_M_isSheet_3 : List eg_I := .inr (3, 0, 95, n_M_isIn, 3, 12, 0, 0) :: c_M_isSheet_6
def c_M_isSheet_2 : List eg_I := .inl (2, 1, .iconst (3), 0, 0) :: c_M_isSheet_3
def c_M_isSheet_1 : List eg_I := .inl (1, 1, .iconst (0), 0, 0) :: c_M_isSheet_2
def c_M_isSheet_0 : List eg_I := .inl (0, 1, .iload 0, 0, 0) :: c_M_isSheet_1
section
variable {rm : Room} {K : Nat → Nat → Nat → eg_Lo → List Value → List eg_E → Prop} {Q : Option Value → List eg_E → Prop} {kc ks : Nat} {loc : eg_Lo} {st : List Value} {h : List eg_E}
theorem s_M_isSheet_0 {x : Int32} {l : eg_Lo} : wps rm K Q c_M_isSheet_0 kc ks (some (.int x) :: l) (st) h = wps rm K Q c_M_isSheet_1 kc ks (some (.int x) :: l) (.int x :: st) h := rfl
theorem s_M_isSheet_1  : wps rm K Q c_M_isSheet_1 kc ks loc (st) h = wps rm K Q c_M_isSheet_2 kc ks loc (.int (0) :: st) h := rfl
theorem s_M_isSheet_2  : wps rm K Q c_M_isSheet_2 kc ks loc (st) h = wps rm K Q c_M_isSheet_3 kc ks loc (.int (3) :: st) h := rfl
theorem s_M_isSheet_3  {a1 : Value} {a2 : Value} {a3 : Value} : wps rm K Q c_M_isSheet_3 kc ks loc (a3 :: a2 :: a1 :: st) h = (st.length ≤ 4 ∧ eg_Cs n_M_isIn [a1, a2, a3] h (fun v h9 => wps rm K Q c_M_isSheet_6 kc ks loc (v.toList ++ st) h9)) := eg_c0_3
theorem s_M_isSheet_6 {x : Int32} : wps rm K Q c_M_isSheet_6 kc ks loc ([.int x]) h = (kc = rm.cells ∧ ((1 : Nat) = 1 → x = 0 ∨ x = 1) ∧ Q (some (.int x)) h) := rfl
def T_M_isSheet : List (Nat × List eg_I) := []
end
theorem q_M_isSheet : (T_M_isSheet.all fun q => eg_seq m_M_isSheet q.1 q.2) = true := by decide +kernel
theorem b_M_isSheet {as : List Value} {h : List eg_E} {Q : Option Value → List eg_E → Prop} (hf : (eg_fl as).length ≤ 1) (hw : wps (eg_rm m_M_isSheet) (eg_run (eg_rm m_M_isSheet) (eg_R m_M_isSheet Q (h.length + 0)) Q T_M_isSheet 2) Q c_M_isSheet_0 0 0 (eg_entry 1 as) [] h) : eg_Runs n_M_isSheet as h Q := eg_begin (d := m_M_isSheet) rfl (by decide) (by decide +kernel) q_M_isSheet hf hw
/-! ===== M_sheet ===== -/
def c_M_sheet_121 : List eg_I := .inl (121, 1, .lreturn, 0, 0) :: []
def c_M_sheet_120 : List eg_I := .inl (120, 1, .i2l, 0, 0) :: c_M_sheet_121
def c_M_sheet_119 : List eg_I := .inl (119, 1, .iaload, 0, 0) :: c_M_sheet_120
def c_M_sheet_118 : List eg_I := .inl (118, 1, .iload 1, 0, 0) :: c_M_sheet_119
def c_M_sheet_115 : List eg_I := .inl (115, 3, .getfield 72, 12, 23) :: c_M_sheet_118
def c_M_sheet_114 : List eg_I := .inl (114, 1, .aload 0, 0, 0) :: c_M_sheet_115
def c_M_sheet_111 : List eg_I := .inl (111, 3, .goto (-36), 75, 0) :: []
def c_M_sheet_108 : List eg_I := .inl (108, 3, .iinc 4 (1), 0, 0) :: c_M_sheet_111
def c_M_sheet_107 : List eg_I := .inl (107, 1, .dastore, 0, 0) :: c_M_sheet_108
def c_M_sheet_106 : List eg_I := .inl (106, 1, .dconst 0, 0, 0) :: c_M_sheet_107
def c_M_sheet_105 : List eg_I := .inl (105, 1, .iadd, 0, 0) :: c_M_sheet_106
def c_M_sheet_103 : List eg_I := .inl (103, 2, .iload 4, 0, 0) :: c_M_sheet_105
def c_M_sheet_102 : List eg_I := .inl (102, 1, .imul, 0, 0) :: c_M_sheet_103
def c_M_sheet_101 : List eg_I := .inl (101, 1, .iload 1, 0, 0) :: c_M_sheet_102
def c_M_sheet_99 : List eg_I := .inl (99, 2, .iconst (48), 0, 0) :: c_M_sheet_101
def c_M_sheet_96 : List eg_I := .inl (96, 3, .getfield 78, 12, 25) :: c_M_sheet_99
def c_M_sheet_95 : List eg_I := .inl (95, 1, .aload 0, 0, 0) :: c_M_sheet_96
def c_M_sheet_94 : List eg_I := .inl (94, 1, .iastore, 0, 0) :: c_M_sheet_95
def c_M_sheet_93 : List eg_I := .inl (93, 1, .iconst (0), 0, 0) :: c_M_sheet_94
def c_M_sheet_92 : List eg_I := .inl (92, 1, .iadd, 0, 0) :: c_M_sheet_93
def c_M_sheet_90 : List eg_I := .inl (90, 2, .iload 4, 0, 0) :: c_M_sheet_92
def c_M_sheet_89 : List eg_I := .inl (89, 1, .imul, 0, 0) :: c_M_sheet_90
def c_M_sheet_88 : List eg_I := .inl (88, 1, .iload 1, 0, 0) :: c_M_sheet_89
def c_M_sheet_86 : List eg_I := .inl (86, 2, .iconst (48), 0, 0) :: c_M_sheet_88
def c_M_sheet_83 : List eg_I := .inl (83, 3, .getfield 75, 12, 24) :: c_M_sheet_86
def c_M_sheet_82 : List eg_I := .inl (82, 1, .aload 0, 0, 0) :: c_M_sheet_83
def c_M_sheet_79 : List eg_I := .inl (79, 3, .if_icmp .ge (35), 114, 0) :: c_M_sheet_82
def c_M_sheet_77 : List eg_I := .inl (77, 2, .iconst (48), 0, 0) :: c_M_sheet_79
def c_M_sheet_75 : List eg_I := .inl (75, 2, .iload 4, 0, 0) :: c_M_sheet_77
def c_M_sheet_73 : List eg_I := .inl (73, 2, .istore 4, 0, 0) :: [.inl (75, 0, .nop, 0, 0)]
def c_M_sheet_72 : List eg_I := .inl (72, 1, .iconst (0), 0, 0) :: c_M_sheet_73
def c_M_sheet_71 : List eg_I := .inl (71, 1, .iastore, 0, 0) :: c_M_sheet_72
def c_M_sheet_70 : List eg_I := .inl (70, 1, .iload 3, 0, 0) :: c_M_sheet_71
def c_M_sheet_67 : List eg_I := .inl (67, 3, .goto (4), 71, 0) :: []
def c_M_sheet_66 : List eg_I := .inl (66, 1, .iconst (0), 0, 0) :: c_M_sheet_67
def c_M_sheet_63 : List eg_I := .inl (63, 3, .ifCond .ne (7), 70, 0) :: c_M_sheet_66
def c_M_sheet_62 : List eg_I := .inl (62, 1, .iload 2, 0, 0) :: c_M_sheet_63
def c_M_sheet_61 : List eg_I := .inl (61, 1, .iload 1, 0, 0) :: c_M_sheet_62
def c_M_sheet_58 : List eg_I := .inl (58, 3, .getfield 72, 12, 23) :: c_M_sheet_61
def c_M_sheet_57 : List eg_I := .inl (57, 1, .aload 0, 0, 0) :: c_M_sheet_58
def c_M_sheet_56 : List eg_I := .inl (56, 1, .iastore, 0, 0) :: c_M_sheet_57
def c_M_sheet_55 : List eg_I := .inl (55, 1, .iload 2, 0, 0) :: c_M_sheet_56
def c_M_sheet_54 : List eg_I := .inl (54, 1, .iload 1, 0, 0) :: c_M_sheet_55
def c_M_sheet_51 : List eg_I := .inl (51, 3, .getfield 69, 12, 22) :: c_M_sheet_54
def c_M_sheet_50 : List eg_I := .inl (50, 1, .aload 0, 0, 0) :: c_M_sheet_51
def c_M_sheet_49 : List eg_I := .inl (49, 1, .lreturn, 0, 0) :: []
def c_M_sheet_46 : List eg_I := .inr (46, 1, 112, n_M_finding, 1, 12, 0, 0) :: c_M_sheet_49
def c_M_sheet_43 : List eg_I := .inl (43, 3, .sipush (-1000000000000000001), 110, 0) :: c_M_sheet_46
def c_M_sheet_42 : List eg_I := .inl (42, 1, .aload 0, 0, 0) :: c_M_sheet_43
def c_M_sheet_39 : List eg_I := .inl (39, 3, .if_icmp .le (11), 50, 0) :: c_M_sheet_42
def c_M_sheet_37 : List eg_I := .inl (37, 2, .iconst (48), 0, 0) :: c_M_sheet_39
def c_M_sheet_36 : List eg_I := .inl (36, 1, .iload 3, 0, 0) :: c_M_sheet_37
def c_M_sheet_35 : List eg_I := .inl (35, 1, .lreturn, 0, 0) :: []
def c_M_sheet_32 : List eg_I := .inr (32, 1, 112, n_M_finding, 1, 12, 0, 0) :: c_M_sheet_35
def c_M_sheet_29 : List eg_I := .inl (29, 3, .sipush (-1000000000000000003), 143, 0) :: c_M_sheet_32
def c_M_sheet_28 : List eg_I := .inl (28, 1, .aload 0, 0, 0) :: c_M_sheet_29
def c_M_sheet_25 : List eg_I := .inl (25, 3, .ifCond .ge (11), 36, 0) :: c_M_sheet_28
def c_M_sheet_24 : List eg_I := .inl (24, 1, .iload 3, 0, 0) :: c_M_sheet_25
def c_M_sheet_23 : List eg_I := .inl (23, 1, .lreturn, 0, 0) :: []
def c_M_sheet_20 : List eg_I := .inr (20, 1, 112, n_M_finding, 1, 12, 0, 0) :: c_M_sheet_23
def c_M_sheet_17 : List eg_I := .inl (17, 3, .sipush (-1000000000000000001), 110, 0) :: c_M_sheet_20
def c_M_sheet_16 : List eg_I := .inl (16, 1, .aload 0, 0, 0) :: c_M_sheet_17
def c_M_sheet_13 : List eg_I := .inl (13, 3, .ifCond .ne (11), 24, 0) :: c_M_sheet_16
def c_M_sheet_10 : List eg_I := .inr (10, 0, 95, n_M_isIn, 3, 12, 0, 0) :: c_M_sheet_13
def c_M_sheet_9 : List eg_I := .inl (9, 1, .iconst (3), 0, 0) :: c_M_sheet_10
def c_M_sheet_8 : List eg_I := .inl (8, 1, .iconst (0), 0, 0) :: c_M_sheet_9
def c_M_sheet_7 : List eg_I := .inl (7, 1, .iload 2, 0, 0) :: c_M_sheet_8
def c_M_sheet_4 : List eg_I := .inl (4, 3, .ifCond .eq (12), 16, 0) :: c_M_sheet_7
def c_M_sheet_1 : List eg_I := .inr (1, 0, 140, n_M_isSheet, 1, 12, 0, 0) :: c_M_sheet_4
def c_M_sheet_0 : List eg_I := .inl (0, 1, .iload 1, 0, 0) :: c_M_sheet_1
section
variable {rm : Room} {K : Nat → Nat → Nat → eg_Lo → List Value → List eg_E → Prop} {Q : Option Value → List eg_E → Prop} {kc ks : Nat} {loc : eg_Lo} {st : List Value} {h : List eg_E}
theorem s_M_sheet_0 {x : Int32} {l0 : Option Value} {l : eg_Lo} : wps rm K Q c_M_sheet_0 kc ks (l0 :: some (.int x) :: l) (st) h = wps rm K Q c_M_sheet_1 kc ks (l0 :: some (.int x) :: l) (.int x :: st) h := rfl
theorem s_M_sheet_1  {a1 : Value} : wps rm K Q c_M_sheet_1 kc ks loc (a1 :: st) h = (st.length ≤ 4 ∧ eg_Cs n_M_isSheet [a1] h (fun v h9 => wps rm K Q c_M_sheet_4 kc ks loc (v.toList ++ st) h9)) := eg_c0_1
theorem s_M_sheet_4 {x : Int32} : wps rm K Q c_M_sheet_4 kc ks loc (.int x :: st) h = ((x = 0 → K 16 kc ks loc st h) ∧ (¬ x = 0 → wps rm K Q c_M_sheet_7 kc ks loc (st) h)) := rfl
theorem s_M_sheet_7 {x : Int32} {l0 l1 : Option Value} {l : eg_Lo} : wps rm K Q c_M_sheet_7 kc ks (l0 :: l1 :: some (.int x) :: l) (st) h = wps rm K Q c_M_sheet_8 kc ks (l0 :: l1 :: some (.int x) :: l) (.int x :: st) h := rfl
theorem s_M_sheet_8  : wps rm K Q c_M_sheet_8 kc ks loc (st) h = wps rm K Q c_M_sheet_9 kc ks loc (.int (0) :: st) h := rfl
theorem s_M_sheet_9  : wps rm K Q c_M_sheet_9 kc ks loc (st) h = wps rm K Q c_M_sheet_10 kc ks loc (.int (3) :: st) h := rfl
theorem s_M_sheet_10  {a1 : Value} {a2 : Value} {a3 : Value} : wps rm K Q c_M_sheet_10 kc ks loc (a3 :: a2 :: a1 :: st) h = (st.length ≤ 4 ∧ eg_Cs n_M_isIn [a1, a2, a3] h (fun v h9 => wps rm K Q c_M_sheet_13 kc ks loc (v.toList ++ st) h9)) := eg_c0_3
theorem s_M_sheet_13 {x : Int32} : wps rm K Q c_M_sheet_13 kc ks loc (.int x :: st) h = ((¬ x = 0 → K 24 kc ks loc st h) ∧ (x = 0 → wps rm K Q c_M_sheet_16 kc ks loc (st) h)) := rfl
theorem s_M_sheet_16 {x : Nat} {l : eg_Lo} : wps rm K Q c_M_sheet_16 kc ks (some (.ref x) :: l) (st) h = wps rm K Q c_M_sheet_17 kc ks (some (.ref x) :: l) (.ref x :: st) h := rfl
theorem s_M_sheet_17  : wps rm K Q c_M_sheet_17 kc ks loc (st) h = wps rm K Q c_M_sheet_20 kc ks loc (.long (-1000000000000000001) :: st) h := rfl
theorem s_M_sheet_20  {a1 : Value} {x : Nat} : wps rm K Q c_M_sheet_20 kc ks loc (a1 :: .ref (x + 1) :: st) h = (eg_cls h x 12 ∧ st.length ≤ 4 ∧ eg_Cs n_M_finding (.ref (x + 1) :: [a1]) h (fun v h9 => wps rm K Q c_M_sheet_23 kc ks loc (v.toList ++ st) h9)) := eg_c1_1
theorem s_M_sheet_23 {x : Int64} : wps rm K Q c_M_sheet_23 kc ks loc ([.long x]) h = (kc = rm.cells ∧ Q (some (.long x)) h) := rfl
theorem s_M_sheet_24 {x : Int32} {l0 l1 l2 : Option Value} {l : eg_Lo} : wps rm K Q c_M_sheet_24 kc ks (l0 :: l1 :: l2 :: some (.int x) :: l) (st) h = wps rm K Q c_M_sheet_25 kc ks (l0 :: l1 :: l2 :: some (.int x) :: l) (.int x :: st) h := rfl
theorem s_M_sheet_25 {x : Int32} : wps rm K Q c_M_sheet_25 kc ks loc (.int x :: st) h = ((0 ≤ x → K 36 kc ks loc st h) ∧ (¬ 0 ≤ x → wps rm K Q c_M_sheet_28 kc ks loc (st) h)) := rfl
theorem s_M_sheet_28 {x : Nat} {l : eg_Lo} : wps rm K Q c_M_sheet_28 kc ks (some (.ref x) :: l) (st) h = wps rm K Q c_M_sheet_29 kc ks (some (.ref x) :: l) (.ref x :: st) h := rfl
theorem s_M_sheet_29  : wps rm K Q c_M_sheet_29 kc ks loc (st) h = wps rm K Q c_M_sheet_32 kc ks loc (.long (-1000000000000000003) :: st) h := rfl
theorem s_M_sheet_32  {a1 : Value} {x : Nat} : wps rm K Q c_M_sheet_32 kc ks loc (a1 :: .ref (x + 1) :: st) h = (eg_cls h x 12 ∧ st.length ≤ 4 ∧ eg_Cs n_M_finding (.ref (x + 1) :: [a1]) h (fun v h9 => wps rm K Q c_M_sheet_35 kc ks loc (v.toList ++ st) h9)) := eg_c1_1
theorem s_M_sheet_35 {x : Int64} : wps rm K Q c_M_sheet_35 kc ks loc ([.long x]) h = (kc = rm.cells ∧ Q (some (.long x)) h) := rfl
theorem s_M_sheet_36 {x : Int32} {l0 l1 l2 : Option Value} {l : eg_Lo} : wps rm K Q c_M_sheet_36 kc ks (l0 :: l1 :: l2 :: some (.int x) :: l) (st) h = wps rm K Q c_M_sheet_37 kc ks (l0 :: l1 :: l2 :: some (.int x) :: l) (.int x :: st) h := rfl
theorem s_M_sheet_37  : wps rm K Q c_M_sheet_37 kc ks loc (st) h = wps rm K Q c_M_sheet_39 kc ks loc (.int (48) :: st) h := rfl
theorem s_M_sheet_39 {x y : Int32} : wps rm K Q c_M_sheet_39 kc ks loc (.int y :: .int x :: st) h = ((x ≤ y → K 50 kc ks loc st h) ∧ (¬ x ≤ y → wps rm K Q c_M_sheet_42 kc ks loc (st) h)) := rfl
theorem s_M_sheet_42 {x : Nat} {l : eg_Lo} : wps rm K Q c_M_sheet_42 kc ks (some (.ref x) :: l) (st) h = wps rm K Q c_M_sheet_43 kc ks (some (.ref x) :: l) (.ref x :: st) h := rfl
theorem s_M_sheet_43  : wps rm K Q c_M_sheet_43 kc ks loc (st) h = wps rm K Q c_M_sheet_46 kc ks loc (.long (-1000000000000000001) :: st) h := rfl
theorem s_M_sheet_46  {a1 : Value} {x : Nat} : wps rm K Q c_M_sheet_46 kc ks loc (a1 :: .ref (x + 1) :: st) h = (eg_cls h x 12 ∧ st.length ≤ 4 ∧ eg_Cs n_M_finding (.ref (x + 1) :: [a1]) h (fun v h9 => wps rm K Q c_M_sheet_49 kc ks loc (v.toList ++ st) h9)) := eg_c1_1
theorem s_M_sheet_49 {x : Int64} : wps rm K Q c_M_sheet_49 kc ks loc ([.long x]) h = (kc = rm.cells ∧ Q (some (.long x)) h) := rfl
theorem s_M_sheet_50 {x : Nat} {l : eg_Lo} : wps rm K Q c_M_sheet_50 kc ks (some (.ref x) :: l) (st) h = wps rm K Q c_M_sheet_51 kc ks (some (.ref x) :: l) (.ref x :: st) h := rfl
theorem s_M_sheet_51 {x : Nat} : wps rm K Q c_M_sheet_51 kc ks loc (.ref (x + 1) :: st) h = eg_gf h x 12 22 (fun v => wps rm K Q c_M_sheet_54 kc ks loc (v :: st) h) := rfl
theorem s_M_sheet_54 {x : Int32} {l0 : Option Value} {l : eg_Lo} : wps rm K Q c_M_sheet_54 kc ks (l0 :: some (.int x) :: l) (st) h = wps rm K Q c_M_sheet_55 kc ks (l0 :: some (.int x) :: l) (.int x :: st) h := rfl
theorem s_M_sheet_55 {x : Int32} {l0 l1 : Option Value} {l : eg_Lo} : wps rm K Q c_M_sheet_55 kc ks (l0 :: l1 :: some (.int x) :: l) (st) h = wps rm K Q c_M_sheet_56 kc ks (l0 :: l1 :: some (.int x) :: l) (.int x :: st) h := rfl
theorem s_M_sheet_56 {x : Nat} {i : Int32} {v : Int32} : wps rm K Q c_M_sheet_56 kc ks loc (.int v :: .int i :: .ref (x + 1) :: st) h = eg_is h x i v (fun h9 => wps rm K Q c_M_sheet_57 kc ks loc (st) h9) := rfl
theorem s_M_sheet_57 {x : Nat} {l : eg_Lo} : wps rm K Q c_M_sheet_57 kc ks (some (.ref x) :: l) (st) h = wps rm K Q c_M_sheet_58 kc ks (some (.ref x) :: l) (.ref x :: st) h := rfl
theorem s_M_sheet_58 {x : Nat} : wps rm K Q c_M_sheet_58 kc ks loc (.ref (x + 1) :: st) h = eg_gf h x 12 23 (fun v => wps rm K Q c_M_sheet_61 kc ks loc (v :: st) h) := rfl
theorem s_M_sheet_61 {x : Int32} {l0 : Option Value} {l : eg_Lo} : wps rm K Q c_M_sheet_61 kc ks (l0 :: some (.int x) :: l) (st) h = wps rm K Q c_M_sheet_62 kc ks (l0 :: some (.int x) :: l) (.int x :: st) h := rfl
theorem s_M_sheet_62 {x : Int32} {l0 l1 : Option Value} {l : eg_Lo} : wps rm K Q c_M_sheet_62 kc ks (l0 :: l1 :: some (.int x) :: l) (st) h = wps rm K Q c_M_sheet_63 kc ks (l0 :: l1 :: some (.int x) :: l) (.int x :: st) h := rfl
theorem s_M_sheet_63 {x : Int32} : wps rm K Q c_M_sheet_63 kc ks loc (.int x :: st) h = ((¬ x = 0 → K 70 kc ks loc st h) ∧ (x = 0 → wps rm K Q c_M_sheet_66 kc ks loc (st) h)) := rfl
theorem s_M_sheet_66  : wps rm K Q c_M_sheet_66 kc ks loc (st) h = wps rm K Q c_M_sheet_67 kc ks loc (.int (0) :: st) h := rfl
theorem s_M_sheet_67  : wps rm K Q c_M_sheet_67 kc ks loc (st) h = K 71 kc ks loc st h := rfl
theorem s_M_sheet_70 {x : Int32} {l0 l1 l2 : Option Value} {l : eg_Lo} : wps rm K Q c_M_sheet_70 kc ks (l0 :: l1 :: l2 :: some (.int x) :: l) (st) h = wps rm K Q c_M_sheet_71 kc ks (l0 :: l1 :: l2 :: some (.int x) :: l) (.int x :: st) h := rfl
theorem s_M_sheet_71 {x : Nat} {i : Int32} {v : Int32} : wps rm K Q c_M_sheet_71 kc ks loc (.int v :: .int i :: .ref (x + 1) :: st) h = eg_is h x i v (fun h9 => wps rm K Q c_M_sheet_72 kc ks loc (st) h9) := rfl
theorem s_M_sheet_72  : wps rm K Q c_M_sheet_72 kc ks loc (st) h = wps rm K Q c_M_sheet_73 kc ks loc (.int (0) :: st) h := rfl
theorem s_M_sheet_73 {x : Int32} : wps rm K Q c_M_sheet_73 kc ks loc (.int x :: st) h = K 75 kc ks (eg_set1 loc 4 (.int x)) (st) h := rfl
theorem s_M_sheet_75 {x : Int32} {l0 l1 l2 l3 : Option Value} {l : eg_Lo} : wps rm K Q c_M_sheet_75 kc ks (l0 :: l1 :: l2 :: l3 :: some (.int x) :: l) (st) h = wps rm K Q c_M_sheet_77 kc ks (l0 :: l1 :: l2 :: l3 :: some (.int x) :: l) (.int x :: st) h := rfl
theorem s_M_sheet_77  : wps rm K Q c_M_sheet_77 kc ks loc (st) h = wps rm K Q c_M_sheet_79 kc ks loc (.int (48) :: st) h := rfl
theorem s_M_sheet_79 {x y : Int32} : wps rm K Q c_M_sheet_79 kc ks loc (.int y :: .int x :: st) h = ((y ≤ x → K 114 kc ks loc st h) ∧ (¬ y ≤ x → wps rm K Q c_M_sheet_82 kc ks loc (st) h)) := rfl
theorem s_M_sheet_82 {x : Nat} {l : eg_Lo} : wps rm K Q c_M_sheet_82 kc ks (some (.ref x) :: l) (st) h = wps rm K Q c_M_sheet_83 kc ks (some (.ref x) :: l) (.ref x :: st) h := rfl
theorem s_M_sheet_83 {x : Nat} : wps rm K Q c_M_sheet_83 kc ks loc (.ref (x + 1) :: st) h = eg_gf h x 12 24 (fun v => wps rm K Q c_M_sheet_86 kc ks loc (v :: st) h) := rfl
theorem s_M_sheet_86  : wps rm K Q c_M_sheet_86 kc ks loc (st) h = wps rm K Q c_M_sheet_88 kc ks loc (.int (48) :: st) h := rfl
theorem s_M_sheet_88 {x : Int32} {l0 : Option Value} {l : eg_Lo} : wps rm K Q c_M_sheet_88 kc ks (l0 :: some (.int x) :: l) (st) h = wps rm K Q c_M_sheet_89 kc ks (l0 :: some (.int x) :: l) (.int x :: st) h := rfl
theorem s_M_sheet_89 {x y : Int32} : wps rm K Q c_M_sheet_89 kc ks loc (.int y :: .int x :: st) h = wps rm K Q c_M_sheet_90 kc ks loc (.int (x * y) :: st) h := rfl
theorem s_M_sheet_90 {x : Int32} {l0 l1 l2 l3 : Option Value} {l : eg_Lo} : wps rm K Q c_M_sheet_90 kc ks (l0 :: l1 :: l2 :: l3 :: some (.int x) :: l) (st) h = wps rm K Q c_M_sheet_92 kc ks (l0 :: l1 :: l2 :: l3 :: some (.int x) :: l) (.int x :: st) h := rfl
theorem s_M_sheet_92 {x y : Int32} : wps rm K Q c_M_sheet_92 kc ks loc (.int y :: .int x :: st) h = wps rm K Q c_M_sheet_93 kc ks loc (.int (x + y) :: st) h := rfl
theorem s_M_sheet_93  : wps rm K Q c_M_sheet_93 kc ks loc (st) h = wps rm K Q c_M_sheet_94 kc ks loc (.int (0) :: st) h := rfl
theorem s_M_sheet_94 {x : Nat} {i : Int32} {v : Int32} : wps rm K Q c_M_sheet_94 kc ks loc (.int v :: .int i :: .ref (x + 1) :: st) h = eg_is h x i v (fun h9 => wps rm K Q c_M_sheet_95 kc ks loc (st) h9) := rfl
theorem s_M_sheet_95 {x : Nat} {l : eg_Lo} : wps rm K Q c_M_sheet_95 kc ks (some (.ref x) :: l) (st) h = wps rm K Q c_M_sheet_96 kc ks (some (.ref x) :: l) (.ref x :: st) h := rfl
theorem s_M_sheet_96 {x : Nat} : wps rm K Q c_M_sheet_96 kc ks loc (.ref (x + 1) :: st) h = eg_gf h x 12 25 (fun v => wps rm K Q c_M_sheet_99 kc ks loc (v :: st) h) := rfl
theorem s_M_sheet_99  : wps rm K Q c_M_sheet_99 kc ks loc (st) h = wps rm K Q c_M_sheet_101 kc ks loc (.int (48) :: st) h := rfl
theorem s_M_sheet_101 {x : Int32} {l0 : Option Value} {l : eg_Lo} : wps rm K Q c_M_sheet_101 kc ks (l0 :: some (.int x) :: l) (st) h = wps rm K Q c_M_sheet_102 kc ks (l0 :: some (.int x) :: l) (.int x :: st) h := rfl
theorem s_M_sheet_102 {x y : Int32} : wps rm K Q c_M_sheet_102 kc ks loc (.int y :: .int x :: st) h = wps rm K Q c_M_sheet_103 kc ks loc (.int (x * y) :: st) h := rfl
theorem s_M_sheet_103 {x : Int32} {l0 l1 l2 l3 : Option Value} {l : eg_Lo} : wps rm K Q c_M_sheet_103 kc ks (l0 :: l1 :: l2 :: l3 :: some (.int x) :: l) (st) h = wps rm K Q c_M_sheet_105 kc ks (l0 :: l1 :: l2 :: l3 :: some (.int x) :: l) (.int x :: st) h := rfl
theorem s_M_sheet_105 {x y : Int32} : wps rm K Q c_M_sheet_105 kc ks loc (.int y :: .int x :: st) h = wps rm K Q c_M_sheet_106 kc ks loc (.int (x + y) :: st) h := rfl
theorem s_M_sheet_106  : wps rm K Q c_M_sheet_106 kc ks loc (st) h = wps rm K Q c_M_sheet_107 kc ks loc (.double FP.dconst0 :: st) h := rfl
theorem s_M_sheet_107 {x : Nat} {i : Int32} {v : UInt64} : wps rm K Q c_M_sheet_107 kc ks loc (.double v :: .int i :: .ref (x + 1) :: st) h = eg_ds h x i v (fun h9 => wps rm K Q c_M_sheet_108 kc ks loc (st) h9) := rfl
theorem s_M_sheet_108 {x : Int32} {l0 l1 l2 l3 : Option Value} {l9 : eg_Lo} : wps rm K Q c_M_sheet_108 kc ks (l0 :: l1 :: l2 :: l3 :: some (.int x) :: l9) (st) h = wps rm K Q c_M_sheet_111 kc ks (eg_set1 (l0 :: l1 :: l2 :: l3 :: some (.int x) :: l9) 4 (.int (x + (1)))) (st) h := rfl
theorem s_M_sheet_111  : wps rm K Q c_M_sheet_111 kc ks loc (st) h = K 75 kc ks loc st h := rfl
theorem s_M_sheet_114 {x : Nat} {l : eg_Lo} : wps rm K Q c_M_sheet_114 kc ks (some (.ref x) :: l) (st) h = wps rm K Q c_M_sheet_115 kc ks (some (.ref x) :: l) (.ref x :: st) h := rfl
theorem s_M_sheet_115 {x : Nat} : wps rm K Q c_M_sheet_115 kc ks loc (.ref (x + 1) :: st) h = eg_gf h x 12 23 (fun v => wps rm K Q c_M_sheet_118 kc ks loc (v :: st) h) := rfl
theorem s_M_sheet_118 {x : Int32} {l0 : Option Value} {l : eg_Lo} : wps rm K Q c_M_sheet_118 kc ks (l0 :: some (.int x) :: l) (st) h = wps rm K Q c_M_sheet_119 kc ks (l0 :: some (.int x) :: l) (.int x :: st) h := rfl
theorem s_M_sheet_119 {x : Nat} {i : Int32} : wps rm K Q c_M_sheet_119 kc ks loc (.int i :: .ref (x + 1) :: st) h = eg_ia h x i (fun v => wps rm K Q c_M_sheet_120 kc ks loc (.int v :: st) h) := rfl
theorem s_M_sheet_120 {x : Int32} : wps rm K Q c_M_sheet_120 kc ks loc (.int x :: st) h = wps rm K Q c_M_sheet_121 kc ks loc (.long (x.toInt64) :: st) h := rfl
theorem s_M_sheet_121 {x : Int64} : wps rm K Q c_M_sheet_121 kc ks loc ([.long x]) h = (kc = rm.cells ∧ Q (some (.long x)) h) := rfl
def T_M_sheet : List (Nat × List eg_I) := [(16, c_M_sheet_16), (24, c_M_sheet_24), (36, c_M_sheet_36), (50, c_M_sheet_50), (70, c_M_sheet_70), (71, c_M_sheet_71), (114, c_M_sheet_114)]
theorem j_M_sheet_16 {R : Nat → Nat → Nat → eg_Lo → List Value → List eg_E → Prop} {f pc0 : Nat} : eg_run rm R Q T_M_sheet (f + 1) 16 kc ks loc st h = wps rm (eg_run rm R Q T_M_sheet f) Q c_M_sheet_16 kc ks loc st h := rfl
theorem j_M_sheet_24 {R : Nat → Nat → Nat → eg_Lo → List Value → List eg_E → Prop} {f pc0 : Nat} : eg_run rm R Q T_M_sheet (f + 1) 24 kc ks loc st h = wps rm (eg_run rm R Q T_M_sheet f) Q c_M_sheet_24 kc ks loc st h := rfl
theorem j_M_sheet_36 {R : Nat → Nat → Nat → eg_Lo → List Value → List eg_E → Prop} {f pc0 : Nat} : eg_run rm R Q T_M_sheet (f + 1) 36 kc ks loc st h = wps rm (eg_run rm R Q T_M_sheet f) Q c_M_sheet_36 kc ks loc st h := rfl
theorem j_M_sheet_50 {R : Nat → Nat → Nat → eg_Lo → List Value → List eg_E → Prop} {f pc0 : Nat} : eg_run rm R Q T_M_sheet (f + 1) 50 kc ks loc st h = wps rm (eg_run rm R Q T_M_sheet f) Q c_M_sheet_50 kc ks loc st h := rfl
theorem j_M_sheet_70 {R : Nat → Nat → Nat → eg_Lo → List Value → List eg_E → Prop} {f pc0 : Nat} : eg_run rm R Q T_M_sheet (f + 1) 70 kc ks loc st h = wps rm (eg_run rm R Q T_M_sheet f) Q c_M_sheet_70 kc ks loc st h := rfl
theorem j_M_sheet_71 {R : Nat → Nat → Nat → eg_Lo → List Value → List eg_E → Prop} {f pc0 : Nat} : eg_run rm R Q T_M_sheet (f + 1) 71 kc ks loc st h = wps rm (eg_run rm R Q T_M_sheet f) Q c_M_sheet_71 kc ks loc st h := rfl
theorem j_M_sheet_114 {R : Nat → Nat → Nat → eg_Lo → List Value → List eg_E → Prop} {f pc0 : Nat} : eg_run rm R Q T_M_sheet (f + 1) 114 kc ks loc st h = wps rm (eg_run rm R Q T_M_sheet f) Q c_M_sheet_114 kc ks loc st h := rfl
theorem j_M_sheet_75 {R : Nat → Nat → Nat → eg_Lo → List Value → List eg_E → Prop} {f pc0 : Nat} : eg_run rm R Q T_M_sheet (f + 1) 75 kc ks loc st h = R 75 kc ks loc st h := rfl
end
theorem q_M_sheet : (T_M_sheet.all fun q => eg_seq m_M_sheet q.1 q.2) = true := by decide +kernel
theorem b_M_sheet {as : List Value} {h : List eg_E} {Q : Option Value → List eg_E → Prop} (hf : (eg_fl as).length ≤ 5) (hw : wps (eg_rm m_M_sheet) (eg_run (eg_rm m_M_sheet) (eg_R m_M_sheet Q (h.length + 0)) Q T_M_sheet 9) Q c_M_sheet_0 0 0 (eg_entry 5 as) [] h) : eg_Runs n_M_sheet as h Q := eg_begin (d := m_M_sheet) rfl (by decide) (by decide +kernel) q_M_sheet hf hw
theorem p_M_sheet_75 {Q : Option Value → List eg_E → Prop} {n0 kc ks : Nat} {loc : eg_Lo} {st : List Value} {h : List eg_E} (hw : wps (eg_rm m_M_sheet) (eg_run (eg_rm m_M_sheet) (eg_R m_M_sheet Q n0) Q T_M_sheet 9) Q c_M_sheet_75 kc ks loc st h) : eg_R m_M_sheet Q n0 75 kc ks loc st h := eg_go (by decide +kernel) q_M_sheet hw
/-! ===== M_put ===== -/
def c_M_put_95 : List eg_I := .inl (95, 1, .lreturn, 0, 0) :: []
def c_M_put_94 : List eg_I := .inl (94, 1, .sipush (0), 0, 0) :: c_M_put_95
def c_M_put_93 : List eg_I := .inl (93, 1, .dastore, 0, 0) :: c_M_put_94
def c_M_put_92 : List eg_I := .inl (92, 1, .i2d, 0, 0) :: c_M_put_93
def c_M_put_91 : List eg_I := .inl (91, 1, .iload 3, 0, 0) :: c_M_put_92
def c_M_put_90 : List eg_I := .inl (90, 1, .iadd, 0, 0) :: c_M_put_91
def c_M_put_89 : List eg_I := .inl (89, 1, .iload 2, 0, 0) :: c_M_put_90
def c_M_put_88 : List eg_I := .inl (88, 1, .imul, 0, 0) :: c_M_put_89
def c_M_put_87 : List eg_I := .inl (87, 1, .iload 1, 0, 0) :: c_M_put_88
def c_M_put_85 : List eg_I := .inl (85, 2, .iconst (48), 0, 0) :: c_M_put_87
def c_M_put_82 : List eg_I := .inl (82, 3, .getfield 78, 12, 25) :: c_M_put_85
def c_M_put_81 : List eg_I := .inl (81, 1, .aload 0, 0, 0) :: c_M_put_82
def c_M_put_80 : List eg_I := .inl (80, 1, .iastore, 0, 0) :: c_M_put_81
def c_M_put_79 : List eg_I := .inl (79, 1, .iload 3, 0, 0) :: c_M_put_80
def c_M_put_76 : List eg_I := .inl (76, 3, .goto (4), 80, 0) :: []
def c_M_put_75 : List eg_I := .inl (75, 1, .i2s, 0, 0) :: c_M_put_76
def c_M_put_74 : List eg_I := .inl (74, 1, .iload 3, 0, 0) :: c_M_put_75
def c_M_put_71 : List eg_I := .inl (71, 3, .if_icmp .ne (8), 79, 0) :: c_M_put_74
def c_M_put_70 : List eg_I := .inl (70, 1, .iconst (1), 0, 0) :: c_M_put_71
def c_M_put_69 : List eg_I := .inl (69, 1, .iaload, 0, 0) :: c_M_put_70
def c_M_put_68 : List eg_I := .inl (68, 1, .iload 1, 0, 0) :: c_M_put_69
def c_M_put_65 : List eg_I := .inl (65, 3, .getfield 69, 12, 22) :: c_M_put_68
def c_M_put_64 : List eg_I := .inl (64, 1, .aload 0, 0, 0) :: c_M_put_65
def c_M_put_63 : List eg_I := .inl (63, 1, .iadd, 0, 0) :: c_M_put_64
def c_M_put_62 : List eg_I := .inl (62, 1, .iload 2, 0, 0) :: c_M_put_63
def c_M_put_61 : List eg_I := .inl (61, 1, .imul, 0, 0) :: c_M_put_62
def c_M_put_60 : List eg_I := .inl (60, 1, .iload 1, 0, 0) :: c_M_put_61
def c_M_put_58 : List eg_I := .inl (58, 2, .iconst (48), 0, 0) :: c_M_put_60
def c_M_put_55 : List eg_I := .inl (55, 3, .getfield 75, 12, 24) :: c_M_put_58
def c_M_put_54 : List eg_I := .inl (54, 1, .aload 0, 0, 0) :: c_M_put_55
def c_M_put_53 : List eg_I := .inl (53, 1, .lreturn, 0, 0) :: []
def c_M_put_50 : List eg_I := .inr (50, 1, 112, n_M_finding, 1, 12, 0, 0) :: c_M_put_53
def c_M_put_47 : List eg_I := .inl (47, 3, .sipush (-1000000000000000001), 110, 0) :: c_M_put_50
def c_M_put_46 : List eg_I := .inl (46, 1, .aload 0, 0, 0) :: c_M_put_47
def c_M_put_43 : List eg_I := .inl (43, 3, .if_icmp .lt (11), 54, 0) :: c_M_put_46
def c_M_put_42 : List eg_I := .inl (42, 1, .iaload, 0, 0) :: c_M_put_43
def c_M_put_41 : List eg_I := .inl (41, 1, .iload 1, 0, 0) :: c_M_put_42
def c_M_put_38 : List eg_I := .inl (38, 3, .getfield 72, 12, 23) :: c_M_put_41
def c_M_put_37 : List eg_I := .inl (37, 1, .aload 0, 0, 0) :: c_M_put_38
def c_M_put_36 : List eg_I := .inl (36, 1, .iload 2, 0, 0) :: c_M_put_37
def c_M_put_33 : List eg_I := .inl (33, 3, .ifCond .lt (13), 46, 0) :: c_M_put_36
def c_M_put_32 : List eg_I := .inl (32, 1, .iload 2, 0, 0) :: c_M_put_33
def c_M_put_31 : List eg_I := .inl (31, 1, .lreturn, 0, 0) :: []
def c_M_put_28 : List eg_I := .inr (28, 1, 112, n_M_finding, 1, 12, 0, 0) :: c_M_put_31
def c_M_put_25 : List eg_I := .inl (25, 3, .sipush (-1000000000000000002), 145, 0) :: c_M_put_28
def c_M_put_24 : List eg_I := .inl (24, 1, .aload 0, 0, 0) :: c_M_put_25
def c_M_put_21 : List eg_I := .inl (21, 3, .ifCond .ne (11), 32, 0) :: c_M_put_24
def c_M_put_20 : List eg_I := .inl (20, 1, .iaload, 0, 0) :: c_M_put_21
def c_M_put_19 : List eg_I := .inl (19, 1, .iload 1, 0, 0) :: c_M_put_20
def c_M_put_16 : List eg_I := .inl (16, 3, .getfield 69, 12, 22) :: c_M_put_19
def c_M_put_15 : List eg_I := .inl (15, 1, .aload 0, 0, 0) :: c_M_put_16
def c_M_put_14 : List eg_I := .inl (14, 1, .lreturn, 0, 0) :: []
def c_M_put_11 : List eg_I := .inr (11, 1, 112, n_M_finding, 1, 12, 0, 0) :: c_M_put_14
def c_M_put_8 : List eg_I := .inl (8, 3, .sipush (-1000000000000000001), 110, 0) :: c_M_put_11
def c_M_put_7 : List eg_I := .inl (7, 1, .aload 0, 0, 0) :: c_M_put_8
def c_M_put_4 : List eg_I := .inl (4, 3, .ifCond .ne (11), 15, 0) :: c_M_put_7
def c_M_put_1 : List eg_I := .inr (1, 0, 140, n_M_isSheet, 1, 12, 0, 0) :: c_M_put_4
def c_M_put_0 : List eg_I := .inl (0, 1, .iload 1, 0, 0) :: c_M_put_1
section
variable {rm : Room} {K : Nat → Nat → Nat → eg_Lo → List Value → List eg_E → Prop} {Q : Option Value → List eg_E → Prop} {kc ks : Nat} {loc : eg_Lo} {st : List Value} {h : List eg_E}
theorem s_M_put_0 {x : Int32} {l0 : Option Value} {l : eg_Lo} : wps rm K Q c_M_put_0 kc ks (l0 :: some (.int x) :: l) (st) h = wps rm K Q c_M_put_1 kc ks (l0 :: some (.int x) :: l) (.int x :: st) h := rfl
theorem s_M_put_1  {a1 : Value} : wps rm K Q c_M_put_1 kc ks loc (a1 :: st) h = (st.length ≤ 4 ∧ eg_Cs n_M_isSheet [a1] h (fun v h9 => wps rm K Q c_M_put_4 kc ks loc (v.toList ++ st) h9)) := eg_c0_1
theorem s_M_put_4 {x : Int32} : wps rm K Q c_M_put_4 kc ks loc (.int x :: st) h = ((¬ x = 0 → K 15 kc ks loc st h) ∧ (x = 0 → wps rm K Q c_M_put_7 kc ks loc (st) h)) := rfl
theorem s_M_put_7 {x : Nat} {l : eg_Lo} : wps rm K Q c_M_put_7 kc ks (some (.ref x) :: l) (st) h = wps rm K Q c_M_put_8 kc ks (some (.ref x) :: l) (.ref x :: st) h := rfl
theorem s_M_put_8  : wps rm K Q c_M_put_8 kc ks loc (st) h = wps rm K Q c_M_put_11 kc ks loc (.long (-1000000000000000001) :: st) h := rfl
theorem s_M_put_11  {a1 : Value} {x : Nat} : wps rm K Q c_M_put_11 kc ks loc (a1 :: .ref (x + 1) :: st) h = (eg_cls h x 12 ∧ st.length ≤ 4 ∧ eg_Cs n_M_finding (.ref (x + 1) :: [a1]) h (fun v h9 => wps rm K Q c_M_put_14 kc ks loc (v.toList ++ st) h9)) := eg_c1_1
theorem s_M_put_14 {x : Int64} : wps rm K Q c_M_put_14 kc ks loc ([.long x]) h = (kc = rm.cells ∧ Q (some (.long x)) h) := rfl
theorem s_M_put_15 {x : Nat} {l : eg_Lo} : wps rm K Q c_M_put_15 kc ks (some (.ref x) :: l) (st) h = wps rm K Q c_M_put_16 kc ks (some (.ref x) :: l) (.ref x :: st) h := rfl
theorem s_M_put_16 {x : Nat} : wps rm K Q c_M_put_16 kc ks loc (.ref (x + 1) :: st) h = eg_gf h x 12 22 (fun v => wps rm K Q c_M_put_19 kc ks loc (v :: st) h) := rfl
theorem s_M_put_19 {x : Int32} {l0 : Option Value} {l : eg_Lo} : wps rm K Q c_M_put_19 kc ks (l0 :: some (.int x) :: l) (st) h = wps rm K Q c_M_put_20 kc ks (l0 :: some (.int x) :: l) (.int x :: st) h := rfl
theorem s_M_put_20 {x : Nat} {i : Int32} : wps rm K Q c_M_put_20 kc ks loc (.int i :: .ref (x + 1) :: st) h = eg_ia h x i (fun v => wps rm K Q c_M_put_21 kc ks loc (.int v :: st) h) := rfl
theorem s_M_put_21 {x : Int32} : wps rm K Q c_M_put_21 kc ks loc (.int x :: st) h = ((¬ x = 0 → K 32 kc ks loc st h) ∧ (x = 0 → wps rm K Q c_M_put_24 kc ks loc (st) h)) := rfl
theorem s_M_put_24 {x : Nat} {l : eg_Lo} : wps rm K Q c_M_put_24 kc ks (some (.ref x) :: l) (st) h = wps rm K Q c_M_put_25 kc ks (some (.ref x) :: l) (.ref x :: st) h := rfl
theorem s_M_put_25  : wps rm K Q c_M_put_25 kc ks loc (st) h = wps rm K Q c_M_put_28 kc ks loc (.long (-1000000000000000002) :: st) h := rfl
theorem s_M_put_28  {a1 : Value} {x : Nat} : wps rm K Q c_M_put_28 kc ks loc (a1 :: .ref (x + 1) :: st) h = (eg_cls h x 12 ∧ st.length ≤ 4 ∧ eg_Cs n_M_finding (.ref (x + 1) :: [a1]) h (fun v h9 => wps rm K Q c_M_put_31 kc ks loc (v.toList ++ st) h9)) := eg_c1_1
theorem s_M_put_31 {x : Int64} : wps rm K Q c_M_put_31 kc ks loc ([.long x]) h = (kc = rm.cells ∧ Q (some (.long x)) h) := rfl
theorem s_M_put_32 {x : Int32} {l0 l1 : Option Value} {l : eg_Lo} : wps rm K Q c_M_put_32 kc ks (l0 :: l1 :: some (.int x) :: l) (st) h = wps rm K Q c_M_put_33 kc ks (l0 :: l1 :: some (.int x) :: l) (.int x :: st) h := rfl
theorem s_M_put_33 {x : Int32} : wps rm K Q c_M_put_33 kc ks loc (.int x :: st) h = ((x < 0 → K 46 kc ks loc st h) ∧ (¬ x < 0 → wps rm K Q c_M_put_36 kc ks loc (st) h)) := rfl
theorem s_M_put_36 {x : Int32} {l0 l1 : Option Value} {l : eg_Lo} : wps rm K Q c_M_put_36 kc ks (l0 :: l1 :: some (.int x) :: l) (st) h = wps rm K Q c_M_put_37 kc ks (l0 :: l1 :: some (.int x) :: l) (.int x :: st) h := rfl
theorem s_M_put_37 {x : Nat} {l : eg_Lo} : wps rm K Q c_M_put_37 kc ks (some (.ref x) :: l) (st) h = wps rm K Q c_M_put_38 kc ks (some (.ref x) :: l) (.ref x :: st) h := rfl
theorem s_M_put_38 {x : Nat} : wps rm K Q c_M_put_38 kc ks loc (.ref (x + 1) :: st) h = eg_gf h x 12 23 (fun v => wps rm K Q c_M_put_41 kc ks loc (v :: st) h) := rfl
theorem s_M_put_41 {x : Int32} {l0 : Option Value} {l : eg_Lo} : wps rm K Q c_M_put_41 kc ks (l0 :: some (.int x) :: l) (st) h = wps rm K Q c_M_put_42 kc ks (l0 :: some (.int x) :: l) (.int x :: st) h := rfl
theorem s_M_put_42 {x : Nat} {i : Int32} : wps rm K Q c_M_put_42 kc ks loc (.int i :: .ref (x + 1) :: st) h = eg_ia h x i (fun v => wps rm K Q c_M_put_43 kc ks loc (.int v :: st) h) := rfl
theorem s_M_put_43 {x y : Int32} : wps rm K Q c_M_put_43 kc ks loc (.int y :: .int x :: st) h = ((x < y → K 54 kc ks loc st h) ∧ (¬ x < y → wps rm K Q c_M_put_46 kc ks loc (st) h)) := rfl
theorem s_M_put_46 {x : Nat} {l : eg_Lo} : wps rm K Q c_M_put_46 kc ks (some (.ref x) :: l) (st) h = wps rm K Q c_M_put_47 kc ks (some (.ref x) :: l) (.ref x :: st) h := rfl
theorem s_M_put_47  : wps rm K Q c_M_put_47 kc ks loc (st) h = wps rm K Q c_M_put_50 kc ks loc (.long (-1000000000000000001) :: st) h := rfl
theorem s_M_put_50  {a1 : Value} {x : Nat} : wps rm K Q c_M_put_50 kc ks loc (a1 :: .ref (x + 1) :: st) h = (eg_cls h x 12 ∧ st.length ≤ 4 ∧ eg_Cs n_M_finding (.ref (x + 1) :: [a1]) h (fun v h9 => wps rm K Q c_M_put_53 kc ks loc (v.toList ++ st) h9)) := eg_c1_1
theorem s_M_put_53 {x : Int64} : wps rm K Q c_M_put_53 kc ks loc ([.long x]) h = (kc = rm.cells ∧ Q (some (.long x)) h) := rfl
theorem s_M_put_54 {x : Nat} {l : eg_Lo} : wps rm K Q c_M_put_54 kc ks (some (.ref x) :: l) (st) h = wps rm K Q c_M_put_55 kc ks (some (.ref x) :: l) (.ref x :: st) h := rfl
theorem s_M_put_55 {x : Nat} : wps rm K Q c_M_put_55 kc ks loc (.ref (x + 1) :: st) h = eg_gf h x 12 24 (fun v => wps rm K Q c_M_put_58 kc ks loc (v :: st) h) := rfl
theorem s_M_put_58  : wps rm K Q c_M_put_58 kc ks loc (st) h = wps rm K Q c_M_put_60 kc ks loc (.int (48) :: st) h := rfl
theorem s_M_put_60 {x : Int32} {l0 : Option Value} {l : eg_Lo} : wps rm K Q c_M_put_60 kc ks (l0 :: some (.int x) :: l) (st) h = wps rm K Q c_M_put_61 kc ks (l0 :: some (.int x) :: l) (.int x :: st) h := rfl
theorem s_M_put_61 {x y : Int32} : wps rm K Q c_M_put_61 kc ks loc (.int y :: .int x :: st) h = wps rm K Q c_M_put_62 kc ks loc (.int (x * y) :: st) h := rfl
theorem s_M_put_62 {x : Int32} {l0 l1 : Option Value} {l : eg_Lo} : wps rm K Q c_M_put_62 kc ks (l0 :: l1 :: some (.int x) :: l) (st) h = wps rm K Q c_M_put_63 kc ks (l0 :: l1 :: some (.int x) :: l) (.int x :: st) h := rfl
theorem s_M_put_63 {x y : Int32} : wps rm K Q c_M_put_63 kc ks loc (.int y :: .int x :: st) h = wps rm K Q c_M_put_64 kc ks loc (.int (x + y) :: st) h := rfl
theorem s_M_put_64 {x : Nat} {l : eg_Lo} : wps rm K Q c_M_put_64 kc ks (some (.ref x) :: l) (st) h = wps rm K Q c_M_put_65 kc ks (some (.ref x) :: l) (.ref x :: st) h := rfl
theorem s_M_put_65 {x : Nat} : wps rm K Q c_M_put_65 kc ks loc (.ref (x + 1) :: st) h = eg_gf h x 12 22 (fun v => wps rm K Q c_M_put_68 kc ks loc (v :: st) h) := rfl
theorem s_M_put_68 {x : Int32} {l0 : Option Value} {l : eg_Lo} : wps rm K Q c_M_put_68 kc ks (l0 :: some (.int x) :: l) (st) h = wps rm K Q c_M_put_69 kc ks (l0 :: some (.int x) :: l) (.int x :: st) h := rfl
theorem s_M_put_69 {x : Nat} {i : Int32} : wps rm K Q c_M_put_69 kc ks loc (.int i :: .ref (x + 1) :: st) h = eg_ia h x i (fun v => wps rm K Q c_M_put_70 kc ks loc (.int v :: st) h) := rfl
theorem s_M_put_70  : wps rm K Q c_M_put_70 kc ks loc (st) h = wps rm K Q c_M_put_71 kc ks loc (.int (1) :: st) h := rfl
theorem s_M_put_71 {x y : Int32} : wps rm K Q c_M_put_71 kc ks loc (.int y :: .int x :: st) h = ((¬ x = y → K 79 kc ks loc st h) ∧ (x = y → wps rm K Q c_M_put_74 kc ks loc (st) h)) := rfl
theorem s_M_put_74 {x : Int32} {l0 l1 l2 : Option Value} {l : eg_Lo} : wps rm K Q c_M_put_74 kc ks (l0 :: l1 :: l2 :: some (.int x) :: l) (st) h = wps rm K Q c_M_put_75 kc ks (l0 :: l1 :: l2 :: some (.int x) :: l) (.int x :: st) h := rfl
theorem s_M_put_75 {x : Int32} : wps rm K Q c_M_put_75 kc ks loc (.int x :: st) h = wps rm K Q c_M_put_76 kc ks loc (.int (x.toInt16.toInt32) :: st) h := rfl
theorem s_M_put_76  : wps rm K Q c_M_put_76 kc ks loc (st) h = K 80 kc ks loc st h := rfl
theorem s_M_put_79 {x : Int32} {l0 l1 l2 : Option Value} {l : eg_Lo} : wps rm K Q c_M_put_79 kc ks (l0 :: l1 :: l2 :: some (.int x) :: l) (st) h = wps rm K Q c_M_put_80 kc ks (l0 :: l1 :: l2 :: some (.int x) :: l) (.int x :: st) h := rfl
theorem s_M_put_80 {x : Nat} {i : Int32} {v : Int32} : wps rm K Q c_M_put_80 kc ks loc (.int v :: .int i :: .ref (x + 1) :: st) h = eg_is h x i v (fun h9 => wps rm K Q c_M_put_81 kc ks loc (st) h9) := rfl
theorem s_M_put_81 {x : Nat} {l : eg_Lo} : wps rm K Q c_M_put_81 kc ks (some (.ref x) :: l) (st) h = wps rm K Q c_M_put_82 kc ks (some (.ref x) :: l) (.ref x :: st) h := rfl
theorem s_M_put_82 {x : Nat} : wps rm K Q c_M_put_82 kc ks loc (.ref (x + 1) :: st) h = eg_gf h x 12 25 (fun v => wps rm K Q c_M_put_85 kc ks loc (v :: st) h) := rfl
theorem s_M_put_85  : wps rm K Q c_M_put_85 kc ks loc (st) h = wps rm K Q c_M_put_87 kc ks loc (.int (48) :: st) h := rfl
theorem s_M_put_87 {x : Int32} {l0 : Option Value} {l : eg_Lo} : wps rm K Q c_M_put_87 kc ks (l0 :: some (.int x) :: l) (st) h = wps rm K Q c_M_put_88 kc ks (l0 :: some (.int x) :: l) (.int x :: st) h := rfl
theorem s_M_put_88 {x y : Int32} : wps rm K Q c_M_put_88 kc ks loc (.int y :: .int x :: st) h = wps rm K Q c_M_put_89 kc ks loc (.int (x * y) :: st) h := rfl
theorem s_M_put_89 {x : Int32} {l0 l1 : Option Value} {l : eg_Lo} : wps rm K Q c_M_put_89 kc ks (l0 :: l1 :: some (.int x) :: l) (st) h = wps rm K Q c_M_put_90 kc ks (l0 :: l1 :: some (.int x) :: l) (.int x :: st) h := rfl
theorem s_M_put_90 {x y : Int32} : wps rm K Q c_M_put_90 kc ks loc (.int y :: .int x :: st) h = wps rm K Q c_M_put_91 kc ks loc (.int (x + y) :: st) h := rfl
theorem s_M_put_91 {x : Int32} {l0 l1 l2 : Option Value} {l : eg_Lo} : wps rm K Q c_M_put_91 kc ks (l0 :: l1 :: l2 :: some (.int x) :: l) (st) h = wps rm K Q c_M_put_92 kc ks (l0 :: l1 :: l2 :: some (.int x) :: l) (.int x :: st) h := rfl
theorem s_M_put_92 {x : Int32} : wps rm K Q c_M_put_92 kc ks loc (.int x :: st) h = wps rm K Q c_M_put_93 kc ks loc (.double (FP.i2d x) :: st) h := rfl
theorem s_M_put_93 {x : Nat} {i : Int32} {v : UInt64} : wps rm K Q c_M_put_93 kc ks loc (.double v :: .int i :: .ref (x + 1) :: st) h = eg_ds h x i v (fun h9 => wps rm K Q c_M_put_94 kc ks loc (st) h9) := rfl
theorem s_M_put_94  : wps rm K Q c_M_put_94 kc ks loc (st) h = wps rm K Q c_M_put_95 kc ks loc (.long (0) :: st) h := rfl
theorem s_M_put_95 {x : Int64} : wps rm K Q c_M_put_95 kc ks loc ([.long x]) h = (kc = rm.cells ∧ Q (some (.long x)) h) := rfl
def T_M_put : List (Nat × List eg_I) := [(15, c_M_put_15), (32, c_M_put_32), (46, c_M_put_46), (54, c_M_put_54), (79, c_M_put_79), (80, c_M_put_80)]
theorem j_M_put_15 {R : Nat → Nat → Nat → eg_Lo → List Value → List eg_E → Prop} {f pc0 : Nat} : eg_run rm R Q T_M_put (f + 1) 15 kc ks loc st h = wps rm (eg_run rm R Q T_M_put f) Q c_M_put_15 kc ks loc st h := rfl
theorem j_M_put_32 {R : Nat → Nat → Nat → eg_Lo → List Value → List eg_E → Prop} {f pc0 : Nat} : eg_run rm R Q T_M_put (f + 1) 32 kc ks loc st h = wps rm (eg_run rm R Q T_M_put f) Q c_M_put_32 kc ks loc st h := rfl
theorem j_M_put_46 {R : Nat → Nat → Nat → eg_Lo → List Value → List eg_E → Prop} {f pc0 : Nat} : eg_run rm R Q T_M_put (f + 1) 46 kc ks loc st h = wps rm (eg_run rm R Q T_M_put f) Q c_M_put_46 kc ks loc st h := rfl
theorem j_M_put_54 {R : Nat → Nat → Nat → eg_Lo → List Value → List eg_E → Prop} {f pc0 : Nat} : eg_run rm R Q T_M_put (f + 1) 54 kc ks loc st h = wps rm (eg_run rm R Q T_M_put f) Q c_M_put_54 kc ks loc st h := rfl
theorem j_M_put_79 {R : Nat → Nat → Nat → eg_Lo → List Value → List eg_E → Prop} {f pc0 : Nat} : eg_run rm R Q T_M_put (f + 1) 79 kc ks loc st h = wps rm (eg_run rm R Q T_M_put f) Q c_M_put_79 kc ks loc st h := rfl
theorem j_M_put_80 {R : Nat → Nat → Nat → eg_Lo → List Value → List eg_E → Prop} {f pc0 : Nat} : eg_run rm R Q T_M_put (f + 1) 80 kc ks loc st h = wps rm (eg_run rm R Q T_M_put f) Q c_M_put_80 kc ks loc st h := rfl
end
theorem q_M_put : (T_M_put.all fun q => eg_seq m_M_put q.1 q.2) = true := by decide +kernel
theorem b_M_put {as : List Value} {h : List eg_E} {Q : Option Value → List eg_E → Prop} (hf : (eg_fl as).length ≤ 4) (hw : wps (eg_rm m_M_put) (eg_run (eg_rm m_M_put) (eg_R m_M_put Q (h.length + 0)) Q T_M_put 8) Q c_M_put_0 0 0 (eg_entry 4 as) [] h) : eg_Runs n_M_put as h Q := eg_begin (d := m_M_put) rfl (by decide) (by decide +kernel) q_M_put hf hw
/-! ===== M_hasPart ===== -/
def c_M_hasPart_35 : List eg_I := .inl (35, 1, .ireturn, 0, 1) :: []
def c_M_hasPart_34 : List eg_I := .inl (34, 1, .iconst (0), 0, 0) :: c_M_hasPart_35
def c_M_hasPart_31 : List eg_I := .inl (31, 3, .goto (4), 35, 0) :: []
def c_M_hasPart_30 : List eg_I := .inl (30, 1, .iconst (1), 0, 0) :: c_M_hasPart_31
def c_M_hasPart_27 : List eg_I := .inl (27, 3, .if_icmp .gt (7), 34, 0) :: c_M_hasPart_30
def c_M_hasPart_26 : List eg_I := .inl (26, 1, .isub, 0, 0) :: c_M_hasPart_27
def c_M_hasPart_25 : List eg_I := .inl (25, 1, .iload 3, 0, 0) :: c_M_hasPart_26
def c_M_hasPart_24 : List eg_I := .inl (24, 1, .iaload, 0, 0) :: c_M_hasPart_25
def c_M_hasPart_23 : List eg_I := .inl (23, 1, .iload 1, 0, 0) :: c_M_hasPart_24
def c_M_hasPart_20 : List eg_I := .inl (20, 3, .getfield 72, 12, 23) :: c_M_hasPart_23
def c_M_hasPart_19 : List eg_I := .inl (19, 1, .aload 0, 0, 0) :: c_M_hasPart_20
def c_M_hasPart_18 : List eg_I := .inl (18, 1, .iload 2, 0, 0) :: c_M_hasPart_19
def c_M_hasPart_15 : List eg_I := .inl (15, 3, .if_icmp .gt (19), 34, 0) :: c_M_hasPart_18
def c_M_hasPart_14 : List eg_I := .inl (14, 1, .iaload, 0, 0) :: c_M_hasPart_15
def c_M_hasPart_13 : List eg_I := .inl (13, 1, .iload 1, 0, 0) :: c_M_hasPart_14
def c_M_hasPart_10 : List eg_I := .inl (10, 3, .getfield 72, 12, 23) :: c_M_hasPart_13
def c_M_hasPart_9 : List eg_I := .inl (9, 1, .aload 0, 0, 0) :: c_M_hasPart_10
def c_M_hasPart_8 : List eg_I := .inl (8, 1, .iload 3, 0, 0) :: c_M_hasPart_9
def c_M_hasPart_5 : List eg_I := .inl (5, 3, .ifCond .lt (29), 34, 0) :: c_M_hasPart_8
def c_M_hasPart_4 : List eg_I := .inl (4, 1, .iload 3, 0, 0) :: c_M_hasPart_5
def c_M_hasPart_1 : List eg_I := .inl (1, 3, .ifCond .lt (33), 34, 0) :: c_M_hasPart_4
def c_M_hasPart_0 : List eg_I := .inl (0, 1, .iload 2, 0, 0) :: c_M_hasPart_1
section
variable {rm : Room} {K : Nat → Nat → Nat → eg_Lo → List Value → List eg_E → Prop} {Q : Option Value → List eg_E → Prop} {kc ks : Nat} {loc : eg_Lo} {st : List Value} {h : List eg_E}
theorem s_M_hasPart_0 {x : Int32} {l0 l1 : Option Value} {l : eg_Lo} : wps rm K Q c_M_hasPart_0 kc ks (l0 :: l1 :: some (.int x) :: l) (st) h = wps rm K Q c_M_hasPart_1 kc ks (l0 :: l1 :: some (.int x) :: l) (.int x :: st) h := rfl
theorem s_M_hasPart_1 {x : Int32} : wps rm K Q c_M_hasPart_1 kc ks loc (.int x :: st) h = ((x < 0 → K 34 kc ks loc st h) ∧ (¬ x < 0 → wps rm K Q c_M_hasPart_4 kc ks loc (st) h)) := rfl
theorem s_M_hasPart_4 {x : Int32} {l0 l1 l2 : Option Value} {l : eg_Lo} : wps rm K Q c_M_hasPart_4 kc ks (l0 :: l1 :: l2 :: some (.int x) :: l) (st) h = wps rm K Q c_M_hasPart_5 kc ks (l0 :: l1 :: l2 :: some (.int x) :: l) (.int x :: st) h := rfl
theorem s_M_hasPart_5 {x : Int32} : wps rm K Q c_M_hasPart_5 kc ks loc (.int x :: st) h = ((x < 0 → K 34 kc ks loc st h) ∧ (¬ x < 0 → wps rm K Q c_M_hasPart_8 kc ks loc (st) h)) := rfl
theorem s_M_hasPart_8 {x : Int32} {l0 l1 l2 : Option Value} {l : eg_Lo} : wps rm K Q c_M_hasPart_8 kc ks (l0 :: l1 :: l2 :: some (.int x) :: l) (st) h = wps rm K Q c_M_hasPart_9 kc ks (l0 :: l1 :: l2 :: some (.int x) :: l) (.int x :: st) h := rfl
theorem s_M_hasPart_9 {x : Nat} {l : eg_Lo} : wps rm K Q c_M_hasPart_9 kc ks (some (.ref x) :: l) (st) h = wps rm K Q c_M_hasPart_10 kc ks (some (.ref x) :: l) (.ref x :: st) h := rfl
theorem s_M_hasPart_10 {x : Nat} : wps rm K Q c_M_hasPart_10 kc ks loc (.ref (x + 1) :: st) h = eg_gf h x 12 23 (fun v => wps rm K Q c_M_hasPart_13 kc ks loc (v :: st) h) := rfl
theorem s_M_hasPart_13 {x : Int32} {l0 : Option Value} {l : eg_Lo} : wps rm K Q c_M_hasPart_13 kc ks (l0 :: some (.int x) :: l) (st) h = wps rm K Q c_M_hasPart_14 kc ks (l0 :: some (.int x) :: l) (.int x :: st) h := rfl
theorem s_M_hasPart_14 {x : Nat} {i : Int32} : wps rm K Q c_M_hasPart_14 kc ks loc (.int i :: .ref (x + 1) :: st) h = eg_ia h x i (fun v => wps rm K Q c_M_hasPart_15 kc ks loc (.int v :: st) h) := rfl
theorem s_M_hasPart_15 {x y : Int32} : wps rm K Q c_M_hasPart_15 kc ks loc (.int y :: .int x :: st) h = ((y < x → K 34 kc ks loc st h) ∧ (¬ y < x → wps rm K Q c_M_hasPart_18 kc ks loc (st) h)) := rfl
theorem s_M_hasPart_18 {x : Int32} {l0 l1 : Option Value} {l : eg_Lo} : wps rm K Q c_M_hasPart_18 kc ks (l0 :: l1 :: some (.int x) :: l) (st) h = wps rm K Q c_M_hasPart_19 kc ks (l0 :: l1 :: some (.int x) :: l) (.int x :: st) h := rfl
theorem s_M_hasPart_19 {x : Nat} {l : eg_Lo} : wps rm K Q c_M_hasPart_19 kc ks (some (.ref x) :: l) (st) h = wps rm K Q c_M_hasPart_20 kc ks (some (.ref x) :: l) (.ref x :: st) h := rfl
theorem s_M_hasPart_20 {x : Nat} : wps rm K Q c_M_hasPart_20 kc ks loc (.ref (x + 1) :: st) h = eg_gf h x 12 23 (fun v => wps rm K Q c_M_hasPart_23 kc ks loc (v :: st) h) := rfl
theorem s_M_hasPart_23 {x : Int32} {l0 : Option Value} {l : eg_Lo} : wps rm K Q c_M_hasPart_23 kc ks (l0 :: some (.int x) :: l) (st) h = wps rm K Q c_M_hasPart_24 kc ks (l0 :: some (.int x) :: l) (.int x :: st) h := rfl
theorem s_M_hasPart_24 {x : Nat} {i : Int32} : wps rm K Q c_M_hasPart_24 kc ks loc (.int i :: .ref (x + 1) :: st) h = eg_ia h x i (fun v => wps rm K Q c_M_hasPart_25 kc ks loc (.int v :: st) h) := rfl
theorem s_M_hasPart_25 {x : Int32} {l0 l1 l2 : Option Value} {l : eg_Lo} : wps rm K Q c_M_hasPart_25 kc ks (l0 :: l1 :: l2 :: some (.int x) :: l) (st) h = wps rm K Q c_M_hasPart_26 kc ks (l0 :: l1 :: l2 :: some (.int x) :: l) (.int x :: st) h := rfl
theorem s_M_hasPart_26 {x y : Int32} : wps rm K Q c_M_hasPart_26 kc ks loc (.int y :: .int x :: st) h = wps rm K Q c_M_hasPart_27 kc ks loc (.int (x - y) :: st) h := rfl
theorem s_M_hasPart_27 {x y : Int32} : wps rm K Q c_M_hasPart_27 kc ks loc (.int y :: .int x :: st) h = ((y < x → K 34 kc ks loc st h) ∧ (¬ y < x → wps rm K Q c_M_hasPart_30 kc ks loc (st) h)) := rfl
theorem s_M_hasPart_30  : wps rm K Q c_M_hasPart_30 kc ks loc (st) h = wps rm K Q c_M_hasPart_31 kc ks loc (.int (1) :: st) h := rfl
theorem s_M_hasPart_31  : wps rm K Q c_M_hasPart_31 kc ks loc (st) h = K 35 kc ks loc st h := rfl
theorem s_M_hasPart_34  : wps rm K Q c_M_hasPart_34 kc ks loc (st) h = wps rm K Q c_M_hasPart_35 kc ks loc (.int (0) :: st) h := rfl
theorem s_M_hasPart_35 {x : Int32} : wps rm K Q c_M_hasPart_35 kc ks loc ([.int x]) h = (kc = rm.cells ∧ ((1 : Nat) = 1 → x = 0 ∨ x = 1) ∧ Q (some (.int x)) h) := rfl
def T_M_hasPart : List (Nat × List eg_I) := [(34, c_M_hasPart_34), (35, c_M_hasPart_35)]
theorem j_M_hasPart_34 {R : Nat → Nat → Nat → eg_Lo → List Value → List eg_E → Prop} {f pc0 : Nat} : eg_run rm R Q T_M_hasPart (f + 1) 34 kc ks loc st h = wps rm (eg_run rm R Q T_M_hasPart f) Q c_M_hasPart_34 kc ks loc st h := rfl
theorem j_M_hasPart_35 {R : Nat → Nat → Nat → eg_Lo → List Value → List eg_E → Prop} {f pc0 : Nat} : eg_run rm R Q T_M_hasPart (f + 1) 35 kc ks loc st h = wps rm (eg_run rm R Q T_M_hasPart f) Q c_M_hasPart_35 kc ks loc st h := rfl
end
theorem q_M_hasPart : (T_M_hasPart.all fun q => eg_seq m_M_hasPart q.1 q.2) = true := by decide +kernel
theorem b_M_hasPart {as : List Value} {h : List eg_E} {Q : Option Value → List eg_E → Prop} (hf : (eg_fl as).length ≤ 4) (hw : wps (eg_rm m_M_hasPart) (eg_run (eg_rm m_M_hasPart) (eg_R m_M_hasPart Q (h.length + 0)) Q T_M_hasPart 4) Q c_M_hasPart_0 0 0 (eg_entry 4 as) [] h) : eg_Runs n_M_hasPart as h Q := eg_begin (d := m_M_hasPart) rfl (by decide) (by decide +kernel) q_M_hasPart hf hw
/-! ===== M_copy ===== -/
def c_M_copy_223 : List eg_I := .inl (223, 1, .lreturn, 0, 0) :: []
def c_M_copy_222 : List eg_I := .inl (222, 1, .i2l, 0, 0) :: c_M_copy_223
def c_M_copy_220 : List eg_I := .inl (220, 2, .iload 5, 0, 0) :: c_M_copy_222
def c_M_copy_217 : List eg_I := .inl (217, 3, .goto (-54), 163, 0) :: []
def c_M_copy_214 : List eg_I := .inl (214, 3, .iinc 6 (1), 0, 0) :: c_M_copy_217
def c_M_copy_213 : List eg_I := .inl (213, 1, .dastore, 0, 0) :: c_M_copy_214
def c_M_copy_212 : List eg_I := .inl (212, 1, .daload, 0, 0) :: c_M_copy_213
def c_M_copy_210 : List eg_I := .inl (210, 2, .iload 6, 0, 0) :: c_M_copy_212
def c_M_copy_207 : List eg_I := .inl (207, 3, .getfield 85, 12, 28) :: c_M_copy_210
def c_M_copy_206 : List eg_I := .inl (206, 1, .aload 0, 0, 0) :: c_M_copy_207
def c_M_copy_205 : List eg_I := .inl (205, 1, .iadd, 0, 0) :: c_M_copy_206
def c_M_copy_203 : List eg_I := .inl (203, 2, .iload 6, 0, 0) :: c_M_copy_205
def c_M_copy_202 : List eg_I := .inl (202, 1, .iadd, 0, 0) :: c_M_copy_203
def c_M_copy_200 : List eg_I := .inl (200, 2, .iload 4, 0, 0) :: c_M_copy_202
def c_M_copy_199 : List eg_I := .inl (199, 1, .imul, 0, 0) :: c_M_copy_200
def c_M_copy_198 : List eg_I := .inl (198, 1, .iload 3, 0, 0) :: c_M_copy_199
def c_M_copy_196 : List eg_I := .inl (196, 2, .iconst (48), 0, 0) :: c_M_copy_198
def c_M_copy_193 : List eg_I := .inl (193, 3, .getfield 78, 12, 25) :: c_M_copy_196
def c_M_copy_192 : List eg_I := .inl (192, 1, .aload 0, 0, 0) :: c_M_copy_193
def c_M_copy_191 : List eg_I := .inl (191, 1, .iastore, 0, 0) :: c_M_copy_192
def c_M_copy_190 : List eg_I := .inl (190, 1, .iaload, 0, 0) :: c_M_copy_191
def c_M_copy_188 : List eg_I := .inl (188, 2, .iload 6, 0, 0) :: c_M_copy_190
def c_M_copy_185 : List eg_I := .inl (185, 3, .getfield 82, 12, 27) :: c_M_copy_188
def c_M_copy_184 : List eg_I := .inl (184, 1, .aload 0, 0, 0) :: c_M_copy_185
def c_M_copy_183 : List eg_I := .inl (183, 1, .iadd, 0, 0) :: c_M_copy_184
def c_M_copy_181 : List eg_I := .inl (181, 2, .iload 6, 0, 0) :: c_M_copy_183
def c_M_copy_180 : List eg_I := .inl (180, 1, .iadd, 0, 0) :: c_M_copy_181
def c_M_copy_178 : List eg_I := .inl (178, 2, .iload 4, 0, 0) :: c_M_copy_180
def c_M_copy_177 : List eg_I := .inl (177, 1, .imul, 0, 0) :: c_M_copy_178
def c_M_copy_176 : List eg_I := .inl (176, 1, .iload 3, 0, 0) :: c_M_copy_177
def c_M_copy_174 : List eg_I := .inl (174, 2, .iconst (48), 0, 0) :: c_M_copy_176
def c_M_copy_171 : List eg_I := .inl (171, 3, .getfield 75, 12, 24) :: c_M_copy_174
def c_M_copy_170 : List eg_I := .inl (170, 1, .aload 0, 0, 0) :: c_M_copy_171
def c_M_copy_167 : List eg_I := .inl (167, 3, .if_icmp .ge (53), 220, 0) :: c_M_copy_170
def c_M_copy_165 : List eg_I := .inl (165, 2, .iload 5, 0, 0) :: c_M_copy_167
def c_M_copy_163 : List eg_I := .inl (163, 2, .iload 6, 0, 0) :: c_M_copy_165
def c_M_copy_161 : List eg_I := .inl (161, 2, .istore 6, 0, 0) :: [.inl (163, 0, .nop, 0, 0)]
def c_M_copy_160 : List eg_I := .inl (160, 1, .iconst (0), 0, 0) :: c_M_copy_161
def c_M_copy_157 : List eg_I := .inl (157, 3, .goto (-52), 105, 0) :: []
def c_M_copy_154 : List eg_I := .inl (154, 3, .iinc 6 (1), 0, 0) :: c_M_copy_157
def c_M_copy_153 : List eg_I := .inl (153, 1, .dastore, 0, 0) :: c_M_copy_154
def c_M_copy_152 : List eg_I := .inl (152, 1, .daload, 0, 0) :: c_M_copy_153
def c_M_copy_151 : List eg_I := .inl (151, 1, .iadd, 0, 0) :: c_M_copy_152
def c_M_copy_149 : List eg_I := .inl (149, 2, .iload 6, 0, 0) :: c_M_copy_151
def c_M_copy_148 : List eg_I := .inl (148, 1, .iadd, 0, 0) :: c_M_copy_149
def c_M_copy_147 : List eg_I := .inl (147, 1, .iload 2, 0, 0) :: c_M_copy_148
def c_M_copy_146 : List eg_I := .inl (146, 1, .imul, 0, 0) :: c_M_copy_147
def c_M_copy_145 : List eg_I := .inl (145, 1, .iload 1, 0, 0) :: c_M_copy_146
def c_M_copy_143 : List eg_I := .inl (143, 2, .iconst (48), 0, 0) :: c_M_copy_145
def c_M_copy_140 : List eg_I := .inl (140, 3, .getfield 78, 12, 25) :: c_M_copy_143
def c_M_copy_139 : List eg_I := .inl (139, 1, .aload 0, 0, 0) :: c_M_copy_140
def c_M_copy_137 : List eg_I := .inl (137, 2, .iload 6, 0, 0) :: c_M_copy_139
def c_M_copy_134 : List eg_I := .inl (134, 3, .getfield 85, 12, 28) :: c_M_copy_137
def c_M_copy_133 : List eg_I := .inl (133, 1, .aload 0, 0, 0) :: c_M_copy_134
def c_M_copy_132 : List eg_I := .inl (132, 1, .iastore, 0, 0) :: c_M_copy_133
def c_M_copy_131 : List eg_I := .inl (131, 1, .iaload, 0, 0) :: c_M_copy_132
def c_M_copy_130 : List eg_I := .inl (130, 1, .iadd, 0, 0) :: c_M_copy_131
def c_M_copy_128 : List eg_I := .inl (128, 2, .iload 6, 0, 0) :: c_M_copy_130
def c_M_copy_127 : List eg_I := .inl (127, 1, .iadd, 0, 0) :: c_M_copy_128
def c_M_copy_126 : List eg_I := .inl (126, 1, .iload 2, 0, 0) :: c_M_copy_127
def c_M_copy_125 : List eg_I := .inl (125, 1, .imul, 0, 0) :: c_M_copy_126
def c_M_copy_124 : List eg_I := .inl (124, 1, .iload 1, 0, 0) :: c_M_copy_125
def c_M_copy_122 : List eg_I := .inl (122, 2, .iconst (48), 0, 0) :: c_M_copy_124
def c_M_copy_119 : List eg_I := .inl (119, 3, .getfield 75, 12, 24) :: c_M_copy_122
def c_M_copy_118 : List eg_I := .inl (118, 1, .aload 0, 0, 0) :: c_M_copy_119
def c_M_copy_116 : List eg_I := .inl (116, 2, .iload 6, 0, 0) :: c_M_copy_118
def c_M_copy_113 : List eg_I := .inl (113, 3, .getfield 82, 12, 27) :: c_M_copy_116
def c_M_copy_112 : List eg_I := .inl (112, 1, .aload 0, 0, 0) :: c_M_copy_113
def c_M_copy_109 : List eg_I := .inl (109, 3, .if_icmp .ge (51), 160, 0) :: c_M_copy_112
def c_M_copy_107 : List eg_I := .inl (107, 2, .iload 5, 0, 0) :: c_M_copy_109
def c_M_copy_105 : List eg_I := .inl (105, 2, .iload 6, 0, 0) :: c_M_copy_107
def c_M_copy_103 : List eg_I := .inl (103, 2, .istore 6, 0, 0) :: [.inl (105, 0, .nop, 0, 0)]
def c_M_copy_102 : List eg_I := .inl (102, 1, .iconst (0), 0, 0) :: c_M_copy_103
def c_M_copy_101 : List eg_I := .inl (101, 1, .lreturn, 0, 0) :: []
def c_M_copy_98 : List eg_I := .inr (98, 1, 112, n_M_finding, 1, 12, 0, 0) :: c_M_copy_101
def c_M_copy_95 : List eg_I := .inl (95, 3, .sipush (-1000000000000000001), 110, 0) :: c_M_copy_98
def c_M_copy_94 : List eg_I := .inl (94, 1, .aload 0, 0, 0) :: c_M_copy_95
def c_M_copy_91 : List eg_I := .inl (91, 3, .ifCond .ne (11), 102, 0) :: c_M_copy_94
def c_M_copy_88 : List eg_I := .inr (88, 1, 155, n_M_hasPart, 3, 12, 0, 0) :: c_M_copy_91
def c_M_copy_86 : List eg_I := .inl (86, 2, .iload 5, 0, 0) :: c_M_copy_88
def c_M_copy_84 : List eg_I := .inl (84, 2, .iload 4, 0, 0) :: c_M_copy_86
def c_M_copy_83 : List eg_I := .inl (83, 1, .iload 3, 0, 0) :: c_M_copy_84
def c_M_copy_82 : List eg_I := .inl (82, 1, .aload 0, 0, 0) :: c_M_copy_83
def c_M_copy_79 : List eg_I := .inl (79, 3, .ifCond .eq (15), 94, 0) :: c_M_copy_82
def c_M_copy_76 : List eg_I := .inr (76, 1, 155, n_M_hasPart, 3, 12, 0, 0) :: c_M_copy_79
def c_M_copy_74 : List eg_I := .inl (74, 2, .iload 5, 0, 0) :: c_M_copy_76
def c_M_copy_73 : List eg_I := .inl (73, 1, .iload 2, 0, 0) :: c_M_copy_74
def c_M_copy_72 : List eg_I := .inl (72, 1, .iload 1, 0, 0) :: c_M_copy_73
def c_M_copy_71 : List eg_I := .inl (71, 1, .aload 0, 0, 0) :: c_M_copy_72
def c_M_copy_70 : List eg_I := .inl (70, 1, .lreturn, 0, 0) :: []
def c_M_copy_67 : List eg_I := .inr (67, 1, 112, n_M_finding, 1, 12, 0, 0) :: c_M_copy_70
def c_M_copy_64 : List eg_I := .inl (64, 3, .sipush (-1000000000000000004), 147, 0) :: c_M_copy_67
def c_M_copy_63 : List eg_I := .inl (63, 1, .aload 0, 0, 0) :: c_M_copy_64
def c_M_copy_60 : List eg_I := .inl (60, 3, .if_icmp .eq (11), 71, 0) :: c_M_copy_63
def c_M_copy_59 : List eg_I := .inl (59, 1, .iaload, 0, 0) :: c_M_copy_60
def c_M_copy_58 : List eg_I := .inl (58, 1, .iload 3, 0, 0) :: c_M_copy_59
def c_M_copy_55 : List eg_I := .inl (55, 3, .getfield 69, 12, 22) :: c_M_copy_58
def c_M_copy_54 : List eg_I := .inl (54, 1, .aload 0, 0, 0) :: c_M_copy_55
def c_M_copy_53 : List eg_I := .inl (53, 1, .iaload, 0, 0) :: c_M_copy_54
def c_M_copy_52 : List eg_I := .inl (52, 1, .iload 1, 0, 0) :: c_M_copy_53
def c_M_copy_49 : List eg_I := .inl (49, 3, .getfield 69, 12, 22) :: c_M_copy_52
def c_M_copy_48 : List eg_I := .inl (48, 1, .aload 0, 0, 0) :: c_M_copy_49
def c_M_copy_47 : List eg_I := .inl (47, 1, .lreturn, 0, 0) :: []
def c_M_copy_44 : List eg_I := .inr (44, 1, 112, n_M_finding, 1, 12, 0, 0) :: c_M_copy_47
def c_M_copy_41 : List eg_I := .inl (41, 3, .sipush (-1000000000000000002), 145, 0) :: c_M_copy_44
def c_M_copy_40 : List eg_I := .inl (40, 1, .aload 0, 0, 0) :: c_M_copy_41
def c_M_copy_37 : List eg_I := .inl (37, 3, .ifCond .ne (11), 48, 0) :: c_M_copy_40
def c_M_copy_36 : List eg_I := .inl (36, 1, .iaload, 0, 0) :: c_M_copy_37
def c_M_copy_35 : List eg_I := .inl (35, 1, .iload 3, 0, 0) :: c_M_copy_36
def c_M_copy_32 : List eg_I := .inl (32, 3, .getfield 69, 12, 22) :: c_M_copy_35
def c_M_copy_31 : List eg_I := .inl (31, 1, .aload 0, 0, 0) :: c_M_copy_32
def c_M_copy_28 : List eg_I := .inl (28, 3, .ifCond .eq (12), 40, 0) :: c_M_copy_31
def c_M_copy_27 : List eg_I := .inl (27, 1, .iaload, 0, 0) :: c_M_copy_28
def c_M_copy_26 : List eg_I := .inl (26, 1, .iload 1, 0, 0) :: c_M_copy_27
def c_M_copy_23 : List eg_I := .inl (23, 3, .getfield 69, 12, 22) :: c_M_copy_26
def c_M_copy_22 : List eg_I := .inl (22, 1, .aload 0, 0, 0) :: c_M_copy_23
def c_M_copy_21 : List eg_I := .inl (21, 1, .lreturn, 0, 0) :: []
def c_M_copy_18 : List eg_I := .inr (18, 1, 112, n_M_finding, 1, 12, 0, 0) :: c_M_copy_21
def c_M_copy_15 : List eg_I := .inl (15, 3, .sipush (-1000000000000000001), 110, 0) :: c_M_copy_18
def c_M_copy_14 : List eg_I := .inl (14, 1, .aload 0, 0, 0) :: c_M_copy_15
def c_M_copy_11 : List eg_I := .inl (11, 3, .ifCond .ne (11), 22, 0) :: c_M_copy_14
def c_M_copy_8 : List eg_I := .inr (8, 0, 140, n_M_isSheet, 1, 12, 0, 0) :: c_M_copy_11
def c_M_copy_7 : List eg_I := .inl (7, 1, .iload 3, 0, 0) :: c_M_copy_8
def c_M_copy_4 : List eg_I := .inl (4, 3, .ifCond .eq (10), 14, 0) :: c_M_copy_7
def c_M_copy_1 : List eg_I := .inr (1, 0, 140, n_M_isSheet, 1, 12, 0, 0) :: c_M_copy_4
def c_M_copy_0 : List eg_I := .inl (0, 1, .iload 1, 0, 0) :: c_M_copy_1
section
variable {rm : Room} {K : Nat → Nat → Nat → eg_Lo → List Value → List eg_E → Prop} {Q : Option Value → List eg_E → Prop} {kc ks : Nat} {loc : eg_Lo} {st : List Value} {h : List eg_E}
theorem s_M_copy_0 {x : Int32} {l0 : Option Value} {l : eg_Lo} : wps rm K Q c_M_copy_0 kc ks (l0 :: some (.int x) :: l) (st) h = wps rm K Q c_M_copy_1 kc ks (l0 :: some (.int x) :: l) (.int x :: st) h := rfl
theorem s_M_copy_1  {a1 : Value} : wps rm K Q c_M_copy_1 kc ks loc (a1 :: st) h = (st.length ≤ 4 ∧ eg_Cs n_M_isSheet [a1] h (fun v h9 => wps rm K Q c_M_copy_4 kc ks loc (v.toList ++ st) h9)) := eg_c0_1
theorem s_M_copy_4 {x : Int32} : wps rm K Q c_M_copy_4 kc ks loc (.int x :: st) h = ((x = 0 → K 14 kc ks loc st h) ∧ (¬ x = 0 → wps rm K Q c_M_copy_7 kc ks loc (st) h)) := rfl
theorem s_M_copy_7 {x : Int32} {l0 l1 l2 : Option Value} {l : eg_Lo} : wps rm K Q c_M_copy_7 kc ks (l0 :: l1 :: l2 :: some (.int x) :: l) (st) h = wps rm K Q c_M_copy_8 kc ks (l0 :: l1 :: l2 :: some (.int x) :: l) (.int x :: st) h := rfl
theorem s_M_copy_8  {a1 : Value} : wps rm K Q c_M_copy_8 kc ks loc (a1 :: st) h = (st.length ≤ 4 ∧ eg_Cs n_M_isSheet [a1] h (fun v h9 => wps rm K Q c_M_copy_11 kc ks loc (v.toList ++ st) h9)) := eg_c0_1
theorem s_M_copy_11 {x : Int32} : wps rm K Q c_M_copy_11 kc ks loc (.int x :: st) h = ((¬ x = 0 → K 22 kc ks loc st h) ∧ (x = 0 → wps rm K Q c_M_copy_14 kc ks loc (st) h)) := rfl
theorem s_M_copy_14 {x : Nat} {l : eg_Lo} : wps rm K Q c_M_copy_14 kc ks (some (.ref x) :: l) (st) h = wps rm K Q c_M_copy_15 kc ks (some (.ref x) :: l) (.ref x :: st) h := rfl
theorem s_M_copy_15  : wps rm K Q c_M_copy_15 kc ks loc (st) h = wps rm K Q c_M_copy_18 kc ks loc (.long (-1000000000000000001) :: st) h := rfl
theorem s_M_copy_18  {a1 : Value} {x : Nat} : wps rm K Q c_M_copy_18 kc ks loc (a1 :: .ref (x + 1) :: st) h = (eg_cls h x 12 ∧ st.length ≤ 4 ∧ eg_Cs n_M_finding (.ref (x + 1) :: [a1]) h (fun v h9 => wps rm K Q c_M_copy_21 kc ks loc (v.toList ++ st) h9)) := eg_c1_1
theorem s_M_copy_21 {x : Int64} : wps rm K Q c_M_copy_21 kc ks loc ([.long x]) h = (kc = rm.cells ∧ Q (some (.long x)) h) := rfl
theorem s_M_copy_22 {x : Nat} {l : eg_Lo} : wps rm K Q c_M_copy_22 kc ks (some (.ref x) :: l) (st) h = wps rm K Q c_M_copy_23 kc ks (some (.ref x) :: l) (.ref x :: st) h := rfl
theorem s_M_copy_23 {x : Nat} : wps rm K Q c_M_copy_23 kc ks loc (.ref (x + 1) :: st) h = eg_gf h x 12 22 (fun v => wps rm K Q c_M_copy_26 kc ks loc (v :: st) h) := rfl
theorem s_M_copy_26 {x : Int32} {l0 : Option Value} {l : eg_Lo} : wps rm K Q c_M_copy_26 kc ks (l0 :: some (.int x) :: l) (st) h = wps rm K Q c_M_copy_27 kc ks (l0 :: some (.int x) :: l) (.int x :: st) h := rfl
theorem s_M_copy_27 {x : Nat} {i : Int32} : wps rm K Q c_M_copy_27 kc ks loc (.int i :: .ref (x + 1) :: st) h = eg_ia h x i (fun v => wps rm K Q c_M_copy_28 kc ks loc (.int v :: st) h) := rfl
theorem s_M_copy_28 {x : Int32} : wps rm K Q c_M_copy_28 kc ks loc (.int x :: st) h = ((x = 0 → K 40 kc ks loc st h) ∧ (¬ x = 0 → wps rm K Q c_M_copy_31 kc ks loc (st) h)) := rfl
theorem s_M_copy_31 {x : Nat} {l : eg_Lo} : wps rm K Q c_M_copy_31 kc ks (some (.ref x) :: l) (st) h = wps rm K Q c_M_copy_32 kc ks (some (.ref x) :: l) (.ref x :: st) h := rfl
theorem s_M_copy_32 {x : Nat} : wps rm K Q c_M_copy_32 kc ks loc (.ref (x + 1) :: st) h = eg_gf h x 12 22 (fun v => wps rm K Q c_M_copy_35 kc ks loc (v :: st) h) := rfl
theorem s_M_copy_35 {x : Int32} {l0 l1 l2 : Option Value} {l : eg_Lo} : wps rm K Q c_M_copy_35 kc ks (l0 :: l1 :: l2 :: some (.int x) :: l) (st) h = wps rm K Q c_M_copy_36 kc ks (l0 :: l1 :: l2 :: some (.int x) :: l) (.int x :: st) h := rfl
theorem s_M_copy_36 {x : Nat} {i : Int32} : wps rm K Q c_M_copy_36 kc ks loc (.int i :: .ref (x + 1) :: st) h = eg_ia h x i (fun v => wps rm K Q c_M_copy_37 kc ks loc (.int v :: st) h) := rfl
theorem s_M_copy_37 {x : Int32} : wps rm K Q c_M_copy_37 kc ks loc (.int x :: st) h = ((¬ x = 0 → K 48 kc ks loc st h) ∧ (x = 0 → wps rm K Q c_M_copy_40 kc ks loc (st) h)) := rfl
theorem s_M_copy_40 {x : Nat} {l : eg_Lo} : wps rm K Q c_M_copy_40 kc ks (some (.ref x) :: l) (st) h = wps rm K Q c_M_copy_41 kc ks (some (.ref x) :: l) (.ref x :: st) h := rfl
theorem s_M_copy_41  : wps rm K Q c_M_copy_41 kc ks loc (st) h = wps rm K Q c_M_copy_44 kc ks loc (.long (-1000000000000000002) :: st) h := rfl
theorem s_M_copy_44  {a1 : Value} {x : Nat} : wps rm K Q c_M_copy_44 kc ks loc (a1 :: .ref (x + 1) :: st) h = (eg_cls h x 12 ∧ st.length ≤ 4 ∧ eg_Cs n_M_finding (.ref (x + 1) :: [a1]) h (fun v h9 => wps rm K Q c_M_copy_47 kc ks loc (v.toList ++ st) h9)) := eg_c1_1
theorem s_M_copy_47 {x : Int64} : wps rm K Q c_M_copy_47 kc ks loc ([.long x]) h = (kc = rm.cells ∧ Q (some (.long x)) h) := rfl
theorem s_M_copy_48 {x : Nat} {l : eg_Lo} : wps rm K Q c_M_copy_48 kc ks (some (.ref x) :: l) (st) h = wps rm K Q c_M_copy_49 kc ks (some (.ref x) :: l) (.ref x :: st) h := rfl
theorem s_M_copy_49 {x : Nat} : wps rm K Q c_M_copy_49 kc ks loc (.ref (x + 1) :: st) h = eg_gf h x 12 22 (fun v => wps rm K Q c_M_copy_52 kc ks loc (v :: st) h) := rfl
theorem s_M_copy_52 {x : Int32} {l0 : Option Value} {l : eg_Lo} : wps rm K Q c_M_copy_52 kc ks (l0 :: some (.int x) :: l) (st) h = wps rm K Q c_M_copy_53 kc ks (l0 :: some (.int x) :: l) (.int x :: st) h := rfl
theorem s_M_copy_53 {x : Nat} {i : Int32} : wps rm K Q c_M_copy_53 kc ks loc (.int i :: .ref (x + 1) :: st) h = eg_ia h x i (fun v => wps rm K Q c_M_copy_54 kc ks loc (.int v :: st) h) := rfl
theorem s_M_copy_54 {x : Nat} {l : eg_Lo} : wps rm K Q c_M_copy_54 kc ks (some (.ref x) :: l) (st) h = wps rm K Q c_M_copy_55 kc ks (some (.ref x) :: l) (.ref x :: st) h := rfl
theorem s_M_copy_55 {x : Nat} : wps rm K Q c_M_copy_55 kc ks loc (.ref (x + 1) :: st) h = eg_gf h x 12 22 (fun v => wps rm K Q c_M_copy_58 kc ks loc (v :: st) h) := rfl
theorem s_M_copy_58 {x : Int32} {l0 l1 l2 : Option Value} {l : eg_Lo} : wps rm K Q c_M_copy_58 kc ks (l0 :: l1 :: l2 :: some (.int x) :: l) (st) h = wps rm K Q c_M_copy_59 kc ks (l0 :: l1 :: l2 :: some (.int x) :: l) (.int x :: st) h := rfl
theorem s_M_copy_59 {x : Nat} {i : Int32} : wps rm K Q c_M_copy_59 kc ks loc (.int i :: .ref (x + 1) :: st) h = eg_ia h x i (fun v => wps rm K Q c_M_copy_60 kc ks loc (.int v :: st) h) := rfl
theorem s_M_copy_60 {x y : Int32} : wps rm K Q c_M_copy_60 kc ks loc (.int y :: .int x :: st) h = ((x = y → K 71 kc ks loc st h) ∧ (¬ x = y → wps rm K Q c_M_copy_63 kc ks loc (st) h)) := rfl
theorem s_M_copy_63 {x : Nat} {l : eg_Lo} : wps rm K Q c_M_copy_63 kc ks (some (.ref x) :: l) (st) h = wps rm K Q c_M_copy_64 kc ks (some (.ref x) :: l) (.ref x :: st) h := rfl
theorem s_M_copy_64  : wps rm K Q c_M_copy_64 kc ks loc (st) h = wps rm K Q c_M_copy_67 kc ks loc (.long (-1000000000000000004) :: st) h := rfl
theorem s_M_copy_67  {a1 : Value} {x : Nat} : wps rm K Q c_M_copy_67 kc ks loc (a1 :: .ref (x + 1) :: st) h = (eg_cls h x 12 ∧ st.length ≤ 4 ∧ eg_Cs n_M_finding (.ref (x + 1) :: [a1]) h (fun v h9 => wps rm K Q c_M_copy_70 kc ks loc (v.toList ++ st) h9)) := eg_c1_1
theorem s_M_copy_70 {x : Int64} : wps rm K Q c_M_copy_70 kc ks loc ([.long x]) h = (kc = rm.cells ∧ Q (some (.long x)) h) := rfl
theorem s_M_copy_71 {x : Nat} {l : eg_Lo} : wps rm K Q c_M_copy_71 kc ks (some (.ref x) :: l) (st) h = wps rm K Q c_M_copy_72 kc ks (some (.ref x) :: l) (.ref x :: st) h := rfl
theorem s_M_copy_72 {x : Int32} {l0 : Option Value} {l : eg_Lo} : wps rm K Q c_M_copy_72 kc ks (l0 :: some (.int x) :: l) (st) h = wps rm K Q c_M_copy_73 kc ks (l0 :: some (.int x) :: l) (.int x :: st) h := rfl
theorem s_M_copy_73 {x : Int32} {l0 l1 : Option Value} {l : eg_Lo} : wps rm K Q c_M_copy_73 kc ks (l0 :: l1 :: some (.int x) :: l) (st) h = wps rm K Q c_M_copy_74 kc ks (l0 :: l1 :: some (.int x) :: l) (.int x :: st) h := rfl
theorem s_M_copy_74 {x : Int32} {l0 l1 l2 l3 l4 : Option Value} {l : eg_Lo} : wps rm K Q c_M_copy_74 kc ks (l0 :: l1 :: l2 :: l3 :: l4 :: some (.int x) :: l) (st) h = wps rm K Q c_M_copy_76 kc ks (l0 :: l1 :: l2 :: l3 :: l4 :: some (.int x) :: l) (.int x :: st) h := rfl
theorem s_M_copy_76  {a1 : Value} {a2 : Value} {a3 : Value} {x : Nat} : wps rm K Q c_M_copy_76 kc ks loc (a3 :: a2 :: a1 :: .ref (x + 1) :: st) h = (eg_cls h x 12 ∧ st.length ≤ 4 ∧ eg_Cs n_M_hasPart (.ref (x + 1) :: [a1, a2, a3]) h (fun v h9 => wps rm K Q c_M_copy_79 kc ks loc (v.toList ++ st) h9)) := eg_c1_3
theorem s_M_copy_79 {x : Int32} : wps rm K Q c_M_copy_79 kc ks loc (.int x :: st) h = ((x = 0 → K 94 kc ks loc st h) ∧ (¬ x = 0 → wps rm K Q c_M_copy_82 kc ks loc (st) h)) := rfl
theorem s_M_copy_82 {x : Nat} {l : eg_Lo} : wps rm K Q c_M_copy_82 kc ks (some (.ref x) :: l) (st) h = wps rm K Q c_M_copy_83 kc ks (some (.ref x) :: l) (.ref x :: st) h := rfl
theorem s_M_copy_83 {x : Int32} {l0 l1 l2 : Option Value} {l : eg_Lo} : wps rm K Q c_M_copy_83 kc ks (l0 :: l1 :: l2 :: some (.int x) :: l) (st) h = wps rm K Q c_M_copy_84 kc ks (l0 :: l1 :: l2 :: some (.int x) :: l) (.int x :: st) h := rfl
theorem s_M_copy_84 {x : Int32} {l0 l1 l2 l3 : Option Value} {l : eg_Lo} : wps rm K Q c_M_copy_84 kc ks (l0 :: l1 :: l2 :: l3 :: some (.int x) :: l) (st) h = wps rm K Q c_M_copy_86 kc ks (l0 :: l1 :: l2 :: l3 :: some (.int x) :: l) (.int x :: st) h := rfl
theorem s_M_copy_86 {x : Int32} {l0 l1 l2 l3 l4 : Option Value} {l : eg_Lo} : wps rm K Q c_M_copy_86 kc ks (l0 :: l1 :: l2 :: l3 :: l4 :: some (.int x) :: l) (st) h = wps rm K Q c_M_copy_88 kc ks (l0 :: l1 :: l2 :: l3 :: l4 :: some (.int x) :: l) (.int x :: st) h := rfl
theorem s_M_copy_88  {a1 : Value} {a2 : Value} {a3 : Value} {x : Nat} : wps rm K Q c_M_copy_88 kc ks loc (a3 :: a2 :: a1 :: .ref (x + 1) :: st) h = (eg_cls h x 12 ∧ st.length ≤ 4 ∧ eg_Cs n_M_hasPart (.ref (x + 1) :: [a1, a2, a3]) h (fun v h9 => wps rm K Q c_M_copy_91 kc ks loc (v.toList ++ st) h9)) := eg_c1_3
theorem s_M_copy_91 {x : Int32} : wps rm K Q c_M_copy_91 kc ks loc (.int x :: st) h = ((¬ x = 0 → K 102 kc ks loc st h) ∧ (x = 0 → wps rm K Q c_M_copy_94 kc ks loc (st) h)) := rfl
theorem s_M_copy_94 {x : Nat} {l : eg_Lo} : wps rm K Q c_M_copy_94 kc ks (some (.ref x) :: l) (st) h = wps rm K Q c_M_copy_95 kc ks (some (.ref x) :: l) (.ref x :: st) h := rfl
theorem s_M_copy_95  : wps rm K Q c_M_copy_95 kc ks loc (st) h = wps rm K Q c_M_copy_98 kc ks loc (.long (-1000000000000000001) :: st) h := rfl
theorem s_M_copy_98  {a1 : Value} {x : Nat} : wps rm K Q c_M_copy_98 kc ks loc (a1 :: .ref (x + 1) :: st) h = (eg_cls h x 12 ∧ st.length ≤ 4 ∧ eg_Cs n_M_finding (.ref (x + 1) :: [a1]) h (fun v h9 => wps rm K Q c_M_copy_101 kc ks loc (v.toList ++ st) h9)) := eg_c1_1
theorem s_M_copy_101 {x : Int64} : wps rm K Q c_M_copy_101 kc ks loc ([.long x]) h = (kc = rm.cells ∧ Q (some (.long x)) h) := rfl
theorem s_M_copy_102  : wps rm K Q c_M_copy_102 kc ks loc (st) h = wps rm K Q c_M_copy_103 kc ks loc (.int (0) :: st) h := rfl
theorem s_M_copy_103 {x : Int32} : wps rm K Q c_M_copy_103 kc ks loc (.int x :: st) h = K 105 kc ks (eg_set1 loc 6 (.int x)) (st) h := rfl
theorem s_M_copy_105 {x : Int32} {l0 l1 l2 l3 l4 l5 : Option Value} {l : eg_Lo} : wps rm K Q c_M_copy_105 kc ks (l0 :: l1 :: l2 :: l3 :: l4 :: l5 :: some (.int x) :: l) (st) h = wps rm K Q c_M_copy_107 kc ks (l0 :: l1 :: l2 :: l3 :: l4 :: l5 :: some (.int x) :: l) (.int x :: st) h := rfl
theorem s_M_copy_107 {x : Int32} {l0 l1 l2 l3 l4 : Option Value} {l : eg_Lo} : wps rm K Q c_M_copy_107 kc ks (l0 :: l1 :: l2 :: l3 :: l4 :: some (.int x) :: l) (st) h = wps rm K Q c_M_copy_109 kc ks (l0 :: l1 :: l2 :: l3 :: l4 :: some (.int x) :: l) (.int x :: st) h := rfl
theorem s_M_copy_109 {x y : Int32} : wps rm K Q c_M_copy_109 kc ks loc (.int y :: .int x :: st) h = ((y ≤ x → K 160 kc ks loc st h) ∧ (¬ y ≤ x → wps rm K Q c_M_copy_112 kc ks loc (st) h)) := rfl
theorem s_M_copy_112 {x : Nat} {l : eg_Lo} : wps rm K Q c_M_copy_112 kc ks (some (.ref x) :: l) (st) h = wps rm K Q c_M_copy_113 kc ks (some (.ref x) :: l) (.ref x :: st) h := rfl
theorem s_M_copy_113 {x : Nat} : wps rm K Q c_M_copy_113 kc ks loc (.ref (x + 1) :: st) h = eg_gf h x 12 27 (fun v => wps rm K Q c_M_copy_116 kc ks loc (v :: st) h) := rfl
theorem s_M_copy_116 {x : Int32} {l0 l1 l2 l3 l4 l5 : Option Value} {l : eg_Lo} : wps rm K Q c_M_copy_116 kc ks (l0 :: l1 :: l2 :: l3 :: l4 :: l5 :: some (.int x) :: l) (st) h = wps rm K Q c_M_copy_118 kc ks (l0 :: l1 :: l2 :: l3 :: l4 :: l5 :: some (.int x) :: l) (.int x :: st) h := rfl
theorem s_M_copy_118 {x : Nat} {l : eg_Lo} : wps rm K Q c_M_copy_118 kc ks (some (.ref x) :: l) (st) h = wps rm K Q c_M_copy_119 kc ks (some (.ref x) :: l) (.ref x :: st) h := rfl
theorem s_M_copy_119 {x : Nat} : wps rm K Q c_M_copy_119 kc ks loc (.ref (x + 1) :: st) h = eg_gf h x 12 24 (fun v => wps rm K Q c_M_copy_122 kc ks loc (v :: st) h) := rfl
theorem s_M_copy_122  : wps rm K Q c_M_copy_122 kc ks loc (st) h = wps rm K Q c_M_copy_124 kc ks loc (.int (48) :: st) h := rfl
theorem s_M_copy_124 {x : Int32} {l0 : Option Value} {l : eg_Lo} : wps rm K Q c_M_copy_124 kc ks (l0 :: some (.int x) :: l) (st) h = wps rm K Q c_M_copy_125 kc ks (l0 :: some (.int x) :: l) (.int x :: st) h := rfl
theorem s_M_copy_125 {x y : Int32} : wps rm K Q c_M_copy_125 kc ks loc (.int y :: .int x :: st) h = wps rm K Q c_M_copy_126 kc ks loc (.int (x * y) :: st) h := rfl
theorem s_M_copy_126 {x : Int32} {l0 l1 : Option Value} {l : eg_Lo} : wps rm K Q c_M_copy_126 kc ks (l0 :: l1 :: some (.int x) :: l) (st) h = wps rm K Q c_M_copy_127 kc ks (l0 :: l1 :: some (.int x) :: l) (.int x :: st) h := rfl
theorem s_M_copy_127 {x y : Int32} : wps rm K Q c_M_copy_127 kc ks loc (.int y :: .int x :: st) h = wps rm K Q c_M_copy_128 kc ks loc (.int (x + y) :: st) h := rfl
theorem s_M_copy_128 {x : Int32} {l0 l1 l2 l3 l4 l5 : Option Value} {l : eg_Lo} : wps rm K Q c_M_copy_128 kc ks (l0 :: l1 :: l2 :: l3 :: l4 :: l5 :: some (.int x) :: l) (st) h = wps rm K Q c_M_copy_130 kc ks (l0 :: l1 :: l2 :: l3 :: l4 :: l5 :: some (.int x) :: l) (.int x :: st) h := rfl
theorem s_M_copy_130 {x y : Int32} : wps rm K Q c_M_copy_130 kc ks loc (.int y :: .int x :: st) h = wps rm K Q c_M_copy_131 kc ks loc (.int (x + y) :: st) h := rfl
theorem s_M_copy_131 {x : Nat} {i : Int32} : wps rm K Q c_M_copy_131 kc ks loc (.int i :: .ref (x + 1) :: st) h = eg_ia h x i (fun v => wps rm K Q c_M_copy_132 kc ks loc (.int v :: st) h) := rfl
theorem s_M_copy_132 {x : Nat} {i : Int32} {v : Int32} : wps rm K Q c_M_copy_132 kc ks loc (.int v :: .int i :: .ref (x + 1) :: st) h = eg_is h x i v (fun h9 => wps rm K Q c_M_copy_133 kc ks loc (st) h9) := rfl
theorem s_M_copy_133 {x : Nat} {l : eg_Lo} : wps rm K Q c_M_copy_133 kc ks (some (.ref x) :: l) (st) h = wps rm K Q c_M_copy_134 kc ks (some (.ref x) :: l) (.ref x :: st) h := rfl
theorem s_M_copy_134 {x : Nat} : wps rm K Q c_M_copy_134 kc ks loc (.ref (x + 1) :: st) h = eg_gf h x 12 28 (fun v => wps rm K Q c_M_copy_137 kc ks loc (v :: st) h) := rfl
theorem s_M_copy_137 {x : Int32} {l0 l1 l2 l3 l4 l5 : Option Value} {l : eg_Lo} : wps rm K Q c_M_copy_137 kc ks (l0 :: l1 :: l2 :: l3 :: l4 :: l5 :: some (.int x) :: l) (st) h = wps rm K Q c_M_copy_139 kc ks (l0 :: l1 :: l2 :: l3 :: l4 :: l5 :: some (.int x) :: l) (.int x :: st) h := rfl
theorem s_M_copy_139 {x : Nat} {l : eg_Lo} : wps rm K Q c_M_copy_139 kc ks (some (.ref x) :: l) (st) h = wps rm K Q c_M_copy_140 kc ks (some (.ref x) :: l) (.ref x :: st) h := rfl
theorem s_M_copy_140 {x : Nat} : wps rm K Q c_M_copy_140 kc ks loc (.ref (x + 1) :: st) h = eg_gf h x 12 25 (fun v => wps rm K Q c_M_copy_143 kc ks loc (v :: st) h) := rfl
theorem s_M_copy_143  : wps rm K Q c_M_copy_143 kc ks loc (st) h = wps rm K Q c_M_copy_145 kc ks loc (.int (48) :: st) h := rfl
theorem s_M_copy_145 {x : Int32} {l0 : Option Value} {l : eg_Lo} : wps rm K Q c_M_copy_145 kc ks (l0 :: some (.int x) :: l) (st) h = wps rm K Q c_M_copy_146 kc ks (l0 :: some (.int x) :: l) (.int x :: st) h := rfl
theorem s_M_copy_146 {x y : Int32} : wps rm K Q c_M_copy_146 kc ks loc (.int y :: .int x :: st) h = wps rm K Q c_M_copy_147 kc ks loc (.int (x * y) :: st) h := rfl
theorem s_M_copy_147 {x : Int32} {l0 l1 : Option Value} {l : eg_Lo} : wps rm K Q c_M_copy_147 kc ks (l0 :: l1 :: some (.int x) :: l) (st) h = wps rm K Q c_M_copy_148 kc ks (l0 :: l1 :: some (.int x) :: l) (.int x :: st) h := rfl
theorem s_M_copy_148 {x y : Int32} : wps rm K Q c_M_copy_148 kc ks loc (.int y :: .int x :: st) h = wps rm K Q c_M_copy_149 kc ks loc (.int (x + y) :: st) h := rfl
theorem s_M_copy_149 {x : Int32} {l0 l1 l2 l3 l4 l5 : Option Value} {l : eg_Lo} : wps rm K Q c_M_copy_149 kc ks (l0 :: l1 :: l2 :: l3 :: l4 :: l5 :: some (.int x) :: l) (st) h = wps rm K Q c_M_copy_151 kc ks (l0 :: l1 :: l2 :: l3 :: l4 :: l5 :: some (.int x) :: l) (.int x :: st) h := rfl
theorem s_M_copy_151 {x y : Int32} : wps rm K Q c_M_copy_151 kc ks loc (.int y :: .int x :: st) h = wps rm K Q c_M_copy_152 kc ks loc (.int (x + y) :: st) h := rfl
theorem s_M_copy_152 {x : Nat} {i : Int32} : wps rm K Q c_M_copy_152 kc ks loc (.int i :: .ref (x + 1) :: st) h = eg_da h x i (fun v => wps rm K Q c_M_copy_153 kc ks loc (.double v :: st) h) := rfl
theorem s_M_copy_153 {x : Nat} {i : Int32} {v : UInt64} : wps rm K Q c_M_copy_153 kc ks loc (.double v :: .int i :: .ref (x + 1) :: st) h = eg_ds h x i v (fun h9 => wps rm K Q c_M_copy_154 kc ks loc (st) h9) := rfl
theorem s_M_copy_154 {x : Int32} {l0 l1 l2 l3 l4 l5 : Option Value} {l9 : eg_Lo} : wps rm K Q c_M_copy_154 kc ks (l0 :: l1 :: l2 :: l3 :: l4 :: l5 :: some (.int x) :: l9) (st) h = wps rm K Q c_M_copy_157 kc ks (eg_set1 (l0 :: l1 :: l2 :: l3 :: l4 :: l5 :: some (.int x) :: l9) 6 (.int (x + (1)))) (st) h := rfl
theorem s_M_copy_157  : wps rm K Q c_M_copy_157 kc ks loc (st) h = K 105 kc ks loc st h := rfl
theorem s_M_copy_160  : wps rm K Q c_M_copy_160 kc ks loc (st) h = wps rm K Q c_M_copy_161 kc ks loc (.int (0) :: st) h := rfl
theorem s_M_copy_161 {x : Int32} : wps rm K Q c_M_copy_161 kc ks loc (.int x :: st) h = K 163 kc ks (eg_set1 loc 6 (.int x)) (st) h := rfl
theorem s_M_copy_163 {x : Int32} {l0 l1 l2 l3 l4 l5 : Option Value} {l : eg_Lo} : wps rm K Q c_M_copy_163 kc ks (l0 :: l1 :: l2 :: l3 :: l4 :: l5 :: some (.int x) :: l) (st) h = wps rm K Q c_M_copy_165 kc ks (l0 :: l1 :: l2 :: l3 :: l4 :: l5 :: some (.int x) :: l) (.int x :: st) h := rfl
theorem s_M_copy_165 {x : Int32} {l0 l1 l2 l3 l4 : Option Value} {l : eg_Lo} : wps rm K Q c_M_copy_165 kc ks (l0 :: l1 :: l2 :: l3 :: l4 :: some (.int x) :: l) (st) h = wps rm K Q c_M_copy_167 kc ks (l0 :: l1 :: l2 :: l3 :: l4 :: some (.int x) :: l) (.int x :: st) h := rfl
theorem s_M_copy_167 {x y : Int32} : wps rm K Q c_M_copy_167 kc ks loc (.int y :: .int x :: st) h = ((y ≤ x → K 220 kc ks loc st h) ∧ (¬ y ≤ x → wps rm K Q c_M_copy_170 kc ks loc (st) h)) := rfl
theorem s_M_copy_170 {x : Nat} {l : eg_Lo} : wps rm K Q c_M_copy_170 kc ks (some (.ref x) :: l) (st) h = wps rm K Q c_M_copy_171 kc ks (some (.ref x) :: l) (.ref x :: st) h := rfl
theorem s_M_copy_171 {x : Nat} : wps rm K Q c_M_copy_171 kc ks loc (.ref (x + 1) :: st) h = eg_gf h x 12 24 (fun v => wps rm K Q c_M_copy_174 kc ks loc (v :: st) h) := rfl
theorem s_M_copy_174  : wps rm K Q c_M_copy_174 kc ks loc (st) h = wps rm K Q c_M_copy_176 kc ks loc (.int (48) :: st) h := rfl
theorem s_M_copy_176 {x : Int32} {l0 l1 l2 : Option Value} {l : eg_Lo} : wps rm K Q c_M_copy_176 kc ks (l0 :: l1 :: l2 :: some (.int x) :: l) (st) h = wps rm K Q c_M_copy_177 kc ks (l0 :: l1 :: l2 :: some (.int x) :: l) (.int x :: st) h := rfl
theorem s_M_copy_177 {x y : Int32} : wps rm K Q c_M_copy_177 kc ks loc (.int y :: .int x :: st) h = wps rm K Q c_M_copy_178 kc ks loc (.int (x * y) :: st) h := rfl
theorem s_M_copy_178 {x : Int32} {l0 l1 l2 l3 : Option Value} {l : eg_Lo} : wps rm K Q c_M_copy_178 kc ks (l0 :: l1 :: l2 :: l3 :: some (.int x) :: l) (st) h = wps rm K Q c_M_copy_180 kc ks (l0 :: l1 :: l2 :: l3 :: some (.int x) :: l) (.int x :: st) h := rfl
theorem s_M_copy_180 {x y : Int32} : wps rm K Q c_M_copy_180 kc ks loc (.int y :: .int x :: st) h = wps rm K Q c_M_copy_181 kc ks loc (.int (x + y) :: st) h := rfl
theorem s_M_copy_181 {x : Int32} {l0 l1 l2 l3 l4 l5 : Option Value} {l : eg_Lo} : wps rm K Q c_M_copy_181 kc ks (l0 :: l1 :: l2 :: l3 :: l4 :: l5 :: some (.int x) :: l) (st) h = wps rm K Q c_M_copy_183 kc ks (l0 :: l1 :: l2 :: l3 :: l4 :: l5 :: some (.int x) :: l) (.int x :: st) h := rfl
theorem s_M_copy_183 {x y : Int32} : wps rm K Q c_M_copy_183 kc ks loc (.int y :: .int x :: st) h = wps rm K Q c_M_copy_184 kc ks loc (.int (x + y) :: st) h := rfl
theorem s_M_copy_184 {x : Nat} {l : eg_Lo} : wps rm K Q c_M_copy_184 kc ks (some (.ref x) :: l) (st) h = wps rm K Q c_M_copy_185 kc ks (some (.ref x) :: l) (.ref x :: st) h := rfl
theorem s_M_copy_185 {x : Nat} : wps rm K Q c_M_copy_185 kc ks loc (.ref (x + 1) :: st) h = eg_gf h x 12 27 (fun v => wps rm K Q c_M_copy_188 kc ks loc (v :: st) h) := rfl
theorem s_M_copy_188 {x : Int32} {l0 l1 l2 l3 l4 l5 : Option Value} {l : eg_Lo} : wps rm K Q c_M_copy_188 kc ks (l0 :: l1 :: l2 :: l3 :: l4 :: l5 :: some (.int x) :: l) (st) h = wps rm K Q c_M_copy_190 kc ks (l0 :: l1 :: l2 :: l3 :: l4 :: l5 :: some (.int x) :: l) (.int x :: st) h := rfl
theorem s_M_copy_190 {x : Nat} {i : Int32} : wps rm K Q c_M_copy_190 kc ks loc (.int i :: .ref (x + 1) :: st) h = eg_ia h x i (fun v => wps rm K Q c_M_copy_191 kc ks loc (.int v :: st) h) := rfl
theorem s_M_copy_191 {x : Nat} {i : Int32} {v : Int32} : wps rm K Q c_M_copy_191 kc ks loc (.int v :: .int i :: .ref (x + 1) :: st) h = eg_is h x i v (fun h9 => wps rm K Q c_M_copy_192 kc ks loc (st) h9) := rfl
theorem s_M_copy_192 {x : Nat} {l : eg_Lo} : wps rm K Q c_M_copy_192 kc ks (some (.ref x) :: l) (st) h = wps rm K Q c_M_copy_193 kc ks (some (.ref x) :: l) (.ref x :: st) h := rfl
theorem s_M_copy_193 {x : Nat} : wps rm K Q c_M_copy_193 kc ks loc (.ref (x + 1) :: st) h = eg_gf h x 12 25 (fun v => wps rm K Q c_M_copy_196 kc ks loc (v :: st) h) := rfl
theorem s_M_copy_196  : wps rm K Q c_M_copy_196 kc ks loc (st) h = wps rm K Q c_M_copy_198 kc ks loc (.int (48) :: st) h := rfl
theorem s_M_copy_198 {x : Int32} {l0 l1 l2 : Option Value} {l : eg_Lo} : wps rm K Q c_M_copy_198 kc ks (l0 :: l1 :: l2 :: some (.int x) :: l) (st) h = wps rm K Q c_M_copy_199 kc ks (l0 :: l1 :: l2 :: some (.int x) :: l) (.int x :: st) h := rfl
theorem s_M_copy_199 {x y : Int32} : wps rm K Q c_M_copy_199 kc ks loc (.int y :: .int x :: st) h = wps rm K Q c_M_copy_200 kc ks loc (.int (x * y) :: st) h := rfl
theorem s_M_copy_200 {x : Int32} {l0 l1 l2 l3 : Option Value} {l : eg_Lo} : wps rm K Q c_M_copy_200 kc ks (l0 :: l1 :: l2 :: l3 :: some (.int x) :: l) (st) h = wps rm K Q c_M_copy_202 kc ks (l0 :: l1 :: l2 :: l3 :: some (.int x) :: l) (.int x :: st) h := rfl
theorem s_M_copy_202 {x y : Int32} : wps rm K Q c_M_copy_202 kc ks loc (.int y :: .int x :: st) h = wps rm K Q c_M_copy_203 kc ks loc (.int (x + y) :: st) h := rfl
theorem s_M_copy_203 {x : Int32} {l0 l1 l2 l3 l4 l5 : Option Value} {l : eg_Lo} : wps rm K Q c_M_copy_203 kc ks (l0 :: l1 :: l2 :: l3 :: l4 :: l5 :: some (.int x) :: l) (st) h = wps rm K Q c_M_copy_205 kc ks (l0 :: l1 :: l2 :: l3 :: l4 :: l5 :: some (.int x) :: l) (.int x :: st) h := rfl
theorem s_M_copy_205 {x y : Int32} : wps rm K Q c_M_copy_205 kc ks loc (.int y :: .int x :: st) h = wps rm K Q c_M_copy_206 kc ks loc (.int (x + y) :: st) h := rfl
theorem s_M_copy_206 {x : Nat} {l : eg_Lo} : wps rm K Q c_M_copy_206 kc ks (some (.ref x) :: l) (st) h = wps rm K Q c_M_copy_207 kc ks (some (.ref x) :: l) (.ref x :: st) h := rfl
theorem s_M_copy_207 {x : Nat} : wps rm K Q c_M_copy_207 kc ks loc (.ref (x + 1) :: st) h = eg_gf h x 12 28 (fun v => wps rm K Q c_M_copy_210 kc ks loc (v :: st) h) := rfl
theorem s_M_copy_210 {x : Int32} {l0 l1 l2 l3 l4 l5 : Option Value} {l : eg_Lo} : wps rm K Q c_M_copy_210 kc ks (l0 :: l1 :: l2 :: l3 :: l4 :: l5 :: some (.int x) :: l) (st) h = wps rm K Q c_M_copy_212 kc ks (l0 :: l1 :: l2 :: l3 :: l4 :: l5 :: some (.int x) :: l) (.int x :: st) h := rfl
theorem s_M_copy_212 {x : Nat} {i : Int32} : wps rm K Q c_M_copy_212 kc ks loc (.int i :: .ref (x + 1) :: st) h = eg_da h x i (fun v => wps rm K Q c_M_copy_213 kc ks loc (.double v :: st) h) := rfl
theorem s_M_copy_213 {x : Nat} {i : Int32} {v : UInt64} : wps rm K Q c_M_copy_213 kc ks loc (.double v :: .int i :: .ref (x + 1) :: st) h = eg_ds h x i v (fun h9 => wps rm K Q c_M_copy_214 kc ks loc (st) h9) := rfl
theorem s_M_copy_214 {x : Int32} {l0 l1 l2 l3 l4 l5 : Option Value} {l9 : eg_Lo} : wps rm K Q c_M_copy_214 kc ks (l0 :: l1 :: l2 :: l3 :: l4 :: l5 :: some (.int x) :: l9) (st) h = wps rm K Q c_M_copy_217 kc ks (eg_set1 (l0 :: l1 :: l2 :: l3 :: l4 :: l5 :: some (.int x) :: l9) 6 (.int (x + (1)))) (st) h := rfl
theorem s_M_copy_217  : wps rm K Q c_M_copy_217 kc ks loc (st) h = K 163 kc ks loc st h := rfl
theorem s_M_copy_220 {x : Int32} {l0 l1 l2 l3 l4 : Option Value} {l : eg_Lo} : wps rm K Q c_M_copy_220 kc ks (l0 :: l1 :: l2 :: l3 :: l4 :: some (.int x) :: l) (st) h = wps rm K Q c_M_copy_222 kc ks (l0 :: l1 :: l2 :: l3 :: l4 :: some (.int x) :: l) (.int x :: st) h := rfl
theorem s_M_copy_222 {x : Int32} : wps rm K Q c_M_copy_222 kc ks loc (.int x :: st) h = wps rm K Q c_M_copy_223 kc ks loc (.long (x.toInt64) :: st) h := rfl
theorem s_M_copy_223 {x : Int64} : wps rm K Q c_M_copy_223 kc ks loc ([.long x]) h = (kc = rm.cells ∧ Q (some (.long x)) h) := rfl
def T_M_copy : List (Nat × List eg_I) := [(14, c_M_copy_14), (22, c_M_copy_22), (40, c_M_copy_40), (48, c_M_copy_48), (71, c_M_copy_71), (94, c_M_copy_94), (102, c_M_copy_102), (160, c_M_copy_160), (220, c_M_copy_220)]
theorem j_M_copy_14 {R : Nat → Nat → Nat → eg_Lo → List Value → List eg_E → Prop} {f pc0 : Nat} : eg_run rm R Q T_M_copy (f + 1) 14 kc ks loc st h = wps rm (eg_run rm R Q T_M_copy f) Q c_M_copy_14 kc ks loc st h := rfl
theorem j_M_copy_22 {R : Nat → Nat → Nat → eg_Lo → List Value → List eg_E → Prop} {f pc0 : Nat} : eg_run rm R Q T_M_copy (f + 1) 22 kc ks loc st h = wps rm (eg_run rm R Q T_M_copy f) Q c_M_copy_22 kc ks loc st h := rfl
theorem j_M_copy_40 {R : Nat → Nat → Nat → eg_Lo → List Value → List eg_E → Prop} {f pc0 : Nat} : eg_run rm R Q T_M_copy (f + 1) 40 kc ks loc st h = wps rm (eg_run rm R Q T_M_copy f) Q c_M_copy_40 kc ks loc st h := rfl
theorem j_M_copy_48 {R : Nat → Nat → Nat → eg_Lo → List Value → List eg_E → Prop} {f pc0 : Nat} : eg_run rm R Q T_M_copy (f + 1) 48 kc ks loc st h = wps rm (eg_run rm R Q T_M_copy f) Q c_M_copy_48 kc ks loc st h := rfl
theorem j_M_copy_71 {R : Nat → Nat → Nat → eg_Lo → List Value → List eg_E → Prop} {f pc0 : Nat} : eg_run rm R Q T_M_copy (f + 1) 71 kc ks loc st h = wps rm (eg_run rm R Q T_M_copy f) Q c_M_copy_71 kc ks loc st h := rfl
theorem j_M_copy_94 {R : Nat → Nat → Nat → eg_Lo → List Value → List eg_E → Prop} {f pc0 : Nat} : eg_run rm R Q T_M_copy (f + 1) 94 kc ks loc st h = wps rm (eg_run rm R Q T_M_copy f) Q c_M_copy_94 kc ks loc st h := rfl
theorem j_M_copy_102 {R : Nat → Nat → Nat → eg_Lo → List Value → List eg_E → Prop} {f pc0 : Nat} : eg_run rm R Q T_M_copy (f + 1) 102 kc ks loc st h = wps rm (eg_run rm R Q T_M_copy f) Q c_M_copy_102 kc ks loc st h := rfl
theorem j_M_copy_160 {R : Nat → Nat → Nat → eg_Lo → List Value → List eg_E → Prop} {f pc0 : Nat} : eg_run rm R Q T_M_copy (f + 1) 160 kc ks loc st h = wps rm (eg_run rm R Q T_M_copy f) Q c_M_copy_160 kc ks loc st h := rfl
theorem j_M_copy_220 {R : Nat → Nat → Nat → eg_Lo → List Value → List eg_E → Prop} {f pc0 : Nat} : eg_run rm R Q T_M_copy (f + 1) 220 kc ks loc st h = wps rm (eg_run rm R Q T_M_copy f) Q c_M_copy_220 kc ks loc st h := rfl
theorem j_M_copy_105 {R : Nat → Nat → Nat → eg_Lo → List Value → List eg_E → Prop} {f pc0 : Nat} : eg_run rm R Q T_M_copy (f + 1) 105 kc ks loc st h = R 105 kc ks loc st h := rfl
theorem j_M_copy_163 {R : Nat → Nat → Nat → eg_Lo → List Value → List eg_E → Prop} {f pc0 : Nat} : eg_run rm R Q T_M_copy (f + 1) 163 kc ks loc st h = R 163 kc ks loc st h := rfl
end
theorem q_M_copy : (T_M_copy.all fun q => eg_seq m_M_copy q.1 q.2) = true := by decide +kernel
theorem b_M_copy {as : List Value} {h : List eg_E} {Q : Option Value → List eg_E → Prop} (hf : (eg_fl as).length ≤ 7) (hw : wps (eg_rm m_M_copy) (eg_run (eg_rm m_M_copy) (eg_R m_M_copy Q (h.length + 0)) Q T_M_copy 11) Q c_M_copy_0 0 0 (eg_entry 7 as) [] h) : eg_Runs n_M_copy as h Q := eg_begin (d := m_M_copy) rfl (by decide) (by decide +kernel) q_M_copy hf hw
theorem p_M_copy_105 {Q : Option Value → List eg_E → Prop} {n0 kc ks : Nat} {loc : eg_Lo} {st : List Value} {h : List eg_E} (hw : wps (eg_rm m_M_copy) (eg_run (eg_rm m_M_copy) (eg_R m_M_copy Q n0) Q T_M_copy 11) Q c_M_copy_105 kc ks loc st h) : eg_R m_M_copy Q n0 105 kc ks loc st h := eg_go (by decide +kernel) q_M_copy hw
theorem p_M_copy_163 {Q : Option Value → List eg_E → Prop} {n0 kc ks : Nat} {loc : eg_Lo} {st : List Value} {h : List eg_E} (hw : wps (eg_rm m_M_copy) (eg_run (eg_rm m_M_copy) (eg_R m_M_copy Q n0) Q T_M_copy 11) Q c_M_copy_163 kc ks loc st h) : eg_R m_M_copy Q n0 163 kc ks loc st h := eg_go (by decide +kernel) q_M_copy hw
/-! ===== M_isGood ===== -/
def c_M_isGood_66 : List eg_I := .inl (66, 1, .ireturn, 0, 1) :: []
def c_M_isGood_65 : List eg_I := .inl (65, 1, .iconst (0), 0, 0) :: c_M_isGood_66
def c_M_isGood_62 : List eg_I := .inl (62, 3, .goto (4), 66, 0) :: []
def c_M_isGood_61 : List eg_I := .inl (61, 1, .iconst (1), 0, 0) :: c_M_isGood_62
def c_M_isGood_58 : List eg_I := .inl (58, 3, .ifCond .ne (7), 65, 0) :: c_M_isGood_61
def c_M_isGood_57 : List eg_I := .inl (57, 1, .dcmp .l, 0, 0) :: c_M_isGood_58
def c_M_isGood_56 : List eg_I := .inl (56, 1, .i2d, 0, 0) :: c_M_isGood_57
def c_M_isGood_55 : List eg_I := .inl (55, 1, .d2i, 0, 0) :: c_M_isGood_56
def c_M_isGood_54 : List eg_I := .inl (54, 1, .dload 3, 0, 0) :: c_M_isGood_55
def c_M_isGood_53 : List eg_I := .inl (53, 1, .dload 3, 0, 0) :: c_M_isGood_54
def c_M_isGood_50 : List eg_I := .inl (50, 3, .ifCond .gt (15), 65, 0) :: c_M_isGood_53
def c_M_isGood_49 : List eg_I := .inl (49, 1, .dcmp .g, 0, 0) :: c_M_isGood_50
def c_M_isGood_46 : List eg_I := .inl (46, 3, .ldc2_w 160, 4643985272004935680, 0) :: c_M_isGood_49
def c_M_isGood_45 : List eg_I := .inl (45, 1, .dload 3, 0, 0) :: c_M_isGood_46
def c_M_isGood_42 : List eg_I := .inl (42, 3, .ifCond .lt (23), 65, 0) :: c_M_isGood_45
def c_M_isGood_41 : List eg_I := .inl (41, 1, .dcmp .l, 0, 0) :: c_M_isGood_42
def c_M_isGood_38 : List eg_I := .inl (38, 3, .ldc2_w 158, 13867357308859711488, 0) :: c_M_isGood_41
def c_M_isGood_37 : List eg_I := .inl (37, 1, .dload 3, 0, 0) :: c_M_isGood_38
def c_M_isGood_36 : List eg_I := .inl (36, 1, .dstore 3, 0, 0) :: c_M_isGood_37
def c_M_isGood_35 : List eg_I := .inl (35, 1, .daload, 0, 0) :: c_M_isGood_36
def c_M_isGood_34 : List eg_I := .inl (34, 1, .iadd, 0, 0) :: c_M_isGood_35
def c_M_isGood_33 : List eg_I := .inl (33, 1, .iload 2, 0, 0) :: c_M_isGood_34
def c_M_isGood_32 : List eg_I := .inl (32, 1, .imul, 0, 0) :: c_M_isGood_33
def c_M_isGood_31 : List eg_I := .inl (31, 1, .iload 1, 0, 0) :: c_M_isGood_32
def c_M_isGood_29 : List eg_I := .inl (29, 2, .iconst (48), 0, 0) :: c_M_isGood_31
def c_M_isGood_26 : List eg_I := .inl (26, 3, .getfield 78, 12, 25) :: c_M_isGood_29
def c_M_isGood_25 : List eg_I := .inl (25, 1, .aload 0, 0, 0) :: c_M_isGood_26
def c_M_isGood_24 : List eg_I := .inl (24, 1, .ireturn, 0, 1) :: []
def c_M_isGood_21 : List eg_I := .inr (21, 0, 107, n_M_isNear, 1, 12, 0, 0) :: c_M_isGood_24
def c_M_isGood_20 : List eg_I := .inl (20, 1, .iaload, 0, 0) :: c_M_isGood_21
def c_M_isGood_19 : List eg_I := .inl (19, 1, .iadd, 0, 0) :: c_M_isGood_20
def c_M_isGood_18 : List eg_I := .inl (18, 1, .iload 2, 0, 0) :: c_M_isGood_19
def c_M_isGood_17 : List eg_I := .inl (17, 1, .imul, 0, 0) :: c_M_isGood_18
def c_M_isGood_16 : List eg_I := .inl (16, 1, .iload 1, 0, 0) :: c_M_isGood_17
def c_M_isGood_14 : List eg_I := .inl (14, 2, .iconst (48), 0, 0) :: c_M_isGood_16
def c_M_isGood_11 : List eg_I := .inl (11, 3, .getfield 75, 12, 24) :: c_M_isGood_14
def c_M_isGood_10 : List eg_I := .inl (10, 1, .aload 0, 0, 0) :: c_M_isGood_11
def c_M_isGood_7 : List eg_I := .inl (7, 3, .if_icmp .ge (18), 25, 0) :: c_M_isGood_10
def c_M_isGood_6 : List eg_I := .inl (6, 1, .iconst (3), 0, 0) :: c_M_isGood_7
def c_M_isGood_5 : List eg_I := .inl (5, 1, .iaload, 0, 0) :: c_M_isGood_6
def c_M_isGood_4 : List eg_I := .inl (4, 1, .iload 1, 0, 0) :: c_M_isGood_5
def c_M_isGood_1 : List eg_I := .inl (1, 3, .getfield 69, 12, 22) :: c_M_isGood_4
def c_M_isGood_0 : List eg_I := .inl (0, 1, .aload 0, 0, 0) :: c_M_isGood_1
section
variable {rm : Room} {K : Nat → Nat → Nat → eg_Lo → List Value → List eg_E → Prop} {Q : Option Value → List eg_E → Prop} {kc ks : Nat} {loc : eg_Lo} {st : List Value} {h : List eg_E}
theorem s_M_isGood_0 {x : Nat} {l : eg_Lo} : wps rm K Q c_M_isGood_0 kc ks (some (.ref x) :: l) (st) h = wps rm K Q c_M_isGood_1 kc ks (some (.ref x) :: l) (.ref x :: st) h := rfl
theorem s_M_isGood_1 {x : Nat} : wps rm K Q c_M_isGood_1 kc ks loc (.ref (x + 1) :: st) h = eg_gf h x 12 22 (fun v => wps rm K Q c_M_isGood_4 kc ks loc (v :: st) h) := rfl
theorem s_M_isGood_4 {x : Int32} {l0 : Option Value} {l : eg_Lo} : wps rm K Q c_M_isGood_4 kc ks (l0 :: some (.int x) :: l) (st) h = wps rm K Q c_M_isGood_5 kc ks (l0 :: some (.int x) :: l) (.int x :: st) h := rfl
theorem s_M_isGood_5 {x : Nat} {i : Int32} : wps rm K Q c_M_isGood_5 kc ks loc (.int i :: .ref (x + 1) :: st) h = eg_ia h x i (fun v => wps rm K Q c_M_isGood_6 kc ks loc (.int v :: st) h) := rfl
theorem s_M_isGood_6  : wps rm K Q c_M_isGood_6 kc ks loc (st) h = wps rm K Q c_M_isGood_7 kc ks loc (.int (3) :: st) h := rfl
theorem s_M_isGood_7 {x y : Int32} : wps rm K Q c_M_isGood_7 kc ks loc (.int y :: .int x :: st) h = ((y ≤ x → K 25 kc ks loc st h) ∧ (¬ y ≤ x → wps rm K Q c_M_isGood_10 kc ks loc (st) h)) := rfl
theorem s_M_isGood_10 {x : Nat} {l : eg_Lo} : wps rm K Q c_M_isGood_10 kc ks (some (.ref x) :: l) (st) h = wps rm K Q c_M_isGood_11 kc ks (some (.ref x) :: l) (.ref x :: st) h := rfl
theorem s_M_isGood_11 {x : Nat} : wps rm K Q c_M_isGood_11 kc ks loc (.ref (x + 1) :: st) h = eg_gf h x 12 24 (fun v => wps rm K Q c_M_isGood_14 kc ks loc (v :: st) h) := rfl
theorem s_M_isGood_14  : wps rm K Q c_M_isGood_14 kc ks loc (st) h = wps rm K Q c_M_isGood_16 kc ks loc (.int (48) :: st) h := rfl
theorem s_M_isGood_16 {x : Int32} {l0 : Option Value} {l : eg_Lo} : wps rm K Q c_M_isGood_16 kc ks (l0 :: some (.int x) :: l) (st) h = wps rm K Q c_M_isGood_17 kc ks (l0 :: some (.int x) :: l) (.int x :: st) h := rfl
theorem s_M_isGood_17 {x y : Int32} : wps rm K Q c_M_isGood_17 kc ks loc (.int y :: .int x :: st) h = wps rm K Q c_M_isGood_18 kc ks loc (.int (x * y) :: st) h := rfl
theorem s_M_isGood_18 {x : Int32} {l0 l1 : Option Value} {l : eg_Lo} : wps rm K Q c_M_isGood_18 kc ks (l0 :: l1 :: some (.int x) :: l) (st) h = wps rm K Q c_M_isGood_19 kc ks (l0 :: l1 :: some (.int x) :: l) (.int x :: st) h := rfl
theorem s_M_isGood_19 {x y : Int32} : wps rm K Q c_M_isGood_19 kc ks loc (.int y :: .int x :: st) h = wps rm K Q c_M_isGood_20 kc ks loc (.int (x + y) :: st) h := rfl
theorem s_M_isGood_20 {x : Nat} {i : Int32} : wps rm K Q c_M_isGood_20 kc ks loc (.int i :: .ref (x + 1) :: st) h = eg_ia h x i (fun v => wps rm K Q c_M_isGood_21 kc ks loc (.int v :: st) h) := rfl
theorem s_M_isGood_21  {a1 : Value} : wps rm K Q c_M_isGood_21 kc ks loc (a1 :: st) h = (st.length ≤ 4 ∧ eg_Cs n_M_isNear [a1] h (fun v h9 => wps rm K Q c_M_isGood_24 kc ks loc (v.toList ++ st) h9)) := eg_c0_1
theorem s_M_isGood_24 {x : Int32} : wps rm K Q c_M_isGood_24 kc ks loc ([.int x]) h = (kc = rm.cells ∧ ((1 : Nat) = 1 → x = 0 ∨ x = 1) ∧ Q (some (.int x)) h) := rfl
theorem s_M_isGood_25 {x : Nat} {l : eg_Lo} : wps rm K Q c_M_isGood_25 kc ks (some (.ref x) :: l) (st) h = wps rm K Q c_M_isGood_26 kc ks (some (.ref x) :: l) (.ref x :: st) h := rfl
theorem s_M_isGood_26 {x : Nat} : wps rm K Q c_M_isGood_26 kc ks loc (.ref (x + 1) :: st) h = eg_gf h x 12 25 (fun v => wps rm K Q c_M_isGood_29 kc ks loc (v :: st) h) := rfl
theorem s_M_isGood_29  : wps rm K Q c_M_isGood_29 kc ks loc (st) h = wps rm K Q c_M_isGood_31 kc ks loc (.int (48) :: st) h := rfl
theorem s_M_isGood_31 {x : Int32} {l0 : Option Value} {l : eg_Lo} : wps rm K Q c_M_isGood_31 kc ks (l0 :: some (.int x) :: l) (st) h = wps rm K Q c_M_isGood_32 kc ks (l0 :: some (.int x) :: l) (.int x :: st) h := rfl
theorem s_M_isGood_32 {x y : Int32} : wps rm K Q c_M_isGood_32 kc ks loc (.int y :: .int x :: st) h = wps rm K Q c_M_isGood_33 kc ks loc (.int (x * y) :: st) h := rfl
theorem s_M_isGood_33 {x : Int32} {l0 l1 : Option Value} {l : eg_Lo} : wps rm K Q c_M_isGood_33 kc ks (l0 :: l1 :: some (.int x) :: l) (st) h = wps rm K Q c_M_isGood_34 kc ks (l0 :: l1 :: some (.int x) :: l) (.int x :: st) h := rfl
theorem s_M_isGood_34 {x y : Int32} : wps rm K Q c_M_isGood_34 kc ks loc (.int y :: .int x :: st) h = wps rm K Q c_M_isGood_35 kc ks loc (.int (x + y) :: st) h := rfl
theorem s_M_isGood_35 {x : Nat} {i : Int32} : wps rm K Q c_M_isGood_35 kc ks loc (.int i :: .ref (x + 1) :: st) h = eg_da h x i (fun v => wps rm K Q c_M_isGood_36 kc ks loc (.double v :: st) h) := rfl
theorem s_M_isGood_36 {x : UInt64} : wps rm K Q c_M_isGood_36 kc ks loc (.double x :: st) h = wps rm K Q c_M_isGood_37 kc ks (eg_set2 loc 3 (.double x)) (st) h := rfl
theorem s_M_isGood_37 {x : UInt64} {l0 l1 l2 : Option Value} {l : eg_Lo} : wps rm K Q c_M_isGood_37 kc ks (l0 :: l1 :: l2 :: some (.double x) :: l) (st) h = wps rm K Q c_M_isGood_38 kc ks (l0 :: l1 :: l2 :: some (.double x) :: l) (.double x :: st) h := rfl
theorem s_M_isGood_38  : wps rm K Q c_M_isGood_38 kc ks loc (st) h = wps rm K Q c_M_isGood_41 kc ks loc (.double (UInt64.ofNat 13867357308859711488) :: st) h := rfl
theorem s_M_isGood_41 {x y : UInt64} : wps rm K Q c_M_isGood_41 kc ks loc (.double y :: .double x :: st) h = wps rm K Q c_M_isGood_42 kc ks loc (.int (Op.cmpValue (FP.dcmp x y) .l) :: st) h := rfl
theorem s_M_isGood_42 {x : Int32} : wps rm K Q c_M_isGood_42 kc ks loc (.int x :: st) h = ((x < 0 → K 65 kc ks loc st h) ∧ (¬ x < 0 → wps rm K Q c_M_isGood_45 kc ks loc (st) h)) := rfl
theorem s_M_isGood_45 {x : UInt64} {l0 l1 l2 : Option Value} {l : eg_Lo} : wps rm K Q c_M_isGood_45 kc ks (l0 :: l1 :: l2 :: some (.double x) :: l) (st) h = wps rm K Q c_M_isGood_46 kc ks (l0 :: l1 :: l2 :: some (.double x) :: l) (.double x :: st) h := rfl
theorem s_M_isGood_46  : wps rm K Q c_M_isGood_46 kc ks loc (st) h = wps rm K Q c_M_isGood_49 kc ks loc (.double (UInt64.ofNat 4643985272004935680) :: st) h := rfl
theorem s_M_isGood_49 {x y : UInt64} : wps rm K Q c_M_isGood_49 kc ks loc (.double y :: .double x :: st) h = wps rm K Q c_M_isGood_50 kc ks loc (.int (Op.cmpValue (FP.dcmp x y) .g) :: st) h := rfl
theorem s_M_isGood_50 {x : Int32} : wps rm K Q c_M_isGood_50 kc ks loc (.int x :: st) h = ((0 < x → K 65 kc ks loc st h) ∧ (¬ 0 < x → wps rm K Q c_M_isGood_53 kc ks loc (st) h)) := rfl
theorem s_M_isGood_53 {x : UInt64} {l0 l1 l2 : Option Value} {l : eg_Lo} : wps rm K Q c_M_isGood_53 kc ks (l0 :: l1 :: l2 :: some (.double x) :: l) (st) h = wps rm K Q c_M_isGood_54 kc ks (l0 :: l1 :: l2 :: some (.double x) :: l) (.double x :: st) h := rfl
theorem s_M_isGood_54 {x : UInt64} {l0 l1 l2 : Option Value} {l : eg_Lo} : wps rm K Q c_M_isGood_54 kc ks (l0 :: l1 :: l2 :: some (.double x) :: l) (st) h = wps rm K Q c_M_isGood_55 kc ks (l0 :: l1 :: l2 :: some (.double x) :: l) (.double x :: st) h := rfl
theorem s_M_isGood_55 {x : UInt64} : wps rm K Q c_M_isGood_55 kc ks loc (.double x :: st) h = wps rm K Q c_M_isGood_56 kc ks loc (.int (FP.d2i x) :: st) h := rfl
theorem s_M_isGood_56 {x : Int32} : wps rm K Q c_M_isGood_56 kc ks loc (.int x :: st) h = wps rm K Q c_M_isGood_57 kc ks loc (.double (FP.i2d x) :: st) h := rfl
theorem s_M_isGood_57 {x y : UInt64} : wps rm K Q c_M_isGood_57 kc ks loc (.double y :: .double x :: st) h = wps rm K Q c_M_isGood_58 kc ks loc (.int (Op.cmpValue (FP.dcmp x y) .l) :: st) h := rfl
theorem s_M_isGood_58 {x : Int32} : wps rm K Q c_M_isGood_58 kc ks loc (.int x :: st) h = ((¬ x = 0 → K 65 kc ks loc st h) ∧ (x = 0 → wps rm K Q c_M_isGood_61 kc ks loc (st) h)) := rfl
theorem s_M_isGood_61  : wps rm K Q c_M_isGood_61 kc ks loc (st) h = wps rm K Q c_M_isGood_62 kc ks loc (.int (1) :: st) h := rfl
theorem s_M_isGood_62  : wps rm K Q c_M_isGood_62 kc ks loc (st) h = K 66 kc ks loc st h := rfl
theorem s_M_isGood_65  : wps rm K Q c_M_isGood_65 kc ks loc (st) h = wps rm K Q c_M_isGood_66 kc ks loc (.int (0) :: st) h := rfl
theorem s_M_isGood_66 {x : Int32} : wps rm K Q c_M_isGood_66 kc ks loc ([.int x]) h = (kc = rm.cells ∧ ((1 : Nat) = 1 → x = 0 ∨ x = 1) ∧ Q (some (.int x)) h) := rfl
def T_M_isGood : List (Nat × List eg_I) := [(25, c_M_isGood_25), (65, c_M_isGood_65), (66, c_M_isGood_66)]
theorem j_M_isGood_25 {R : Nat → Nat → Nat → eg_Lo → List Value → List eg_E → Prop} {f pc0 : Nat} : eg_run rm R Q T_M_isGood (f + 1) 25 kc ks loc st h = wps rm (eg_run rm R Q T_M_isGood f) Q c_M_isGood_25 kc ks loc st h := rfl
theorem j_M_isGood_65 {R : Nat → Nat → Nat → eg_Lo → List Value → List eg_E → Prop} {f pc0 : Nat} : eg_run rm R Q T_M_isGood (f + 1) 65 kc ks loc st h = wps rm (eg_run rm R Q T_M_isGood f) Q c_M_isGood_65 kc ks loc st h := rfl
theorem j_M_isGood_66 {R : Nat → Nat → Nat → eg_Lo → List Value → List eg_E → Prop} {f pc0 : Nat} : eg_run rm R Q T_M_isGood (f + 1) 66 kc ks loc st h = wps rm (eg_run rm R Q T_M_isGood f) Q c_M_isGood_66 kc ks loc st h := rfl
end
theorem q_M_isGood : (T_M_isGood.all fun q => eg_seq m_M_isGood q.1 q.2) = true := by decide +kernel
theorem b_M_isGood {as : List Value} {h : List eg_E} {Q : Option Value → List eg_E → Prop} (hf : (eg_fl as).length ≤ 5) (hw : wps (eg_rm m_M_isGood) (eg_run (eg_rm m_M_isGood) (eg_R m_M_isGood Q (h.length + 0)) Q T_M_isGood 5) Q c_M_isGood_0 0 0 (eg_entry 5 as) [] h) : eg_Runs n_M_isGood as h Q := eg_begin (d := m_M_isGood) rfl (by decide) (by decide +kernel) q_M_isGood hf hw
/-! ===== M_numberOf ===== -/
def c_M_numberOf_36 : List eg_I := .inl (36, 1, .ireturn, 0, 0) :: []
def c_M_numberOf_35 : List eg_I := .inl (35, 1, .d2i, 0, 0) :: c_M_numberOf_36
def c_M_numberOf_34 : List eg_I := .inl (34, 1, .daload, 0, 0) :: c_M_numberOf_35
def c_M_numberOf_33 : List eg_I := .inl (33, 1, .iadd, 0, 0) :: c_M_numberOf_34
def c_M_numberOf_32 : List eg_I := .inl (32, 1, .iload 2, 0, 0) :: c_M_numberOf_33
def c_M_numberOf_31 : List eg_I := .inl (31, 1, .imul, 0, 0) :: c_M_numberOf_32
def c_M_numberOf_30 : List eg_I := .inl (30, 1, .iload 1, 0, 0) :: c_M_numberOf_31
def c_M_numberOf_28 : List eg_I := .inl (28, 2, .iconst (48), 0, 0) :: c_M_numberOf_30
def c_M_numberOf_25 : List eg_I := .inl (25, 3, .getfield 78, 12, 25) :: c_M_numberOf_28
def c_M_numberOf_24 : List eg_I := .inl (24, 1, .aload 0, 0, 0) :: c_M_numberOf_25
def c_M_numberOf_21 : List eg_I := .inl (21, 3, .goto (15), 36, 0) :: []
def c_M_numberOf_20 : List eg_I := .inl (20, 1, .iaload, 0, 0) :: c_M_numberOf_21
def c_M_numberOf_19 : List eg_I := .inl (19, 1, .iadd, 0, 0) :: c_M_numberOf_20
def c_M_numberOf_18 : List eg_I := .inl (18, 1, .iload 2, 0, 0) :: c_M_numberOf_19
def c_M_numberOf_17 : List eg_I := .inl (17, 1, .imul, 0, 0) :: c_M_numberOf_18
def c_M_numberOf_16 : List eg_I := .inl (16, 1, .iload 1, 0, 0) :: c_M_numberOf_17
def c_M_numberOf_14 : List eg_I := .inl (14, 2, .iconst (48), 0, 0) :: c_M_numberOf_16
def c_M_numberOf_11 : List eg_I := .inl (11, 3, .getfield 75, 12, 24) :: c_M_numberOf_14
def c_M_numberOf_10 : List eg_I := .inl (10, 1, .aload 0, 0, 0) :: c_M_numberOf_11
def c_M_numberOf_7 : List eg_I := .inl (7, 3, .if_icmp .ge (17), 24, 0) :: c_M_numberOf_10
def c_M_numberOf_6 : List eg_I := .inl (6, 1, .iconst (3), 0, 0) :: c_M_numberOf_7
def c_M_numberOf_5 : List eg_I := .inl (5, 1, .iaload, 0, 0) :: c_M_numberOf_6
def c_M_numberOf_4 : List eg_I := .inl (4, 1, .iload 1, 0, 0) :: c_M_numberOf_5
def c_M_numberOf_1 : List eg_I := .inl (1, 3, .getfield 69, 12, 22) :: c_M_numberOf_4
def c_M_numberOf_0 : List eg_I := .inl (0, 1, .aload 0, 0, 0) :: c_M_numberOf_1
section
variable {rm : Room} {K : Nat → Nat → Nat → eg_Lo → List Value → List eg_E → Prop} {Q : Option Value → List eg_E → Prop} {kc ks : Nat} {loc : eg_Lo} {st : List Value} {h : List eg_E}
theorem s_M_numberOf_0 {x : Nat} {l : eg_Lo} : wps rm K Q c_M_numberOf_0 kc ks (some (.ref x) :: l) (st) h = wps rm K Q c_M_numberOf_1 kc ks (some (.ref x) :: l) (.ref x :: st) h := rfl
theorem s_M_numberOf_1 {x : Nat} : wps rm K Q c_M_numberOf_1 kc ks loc (.ref (x + 1) :: st) h = eg_gf h x 12 22 (fun v => wps rm K Q c_M_numberOf_4 kc ks loc (v :: st) h) := rfl
theorem s_M_numberOf_4 {x : Int32} {l0 : Option Value} {l : eg_Lo} : wps rm K Q c_M_numberOf_4 kc ks (l0 :: some (.int x) :: l) (st) h = wps rm K Q c_M_numberOf_5 kc ks (l0 :: some (.int x) :: l) (.int x :: st) h := rfl
theorem s_M_numberOf_5 {x : Nat} {i : Int32} : wps rm K Q c_M_numberOf_5 kc ks loc (.int i :: .ref (x + 1) :: st) h = eg_ia h x i (fun v => wps rm K Q c_M_numberOf_6 kc ks loc (.int v :: st) h) := rfl
theorem s_M_numberOf_6  : wps rm K Q c_M_numberOf_6 kc ks loc (st) h = wps rm K Q c_M_numberOf_7 kc ks loc (.int (3) :: st) h := rfl
theorem s_M_numberOf_7 {x y : Int32} : wps rm K Q c_M_numberOf_7 kc ks loc (.int y :: .int x :: st) h = ((y ≤ x → K 24 kc ks loc st h) ∧ (¬ y ≤ x → wps rm K Q c_M_numberOf_10 kc ks loc (st) h)) := rfl
theorem s_M_numberOf_10 {x : Nat} {l : eg_Lo} : wps rm K Q c_M_numberOf_10 kc ks (some (.ref x) :: l) (st) h = wps rm K Q c_M_numberOf_11 kc ks (some (.ref x) :: l) (.ref x :: st) h := rfl
theorem s_M_numberOf_11 {x : Nat} : wps rm K Q c_M_numberOf_11 kc ks loc (.ref (x + 1) :: st) h = eg_gf h x 12 24 (fun v => wps rm K Q c_M_numberOf_14 kc ks loc (v :: st) h) := rfl
theorem s_M_numberOf_14  : wps rm K Q c_M_numberOf_14 kc ks loc (st) h = wps rm K Q c_M_numberOf_16 kc ks loc (.int (48) :: st) h := rfl
theorem s_M_numberOf_16 {x : Int32} {l0 : Option Value} {l : eg_Lo} : wps rm K Q c_M_numberOf_16 kc ks (l0 :: some (.int x) :: l) (st) h = wps rm K Q c_M_numberOf_17 kc ks (l0 :: some (.int x) :: l) (.int x :: st) h := rfl
theorem s_M_numberOf_17 {x y : Int32} : wps rm K Q c_M_numberOf_17 kc ks loc (.int y :: .int x :: st) h = wps rm K Q c_M_numberOf_18 kc ks loc (.int (x * y) :: st) h := rfl
theorem s_M_numberOf_18 {x : Int32} {l0 l1 : Option Value} {l : eg_Lo} : wps rm K Q c_M_numberOf_18 kc ks (l0 :: l1 :: some (.int x) :: l) (st) h = wps rm K Q c_M_numberOf_19 kc ks (l0 :: l1 :: some (.int x) :: l) (.int x :: st) h := rfl
theorem s_M_numberOf_19 {x y : Int32} : wps rm K Q c_M_numberOf_19 kc ks loc (.int y :: .int x :: st) h = wps rm K Q c_M_numberOf_20 kc ks loc (.int (x + y) :: st) h := rfl
theorem s_M_numberOf_20 {x : Nat} {i : Int32} : wps rm K Q c_M_numberOf_20 kc ks loc (.int i :: .ref (x + 1) :: st) h = eg_ia h x i (fun v => wps rm K Q c_M_numberOf_21 kc ks loc (.int v :: st) h) := rfl
theorem s_M_numberOf_21  : wps rm K Q c_M_numberOf_21 kc ks loc (st) h = K 36 kc ks loc st h := rfl
theorem s_M_numberOf_24 {x : Nat} {l : eg_Lo} : wps rm K Q c_M_numberOf_24 kc ks (some (.ref x) :: l) (st) h = wps rm K Q c_M_numberOf_25 kc ks (some (.ref x) :: l) (.ref x :: st) h := rfl
theorem s_M_numberOf_25 {x : Nat} : wps rm K Q c_M_numberOf_25 kc ks loc (.ref (x + 1) :: st) h = eg_gf h x 12 25 (fun v => wps rm K Q c_M_numberOf_28 kc ks loc (v :: st) h) := rfl
theorem s_M_numberOf_28  : wps rm K Q c_M_numberOf_28 kc ks loc (st) h = wps rm K Q c_M_numberOf_30 kc ks loc (.int (48) :: st) h := rfl
theorem s_M_numberOf_30 {x : Int32} {l0 : Option Value} {l : eg_Lo} : wps rm K Q c_M_numberOf_30 kc ks (l0 :: some (.int x) :: l) (st) h = wps rm K Q c_M_numberOf_31 kc ks (l0 :: some (.int x) :: l) (.int x :: st) h := rfl
theorem s_M_numberOf_31 {x y : Int32} : wps rm K Q c_M_numberOf_31 kc ks loc (.int y :: .int x :: st) h = wps rm K Q c_M_numberOf_32 kc ks loc (.int (x * y) :: st) h := rfl
theorem s_M_numberOf_32 {x : Int32} {l0 l1 : Option Value} {l : eg_Lo} : wps rm K Q c_M_numberOf_32 kc ks (l0 :: l1 :: some (.int x) :: l) (st) h = wps rm K Q c_M_numberOf_33 kc ks (l0 :: l1 :: some (.int x) :: l) (.int x :: st) h := rfl
theorem s_M_numberOf_33 {x y : Int32} : wps rm K Q c_M_numberOf_33 kc ks loc (.int y :: .int x :: st) h = wps rm K Q c_M_numberOf_34 kc ks loc (.int (x + y) :: st) h := rfl
theorem s_M_numberOf_34 {x : Nat} {i : Int32} : wps rm K Q c_M_numberOf_34 kc ks loc (.int i :: .ref (x + 1) :: st) h = eg_da h x i (fun v => wps rm K Q c_M_numberOf_35 kc ks loc (.double v :: st) h) := rfl
theorem s_M_numberOf_35 {x : UInt64} : wps rm K Q c_M_numberOf_35 kc ks loc (.double x :: st) h = wps rm K Q c_M_numberOf_36 kc ks loc (.int (FP.d2i x) :: st) h := rfl
theorem s_M_numberOf_36 {x : Int32} : wps rm K Q c_M_numberOf_36 kc ks loc ([.int x]) h = (kc = rm.cells ∧ (0 = 1 → x = 0 ∨ x = 1) ∧ Q (some (.int x)) h) := rfl
def T_M_numberOf : List (Nat × List eg_I) := [(24, c_M_numberOf_24), (36, c_M_numberOf_36)]
theorem j_M_numberOf_24 {R : Nat → Nat → Nat → eg_Lo → List Value → List eg_E → Prop} {f pc0 : Nat} : eg_run rm R Q T_M_numberOf (f + 1) 24 kc ks loc st h = wps rm (eg_run rm R Q T_M_numberOf f) Q c_M_numberOf_24 kc ks loc st h := rfl
theorem j_M_numberOf_36 {R : Nat → Nat → Nat → eg_Lo → List Value → List eg_E → Prop} {f pc0 : Nat} : eg_run rm R Q T_M_numberOf (f + 1) 36 kc ks loc st h = wps rm (eg_run rm R Q T_M_numberOf f) Q c_M_numberOf_36 kc ks loc st h := rfl
end
theorem q_M_numberOf : (T_M_numberOf.all fun q => eg_seq m_M_numberOf q.1 q.2) = true := by decide +kernel
theorem b_M_numberOf {as : List Value} {h : List eg_E} {Q : Option Value → List eg_E → Prop} (hf : (eg_fl as).length ≤ 3) (hw : wps (eg_rm m_M_numberOf) (eg_run (eg_rm m_M_numberOf) (eg_R m_M_numberOf Q (h.length + 0)) Q T_M_numberOf 4) Q c_M_numberOf_0 0 0 (eg_entry 3 as) [] h) : eg_Runs n_M_numberOf as h Q := eg_begin (d := m_M_numberOf) rfl (by decide) (by decide +kernel) q_M_numberOf hf hw
/-! ===== M_lay ===== -/
def c_M_lay_182 : List eg_I := .inl (182, 1, .lreturn, 0, 0) :: []
def c_M_lay_181 : List eg_I := .inl (181, 1, .i2l, 0, 0) :: c_M_lay_182
def c_M_lay_179 : List eg_I := .inl (179, 2, .iload 4, 0, 0) :: c_M_lay_181
def c_M_lay_176 : List eg_I := .inl (176, 3, .goto (-101), 75, 0) :: []
def c_M_lay_173 : List eg_I := .inl (173, 3, .iinc 5 (1), 0, 0) :: c_M_lay_176
def c_M_lay_170 : List eg_I := .inr (170, 1, 118, n_M_add, 5, 12, 0, 0) :: c_M_lay_173
def c_M_lay_169 : List eg_I := .inl (169, 1, .iconst (1), 0, 0) :: c_M_lay_170
def c_M_lay_168 : List eg_I := .inl (168, 1, .iconst (0), 0, 0) :: c_M_lay_169
def c_M_lay_167 : List eg_I := .inl (167, 1, .iconst (0), 0, 0) :: c_M_lay_168
def c_M_lay_166 : List eg_I := .inl (166, 1, .iconst (0), 0, 0) :: c_M_lay_167
def c_M_lay_165 : List eg_I := .inl (165, 1, .iload 1, 0, 0) :: c_M_lay_166
def c_M_lay_164 : List eg_I := .inl (164, 1, .aload 0, 0, 0) :: c_M_lay_165
def c_M_lay_161 : List eg_I := .inl (161, 3, .goto (12), 173, 0) :: []
def c_M_lay_158 : List eg_I := .inl (158, 3, .iinc 4 (1), 0, 0) :: c_M_lay_161
def c_M_lay_155 : List eg_I := .inr (155, 1, 118, n_M_add, 5, 12, 0, 0) :: c_M_lay_158
def c_M_lay_154 : List eg_I := .inl (154, 1, .iconst (0), 0, 0) :: c_M_lay_155
def c_M_lay_151 : List eg_I := .inr (151, 1, 165, n_M_numberOf, 2, 12, 0, 0) :: c_M_lay_154
def c_M_lay_150 : List eg_I := .inl (150, 1, .iadd, 0, 0) :: c_M_lay_151
def c_M_lay_149 : List eg_I := .inl (149, 1, .iconst (2), 0, 0) :: c_M_lay_150
def c_M_lay_148 : List eg_I := .inl (148, 1, .imul, 0, 0) :: c_M_lay_149
def c_M_lay_146 : List eg_I := .inl (146, 2, .iload 5, 0, 0) :: c_M_lay_148
def c_M_lay_145 : List eg_I := .inl (145, 1, .iconst (3), 0, 0) :: c_M_lay_146
def c_M_lay_144 : List eg_I := .inl (144, 1, .iload 2, 0, 0) :: c_M_lay_145
def c_M_lay_143 : List eg_I := .inl (143, 1, .aload 0, 0, 0) :: c_M_lay_144
def c_M_lay_140 : List eg_I := .inr (140, 1, 165, n_M_numberOf, 2, 12, 0, 0) :: c_M_lay_143
def c_M_lay_139 : List eg_I := .inl (139, 1, .iadd, 0, 0) :: c_M_lay_140
def c_M_lay_138 : List eg_I := .inl (138, 1, .iconst (1), 0, 0) :: c_M_lay_139
def c_M_lay_137 : List eg_I := .inl (137, 1, .imul, 0, 0) :: c_M_lay_138
def c_M_lay_135 : List eg_I := .inl (135, 2, .iload 5, 0, 0) :: c_M_lay_137
def c_M_lay_134 : List eg_I := .inl (134, 1, .iconst (3), 0, 0) :: c_M_lay_135
def c_M_lay_133 : List eg_I := .inl (133, 1, .iload 2, 0, 0) :: c_M_lay_134
def c_M_lay_132 : List eg_I := .inl (132, 1, .aload 0, 0, 0) :: c_M_lay_133
def c_M_lay_129 : List eg_I := .inr (129, 1, 165, n_M_numberOf, 2, 12, 0, 0) :: c_M_lay_132
def c_M_lay_128 : List eg_I := .inl (128, 1, .imul, 0, 0) :: c_M_lay_129
def c_M_lay_126 : List eg_I := .inl (126, 2, .iload 5, 0, 0) :: c_M_lay_128
def c_M_lay_125 : List eg_I := .inl (125, 1, .iconst (3), 0, 0) :: c_M_lay_126
def c_M_lay_124 : List eg_I := .inl (124, 1, .iload 2, 0, 0) :: c_M_lay_125
def c_M_lay_123 : List eg_I := .inl (123, 1, .aload 0, 0, 0) :: c_M_lay_124
def c_M_lay_122 : List eg_I := .inl (122, 1, .iload 1, 0, 0) :: c_M_lay_123
def c_M_lay_121 : List eg_I := .inl (121, 1, .aload 0, 0, 0) :: c_M_lay_122
def c_M_lay_118 : List eg_I := .inl (118, 3, .ifCond .eq (46), 164, 0) :: c_M_lay_121
def c_M_lay_115 : List eg_I := .inr (115, 1, 162, n_M_isGood, 2, 12, 0, 0) :: c_M_lay_118
def c_M_lay_114 : List eg_I := .inl (114, 1, .iadd, 0, 0) :: c_M_lay_115
def c_M_lay_113 : List eg_I := .inl (113, 1, .iconst (2), 0, 0) :: c_M_lay_114
def c_M_lay_112 : List eg_I := .inl (112, 1, .imul, 0, 0) :: c_M_lay_113
def c_M_lay_110 : List eg_I := .inl (110, 2, .iload 5, 0, 0) :: c_M_lay_112
def c_M_lay_109 : List eg_I := .inl (109, 1, .iconst (3), 0, 0) :: c_M_lay_110
def c_M_lay_108 : List eg_I := .inl (108, 1, .iload 2, 0, 0) :: c_M_lay_109
def c_M_lay_107 : List eg_I := .inl (107, 1, .aload 0, 0, 0) :: c_M_lay_108
def c_M_lay_104 : List eg_I := .inl (104, 3, .ifCond .eq (60), 164, 0) :: c_M_lay_107
def c_M_lay_101 : List eg_I := .inr (101, 1, 162, n_M_isGood, 2, 12, 0, 0) :: c_M_lay_104
def c_M_lay_100 : List eg_I := .inl (100, 1, .iadd, 0, 0) :: c_M_lay_101
def c_M_lay_99 : List eg_I := .inl (99, 1, .iconst (1), 0, 0) :: c_M_lay_100
def c_M_lay_98 : List eg_I := .inl (98, 1, .imul, 0, 0) :: c_M_lay_99
def c_M_lay_96 : List eg_I := .inl (96, 2, .iload 5, 0, 0) :: c_M_lay_98
def c_M_lay_95 : List eg_I := .inl (95, 1, .iconst (3), 0, 0) :: c_M_lay_96
def c_M_lay_94 : List eg_I := .inl (94, 1, .iload 2, 0, 0) :: c_M_lay_95
def c_M_lay_93 : List eg_I := .inl (93, 1, .aload 0, 0, 0) :: c_M_lay_94
def c_M_lay_90 : List eg_I := .inl (90, 3, .ifCond .eq (74), 164, 0) :: c_M_lay_93
def c_M_lay_87 : List eg_I := .inr (87, 1, 162, n_M_isGood, 2, 12, 0, 0) :: c_M_lay_90
def c_M_lay_86 : List eg_I := .inl (86, 1, .imul, 0, 0) :: c_M_lay_87
def c_M_lay_84 : List eg_I := .inl (84, 2, .iload 5, 0, 0) :: c_M_lay_86
def c_M_lay_83 : List eg_I := .inl (83, 1, .iconst (3), 0, 0) :: c_M_lay_84
def c_M_lay_82 : List eg_I := .inl (82, 1, .iload 2, 0, 0) :: c_M_lay_83
def c_M_lay_81 : List eg_I := .inl (81, 1, .aload 0, 0, 0) :: c_M_lay_82
def c_M_lay_78 : List eg_I := .inl (78, 3, .if_icmp .ge (101), 179, 0) :: c_M_lay_81
def c_M_lay_77 : List eg_I := .inl (77, 1, .iload 3, 0, 0) :: c_M_lay_78
def c_M_lay_75 : List eg_I := .inl (75, 2, .iload 5, 0, 0) :: c_M_lay_77
def c_M_lay_73 : List eg_I := .inl (73, 2, .istore 5, 0, 0) :: [.inl (75, 0, .nop, 0, 0)]
def c_M_lay_72 : List eg_I := .inl (72, 1, .iconst (0), 0, 0) :: c_M_lay_73
def c_M_lay_70 : List eg_I := .inl (70, 2, .istore 4, 0, 0) :: c_M_lay_72
def c_M_lay_69 : List eg_I := .inl (69, 1, .iconst (0), 0, 0) :: c_M_lay_70
def c_M_lay_68 : List eg_I := .inl (68, 1, .lreturn, 0, 0) :: []
def c_M_lay_65 : List eg_I := .inr (65, 1, 112, n_M_finding, 1, 12, 0, 0) :: c_M_lay_68
def c_M_lay_62 : List eg_I := .inl (62, 3, .sipush (-1000000000000000005), 116, 0) :: c_M_lay_65
def c_M_lay_61 : List eg_I := .inl (61, 1, .aload 0, 0, 0) :: c_M_lay_62
def c_M_lay_58 : List eg_I := .inl (58, 3, .if_icmp .le (11), 69, 0) :: c_M_lay_61
def c_M_lay_56 : List eg_I := .inl (56, 2, .iconst (16), 0, 0) :: c_M_lay_58
def c_M_lay_55 : List eg_I := .inl (55, 1, .iadd, 0, 0) :: c_M_lay_56
def c_M_lay_54 : List eg_I := .inl (54, 1, .iload 3, 0, 0) :: c_M_lay_55
def c_M_lay_53 : List eg_I := .inl (53, 1, .iaload, 0, 0) :: c_M_lay_54
def c_M_lay_52 : List eg_I := .inl (52, 1, .iload 1, 0, 0) :: c_M_lay_53
def c_M_lay_49 : List eg_I := .inl (49, 3, .getfield 9, 12, 0) :: c_M_lay_52
def c_M_lay_48 : List eg_I := .inl (48, 1, .aload 0, 0, 0) :: c_M_lay_49
def c_M_lay_47 : List eg_I := .inl (47, 1, .istore 3, 0, 0) :: c_M_lay_48
def c_M_lay_46 : List eg_I := .inl (46, 1, .idiv, 0, 0) :: c_M_lay_47
def c_M_lay_45 : List eg_I := .inl (45, 1, .iconst (3), 0, 0) :: c_M_lay_46
def c_M_lay_44 : List eg_I := .inl (44, 1, .iaload, 0, 0) :: c_M_lay_45
def c_M_lay_43 : List eg_I := .inl (43, 1, .iload 2, 0, 0) :: c_M_lay_44
def c_M_lay_40 : List eg_I := .inl (40, 3, .getfield 72, 12, 23) :: c_M_lay_43
def c_M_lay_39 : List eg_I := .inl (39, 1, .aload 0, 0, 0) :: c_M_lay_40
def c_M_lay_38 : List eg_I := .inl (38, 1, .lreturn, 0, 0) :: []
def c_M_lay_35 : List eg_I := .inr (35, 1, 112, n_M_finding, 1, 12, 0, 0) :: c_M_lay_38
def c_M_lay_32 : List eg_I := .inl (32, 3, .sipush (-1000000000000000002), 145, 0) :: c_M_lay_35
def c_M_lay_31 : List eg_I := .inl (31, 1, .aload 0, 0, 0) :: c_M_lay_32
def c_M_lay_28 : List eg_I := .inl (28, 3, .ifCond .ne (11), 39, 0) :: c_M_lay_31
def c_M_lay_27 : List eg_I := .inl (27, 1, .iaload, 0, 0) :: c_M_lay_28
def c_M_lay_26 : List eg_I := .inl (26, 1, .iload 2, 0, 0) :: c_M_lay_27
def c_M_lay_23 : List eg_I := .inl (23, 3, .getfield 69, 12, 22) :: c_M_lay_26
def c_M_lay_22 : List eg_I := .inl (22, 1, .aload 0, 0, 0) :: c_M_lay_23
def c_M_lay_21 : List eg_I := .inl (21, 1, .lreturn, 0, 0) :: []
def c_M_lay_18 : List eg_I := .inr (18, 1, 112, n_M_finding, 1, 12, 0, 0) :: c_M_lay_21
def c_M_lay_15 : List eg_I := .inl (15, 3, .sipush (-1000000000000000001), 110, 0) :: c_M_lay_18
def c_M_lay_14 : List eg_I := .inl (14, 1, .aload 0, 0, 0) :: c_M_lay_15
def c_M_lay_11 : List eg_I := .inl (11, 3, .ifCond .ne (11), 22, 0) :: c_M_lay_14
def c_M_lay_8 : List eg_I := .inr (8, 0, 140, n_M_isSheet, 1, 12, 0, 0) :: c_M_lay_11
def c_M_lay_7 : List eg_I := .inl (7, 1, .iload 2, 0, 0) :: c_M_lay_8
def c_M_lay_4 : List eg_I := .inl (4, 3, .ifCond .eq (10), 14, 0) :: c_M_lay_7
def c_M_lay_1 : List eg_I := .inr (1, 0, 99, n_M_isPart, 1, 12, 0, 0) :: c_M_lay_4
def c_M_lay_0 : List eg_I := .inl (0, 1, .iload 1, 0, 0) :: c_M_lay_1
section
variable {rm : Room} {K : Nat → Nat → Nat → eg_Lo → List Value → List eg_E → Prop} {Q : Option Value → List eg_E → Prop} {kc ks : Nat} {loc : eg_Lo} {st : List Value} {h : List eg_E}
theorem s_M_lay_0 {x : Int32} {l0 : Option Value} {l : eg_Lo} : wps rm K Q c_M_lay_0 kc ks (l0 :: some (.int x) :: l) (st) h = wps rm K Q c_M_lay_1 kc ks (l0 :: some (.int x) :: l) (.int x :: st) h := rfl
theorem s_M_lay_1  {a1 : Value} : wps rm K Q c_M_lay_1 kc ks loc (a1 :: st) h = (st.length ≤ 4 ∧ eg_Cs n_M_isPart [a1] h (fun v h9 => wps rm K Q c_M_lay_4 kc ks loc (v.toList ++ st) h9)) := eg_c0_1
theorem s_M_lay_4 {x : Int32} : wps rm K Q c_M_lay_4 kc ks loc (.int x :: st) h = ((x = 0 → K 14 kc ks loc st h) ∧ (¬ x = 0 → wps rm K Q c_M_lay_7 kc ks loc (st) h)) := rfl
theorem s_M_lay_7 {x : Int32} {l0 l1 : Option Value} {l : eg_Lo} : wps rm K Q c_M_lay_7 kc ks (l0 :: l1 :: some (.int x) :: l) (st) h = wps rm K Q c_M_lay_8 kc ks (l0 :: l1 :: some (.int x) :: l) (.int x :: st) h := rfl
theorem s_M_lay_8  {a1 : Value} : wps rm K Q c_M_lay_8 kc ks loc (a1 :: st) h = (st.length ≤ 4 ∧ eg_Cs n_M_isSheet [a1] h (fun v h9 => wps rm K Q c_M_lay_11 kc ks loc (v.toList ++ st) h9)) := eg_c0_1
theorem s_M_lay_11 {x : Int32} : wps rm K Q c_M_lay_11 kc ks loc (.int x :: st) h = ((¬ x = 0 → K 22 kc ks loc st h) ∧ (x = 0 → wps rm K Q c_M_lay_14 kc ks loc (st) h)) := rfl
theorem s_M_lay_14 {x : Nat} {l : eg_Lo} : wps rm K Q c_M_lay_14 kc ks (some (.ref x) :: l) (st) h = wps rm K Q c_M_lay_15 kc ks (some (.ref x) :: l) (.ref x :: st) h := rfl
theorem s_M_lay_15  : wps rm K Q c_M_lay_15 kc ks loc (st) h = wps rm K Q c_M_lay_18 kc ks loc (.long (-1000000000000000001) :: st) h := rfl
theorem s_M_lay_18  {a1 : Value} {x : Nat} : wps rm K Q c_M_lay_18 kc ks loc (a1 :: .ref (x + 1) :: st) h = (eg_cls h x 12 ∧ st.length ≤ 4 ∧ eg_Cs n_M_finding (.ref (x + 1) :: [a1]) h (fun v h9 => wps rm K Q c_M_lay_21 kc ks loc (v.toList ++ st) h9)) := eg_c1_1
theorem s_M_lay_21 {x : Int64} : wps rm K Q c_M_lay_21 kc ks loc ([.long x]) h = (kc = rm.cells ∧ Q (some (.long x)) h) := rfl
theorem s_M_lay_22 {x : Nat} {l : eg_Lo} : wps rm K Q c_M_lay_22 kc ks (some (.ref x) :: l) (st) h = wps rm K Q c_M_lay_23 kc ks (some (.ref x) :: l) (.ref x :: st) h := rfl
theorem s_M_lay_23 {x : Nat} : wps rm K Q c_M_lay_23 kc ks loc (.ref (x + 1) :: st) h = eg_gf h x 12 22 (fun v => wps rm K Q c_M_lay_26 kc ks loc (v :: st) h) := rfl
theorem s_M_lay_26 {x : Int32} {l0 l1 : Option Value} {l : eg_Lo} : wps rm K Q c_M_lay_26 kc ks (l0 :: l1 :: some (.int x) :: l) (st) h = wps rm K Q c_M_lay_27 kc ks (l0 :: l1 :: some (.int x) :: l) (.int x :: st) h := rfl
theorem s_M_lay_27 {x : Nat} {i : Int32} : wps rm K Q c_M_lay_27 kc ks loc (.int i :: .ref (x + 1) :: st) h = eg_ia h x i (fun v => wps rm K Q c_M_lay_28 kc ks loc (.int v :: st) h) := rfl
theorem s_M_lay_28 {x : Int32} : wps rm K Q c_M_lay_28 kc ks loc (.int x :: st) h = ((¬ x = 0 → K 39 kc ks loc st h) ∧ (x = 0 → wps rm K Q c_M_lay_31 kc ks loc (st) h)) := rfl
theorem s_M_lay_31 {x : Nat} {l : eg_Lo} : wps rm K Q c_M_lay_31 kc ks (some (.ref x) :: l) (st) h = wps rm K Q c_M_lay_32 kc ks (some (.ref x) :: l) (.ref x :: st) h := rfl
theorem s_M_lay_32  : wps rm K Q c_M_lay_32 kc ks loc (st) h = wps rm K Q c_M_lay_35 kc ks loc (.long (-1000000000000000002) :: st) h := rfl
theorem s_M_lay_35  {a1 : Value} {x : Nat} : wps rm K Q c_M_lay_35 kc ks loc (a1 :: .ref (x + 1) :: st) h = (eg_cls h x 12 ∧ st.length ≤ 4 ∧ eg_Cs n_M_finding (.ref (x + 1) :: [a1]) h (fun v h9 => wps rm K Q c_M_lay_38 kc ks loc (v.toList ++ st) h9)) := eg_c1_1
theorem s_M_lay_38 {x : Int64} : wps rm K Q c_M_lay_38 kc ks loc ([.long x]) h = (kc = rm.cells ∧ Q (some (.long x)) h) := rfl
theorem s_M_lay_39 {x : Nat} {l : eg_Lo} : wps rm K Q c_M_lay_39 kc ks (some (.ref x) :: l) (st) h = wps rm K Q c_M_lay_40 kc ks (some (.ref x) :: l) (.ref x :: st) h := rfl
theorem s_M_lay_40 {x : Nat} : wps rm K Q c_M_lay_40 kc ks loc (.ref (x + 1) :: st) h = eg_gf h x 12 23 (fun v => wps rm K Q c_M_lay_43 kc ks loc (v :: st) h) := rfl
theorem s_M_lay_43 {x : Int32} {l0 l1 : Option Value} {l : eg_Lo} : wps rm K Q c_M_lay_43 kc ks (l0 :: l1 :: some (.int x) :: l) (st) h = wps rm K Q c_M_lay_44 kc ks (l0 :: l1 :: some (.int x) :: l) (.int x :: st) h := rfl
theorem s_M_lay_44 {x : Nat} {i : Int32} : wps rm K Q c_M_lay_44 kc ks loc (.int i :: .ref (x + 1) :: st) h = eg_ia h x i (fun v => wps rm K Q c_M_lay_45 kc ks loc (.int v :: st) h) := rfl
theorem s_M_lay_45  : wps rm K Q c_M_lay_45 kc ks loc (st) h = wps rm K Q c_M_lay_46 kc ks loc (.int (3) :: st) h := rfl
theorem s_M_lay_46 {x y : Int32} : wps rm K Q c_M_lay_46 kc ks loc (.int y :: .int x :: st) h = (¬ y = 0 ∧ wps rm K Q c_M_lay_47 kc ks loc (.int (x / y) :: st) h) := rfl
theorem s_M_lay_47 {x : Int32} : wps rm K Q c_M_lay_47 kc ks loc (.int x :: st) h = wps rm K Q c_M_lay_48 kc ks (eg_set1 loc 3 (.int x)) (st) h := rfl
theorem s_M_lay_48 {x : Nat} {l : eg_Lo} : wps rm K Q c_M_lay_48 kc ks (some (.ref x) :: l) (st) h = wps rm K Q c_M_lay_49 kc ks (some (.ref x) :: l) (.ref x :: st) h := rfl
theorem s_M_lay_49 {x : Nat} : wps rm K Q c_M_lay_49 kc ks loc (.ref (x + 1) :: st) h = eg_gf h x 12 0 (fun v => wps rm K Q c_M_lay_52 kc ks loc (v :: st) h) := rfl
theorem s_M_lay_52 {x : Int32} {l0 : Option Value} {l : eg_Lo} : wps rm K Q c_M_lay_52 kc ks (l0 :: some (.int x) :: l) (st) h = wps rm K Q c_M_lay_53 kc ks (l0 :: some (.int x) :: l) (.int x :: st) h := rfl
theorem s_M_lay_53 {x : Nat} {i : Int32} : wps rm K Q c_M_lay_53 kc ks loc (.int i :: .ref (x + 1) :: st) h = eg_ia h x i (fun v => wps rm K Q c_M_lay_54 kc ks loc (.int v :: st) h) := rfl
theorem s_M_lay_54 {x : Int32} {l0 l1 l2 : Option Value} {l : eg_Lo} : wps rm K Q c_M_lay_54 kc ks (l0 :: l1 :: l2 :: some (.int x) :: l) (st) h = wps rm K Q c_M_lay_55 kc ks (l0 :: l1 :: l2 :: some (.int x) :: l) (.int x :: st) h := rfl
theorem s_M_lay_55 {x y : Int32} : wps rm K Q c_M_lay_55 kc ks loc (.int y :: .int x :: st) h = wps rm K Q c_M_lay_56 kc ks loc (.int (x + y) :: st) h := rfl
theorem s_M_lay_56  : wps rm K Q c_M_lay_56 kc ks loc (st) h = wps rm K Q c_M_lay_58 kc ks loc (.int (16) :: st) h := rfl
theorem s_M_lay_58 {x y : Int32} : wps rm K Q c_M_lay_58 kc ks loc (.int y :: .int x :: st) h = ((x ≤ y → K 69 kc ks loc st h) ∧ (¬ x ≤ y → wps rm K Q c_M_lay_61 kc ks loc (st) h)) := rfl
theorem s_M_lay_61 {x : Nat} {l : eg_Lo} : wps rm K Q c_M_lay_61 kc ks (some (.ref x) :: l) (st) h = wps rm K Q c_M_lay_62 kc ks (some (.ref x) :: l) (.ref x :: st) h := rfl
theorem s_M_lay_62  : wps rm K Q c_M_lay_62 kc ks loc (st) h = wps rm K Q c_M_lay_65 kc ks loc (.long (-1000000000000000005) :: st) h := rfl
theorem s_M_lay_65  {a1 : Value} {x : Nat} : wps rm K Q c_M_lay_65 kc ks loc (a1 :: .ref (x + 1) :: st) h = (eg_cls h x 12 ∧ st.length ≤ 4 ∧ eg_Cs n_M_finding (.ref (x + 1) :: [a1]) h (fun v h9 => wps rm K Q c_M_lay_68 kc ks loc (v.toList ++ st) h9)) := eg_c1_1
theorem s_M_lay_68 {x : Int64} : wps rm K Q c_M_lay_68 kc ks loc ([.long x]) h = (kc = rm.cells ∧ Q (some (.long x)) h) := rfl
theorem s_M_lay_69  : wps rm K Q c_M_lay_69 kc ks loc (st) h = wps rm K Q c_M_lay_70 kc ks loc (.int (0) :: st) h := rfl
theorem s_M_lay_70 {x : Int32} : wps rm K Q c_M_lay_70 kc ks loc (.int x :: st) h = wps rm K Q c_M_lay_72 kc ks (eg_set1 loc 4 (.int x)) (st) h := rfl
theorem s_M_lay_72  : wps rm K Q c_M_lay_72 kc ks loc (st) h = wps rm K Q c_M_lay_73 kc ks loc (.int (0) :: st) h := rfl
theorem s_M_lay_73 {x : Int32} : wps rm K Q c_M_lay_73 kc ks loc (.int x :: st) h = K 75 kc ks (eg_set1 loc 5 (.int x)) (st) h := rfl
theorem s_M_lay_75 {x : Int32} {l0 l1 l2 l3 l4 : Option Value} {l : eg_Lo} : wps rm K Q c_M_lay_75 kc ks (l0 :: l1 :: l2 :: l3 :: l4 :: some (.int x) :: l) (st) h = wps rm K Q c_M_lay_77 kc ks (l0 :: l1 :: l2 :: l3 :: l4 :: some (.int x) :: l) (.int x :: st) h := rfl
theorem s_M_lay_77 {x : Int32} {l0 l1 l2 : Option Value} {l : eg_Lo} : wps rm K Q c_M_lay_77 kc ks (l0 :: l1 :: l2 :: some (.int x) :: l) (st) h = wps rm K Q c_M_lay_78 kc ks (l0 :: l1 :: l2 :: some (.int x) :: l) (.int x :: st) h := rfl
theorem s_M_lay_78 {x y : Int32} : wps rm K Q c_M_lay_78 kc ks loc (.int y :: .int x :: st) h = ((y ≤ x → K 179 kc ks loc st h) ∧ (¬ y ≤ x → wps rm K Q c_M_lay_81 kc ks loc (st) h)) := rfl
theorem s_M_lay_81 {x : Nat} {l : eg_Lo} : wps rm K Q c_M_lay_81 kc ks (some (.ref x) :: l) (st) h = wps rm K Q c_M_lay_82 kc ks (some (.ref x) :: l) (.ref x :: st) h := rfl
theorem s_M_lay_82 {x : Int32} {l0 l1 : Option Value} {l : eg_Lo} : wps rm K Q c_M_lay_82 kc ks (l0 :: l1 :: some (.int x) :: l) (st) h = wps rm K Q c_M_lay_83 kc ks (l0 :: l1 :: some (.int x) :: l) (.int x :: st) h := rfl
theorem s_M_lay_83  : wps rm K Q c_M_lay_83 kc ks loc (st) h = wps rm K Q c_M_lay_84 kc ks loc (.int (3) :: st) h := rfl
theorem s_M_lay_84 {x : Int32} {l0 l1 l2 l3 l4 : Option Value} {l : eg_Lo} : wps rm K Q c_M_lay_84 kc ks (l0 :: l1 :: l2 :: l3 :: l4 :: some (.int x) :: l) (st) h = wps rm K Q c_M_lay_86 kc ks (l0 :: l1 :: l2 :: l3 :: l4 :: some (.int x) :: l) (.int x :: st) h := rfl
theorem s_M_lay_86 {x y : Int32} : wps rm K Q c_M_lay_86 kc ks loc (.int y :: .int x :: st) h = wps rm K Q c_M_lay_87 kc ks loc (.int (x * y) :: st) h := rfl
theorem s_M_lay_87  {a1 : Value} {a2 : Value} {x : Nat} : wps rm K Q c_M_lay_87 kc ks loc (a2 :: a1 :: .ref (x + 1) :: st) h = (eg_cls h x 12 ∧ st.length ≤ 4 ∧ eg_Cs n_M_isGood (.ref (x + 1) :: [a1, a2]) h (fun v h9 => wps rm K Q c_M_lay_90 kc ks loc (v.toList ++ st) h9)) := eg_c1_2
theorem s_M_lay_90 {x : Int32} : wps rm K Q c_M_lay_90 kc ks loc (.int x :: st) h = ((x = 0 → K 164 kc ks loc st h) ∧ (¬ x = 0 → wps rm K Q c_M_lay_93 kc ks loc (st) h)) := rfl
theorem s_M_lay_93 {x : Nat} {l : eg_Lo} : wps rm K Q c_M_lay_93 kc ks (some (.ref x) :: l) (st) h = wps rm K Q c_M_lay_94 kc ks (some (.ref x) :: l) (.ref x :: st) h := rfl
theorem s_M_lay_94 {x : Int32} {l0 l1 : Option Value} {l : eg_Lo} : wps rm K Q c_M_lay_94 kc ks (l0 :: l1 :: some (.int x) :: l) (st) h = wps rm K Q c_M_lay_95 kc ks (l0 :: l1 :: some (.int x) :: l) (.int x :: st) h := rfl
theorem s_M_lay_95  : wps rm K Q c_M_lay_95 kc ks loc (st) h = wps rm K Q c_M_lay_96 kc ks loc (.int (3) :: st) h := rfl
theorem s_M_lay_96 {x : Int32} {l0 l1 l2 l3 l4 : Option Value} {l : eg_Lo} : wps rm K Q c_M_lay_96 kc ks (l0 :: l1 :: l2 :: l3 :: l4 :: some (.int x) :: l) (st) h = wps rm K Q c_M_lay_98 kc ks (l0 :: l1 :: l2 :: l3 :: l4 :: some (.int x) :: l) (.int x :: st) h := rfl
theorem s_M_lay_98 {x y : Int32} : wps rm K Q c_M_lay_98 kc ks loc (.int y :: .int x :: st) h = wps rm K Q c_M_lay_99 kc ks loc (.int (x * y) :: st) h := rfl
theorem s_M_lay_99  : wps rm K Q c_M_lay_99 kc ks loc (st) h = wps rm K Q c_M_lay_100 kc ks loc (.int (1) :: st) h := rfl
theorem s_M_lay_100 {x y : Int32} : wps rm K Q c_M_lay_100 kc ks loc (.int y :: .int x :: st) h = wps rm K Q c_M_lay_101 kc ks loc (.int (x + y) :: st) h := rfl
theorem s_M_lay_101  {a1 : Value} {a2 : Value} {x : Nat} : wps rm K Q c_M_lay_101 kc ks loc (a2 :: a1 :: .ref (x + 1) :: st) h = (eg_cls h x 12 ∧ st.length ≤ 4 ∧ eg_Cs n_M_isGood (.ref (x + 1) :: [a1, a2]) h (fun v h9 => wps rm K Q c_M_lay_104 kc ks loc (v.toList ++ st) h9)) := eg_c1_2
theorem s_M_lay_104 {x : Int32} : wps rm K Q c_M_lay_104 kc ks loc (.int x :: st) h = ((x = 0 → K 164 kc ks loc st h) ∧ (¬ x = 0 → wps rm K Q c_M_lay_107 kc ks loc (st) h)) := rfl
theorem s_M_lay_107 {x : Nat} {l : eg_Lo} : wps rm K Q c_M_lay_107 kc ks (some (.ref x) :: l) (st) h = wps rm K Q c_M_lay_108 kc ks (some (.ref x) :: l) (.ref x :: st) h := rfl
theorem s_M_lay_108 {x : Int32} {l0 l1 : Option Value} {l : eg_Lo} : wps rm K Q c_M_lay_108 kc ks (l0 :: l1 :: some (.int x) :: l) (st) h = wps rm K Q c_M_lay_109 kc ks (l0 :: l1 :: some (.int x) :: l) (.int x :: st) h := rfl
theorem s_M_lay_109  : wps rm K Q c_M_lay_109 kc ks loc (st) h = wps rm K Q c_M_lay_110 kc ks loc (.int (3) :: st) h := rfl
theorem s_M_lay_110 {x : Int32} {l0 l1 l2 l3 l4 : Option Value} {l : eg_Lo} : wps rm K Q c_M_lay_110 kc ks (l0 :: l1 :: l2 :: l3 :: l4 :: some (.int x) :: l) (st) h = wps rm K Q c_M_lay_112 kc ks (l0 :: l1 :: l2 :: l3 :: l4 :: some (.int x) :: l) (.int x :: st) h := rfl
theorem s_M_lay_112 {x y : Int32} : wps rm K Q c_M_lay_112 kc ks loc (.int y :: .int x :: st) h = wps rm K Q c_M_lay_113 kc ks loc (.int (x * y) :: st) h := rfl
theorem s_M_lay_113  : wps rm K Q c_M_lay_113 kc ks loc (st) h = wps rm K Q c_M_lay_114 kc ks loc (.int (2) :: st) h := rfl
theorem s_M_lay_114 {x y : Int32} : wps rm K Q c_M_lay_114 kc ks loc (.int y :: .int x :: st) h = wps rm K Q c_M_lay_115 kc ks loc (.int (x + y) :: st) h := rfl
theorem s_M_lay_115  {a1 : Value} {a2 : Value} {x : Nat} : wps rm K Q c_M_lay_115 kc ks loc (a2 :: a1 :: .ref (x + 1) :: st) h = (eg_cls h x 12 ∧ st.length ≤ 4 ∧ eg_Cs n_M_isGood (.ref (x + 1) :: [a1, a2]) h (fun v h9 => wps rm K Q c_M_lay_118 kc ks loc (v.toList ++ st) h9)) := eg_c1_2
theorem s_M_lay_118 {x : Int32} : wps rm K Q c_M_lay_118 kc ks loc (.int x :: st) h = ((x = 0 → K 164 kc ks loc st h) ∧ (¬ x = 0 → wps rm K Q c_M_lay_121 kc ks loc (st) h)) := rfl
theorem s_M_lay_121 {x : Nat} {l : eg_Lo} : wps rm K Q c_M_lay_121 kc ks (some (.ref x) :: l) (st) h = wps rm K Q c_M_lay_122 kc ks (some (.ref x) :: l) (.ref x :: st) h := rfl
theorem s_M_lay_122 {x : Int32} {l0 : Option Value} {l : eg_Lo} : wps rm K Q c_M_lay_122 kc ks (l0 :: some (.int x) :: l) (st) h = wps rm K Q c_M_lay_123 kc ks (l0 :: some (.int x) :: l) (.int x :: st) h := rfl
theorem s_M_lay_123 {x : Nat} {l : eg_Lo} : wps rm K Q c_M_lay_123 kc ks (some (.ref x) :: l) (st) h = wps rm K Q c_M_lay_124 kc ks (some (.ref x) :: l) (.ref x :: st) h := rfl
theorem s_M_lay_124 {x : Int32} {l0 l1 : Option Value} {l : eg_Lo} : wps rm K Q c_M_lay_124 kc ks (l0 :: l1 :: some (.int x) :: l) (st) h = wps rm K Q c_M_lay_125 kc ks (l0 :: l1 :: some (.int x) :: l) (.int x :: st) h := rfl
theorem s_M_lay_125  : wps rm K Q c_M_lay_125 kc ks loc (st) h = wps rm K Q c_M_lay_126 kc ks loc (.int (3) :: st) h := rfl
theorem s_M_lay_126 {x : Int32} {l0 l1 l2 l3 l4 : Option Value} {l : eg_Lo} : wps rm K Q c_M_lay_126 kc ks (l0 :: l1 :: l2 :: l3 :: l4 :: some (.int x) :: l) (st) h = wps rm K Q c_M_lay_128 kc ks (l0 :: l1 :: l2 :: l3 :: l4 :: some (.int x) :: l) (.int x :: st) h := rfl
theorem s_M_lay_128 {x y : Int32} : wps rm K Q c_M_lay_128 kc ks loc (.int y :: .int x :: st) h = wps rm K Q c_M_lay_129 kc ks loc (.int (x * y) :: st) h := rfl
theorem s_M_lay_129  {a1 : Value} {a2 : Value} {x : Nat} : wps rm K Q c_M_lay_129 kc ks loc (a2 :: a1 :: .ref (x + 1) :: st) h = (eg_cls h x 12 ∧ st.length ≤ 4 ∧ eg_Cs n_M_numberOf (.ref (x + 1) :: [a1, a2]) h (fun v h9 => wps rm K Q c_M_lay_132 kc ks loc (v.toList ++ st) h9)) := eg_c1_2
theorem s_M_lay_132 {x : Nat} {l : eg_Lo} : wps rm K Q c_M_lay_132 kc ks (some (.ref x) :: l) (st) h = wps rm K Q c_M_lay_133 kc ks (some (.ref x) :: l) (.ref x :: st) h := rfl
theorem s_M_lay_133 {x : Int32} {l0 l1 : Option Value} {l : eg_Lo} : wps rm K Q c_M_lay_133 kc ks (l0 :: l1 :: some (.int x) :: l) (st) h = wps rm K Q c_M_lay_134 kc ks (l0 :: l1 :: some (.int x) :: l) (.int x :: st) h := rfl
theorem s_M_lay_134  : wps rm K Q c_M_lay_134 kc ks loc (st) h = wps rm K Q c_M_lay_135 kc ks loc (.int (3) :: st) h := rfl
theorem s_M_lay_135 {x : Int32} {l0 l1 l2 l3 l4 : Option Value} {l : eg_Lo} : wps rm K Q c_M_lay_135 kc ks (l0 :: l1 :: l2 :: l3 :: l4 :: some (.int x) :: l) (st) h = wps rm K Q c_M_lay_137 kc ks (l0 :: l1 :: l2 :: l3 :: l4 :: some (.int x) :: l) (.int x :: st) h := rfl
theorem s_M_lay_137 {x y : Int32} : wps rm K Q c_M_lay_137 kc ks loc (.int y :: .int x :: st) h = wps rm K Q c_M_lay_138 kc ks loc (.int (x * y) :: st) h := rfl
theorem s_M_lay_138  : wps rm K Q c_M_lay_138 kc ks loc (st) h = wps rm K Q c_M_lay_139 kc ks loc (.int (1) :: st) h := rfl
theorem s_M_lay_139 {x y : Int32} : wps rm K Q c_M_lay_139 kc ks loc (.int y :: .int x :: st) h = wps rm K Q c_M_lay_140 kc ks loc (.int (x + y) :: st) h := rfl
theorem s_M_lay_140  {a1 : Value} {a2 : Value} {x : Nat} : wps rm K Q c_M_lay_140 kc ks loc (a2 :: a1 :: .ref (x + 1) :: st) h = (eg_cls h x 12 ∧ st.length ≤ 4 ∧ eg_Cs n_M_numberOf (.ref (x + 1) :: [a1, a2]) h (fun v h9 => wps rm K Q c_M_lay_143 kc ks loc (v.toList ++ st) h9)) := eg_c1_2
theorem s_M_lay_143 {x : Nat} {l : eg_Lo} : wps rm K Q c_M_lay_143 kc ks (some (.ref x) :: l) (st) h = wps rm K Q c_M_lay_144 kc ks (some (.ref x) :: l) (.ref x :: st) h := rfl
theorem s_M_lay_144 {x : Int32} {l0 l1 : Option Value} {l : eg_Lo} : wps rm K Q c_M_lay_144 kc ks (l0 :: l1 :: some (.int x) :: l) (st) h = wps rm K Q c_M_lay_145 kc ks (l0 :: l1 :: some (.int x) :: l) (.int x :: st) h := rfl
theorem s_M_lay_145  : wps rm K Q c_M_lay_145 kc ks loc (st) h = wps rm K Q c_M_lay_146 kc ks loc (.int (3) :: st) h := rfl
theorem s_M_lay_146 {x : Int32} {l0 l1 l2 l3 l4 : Option Value} {l : eg_Lo} : wps rm K Q c_M_lay_146 kc ks (l0 :: l1 :: l2 :: l3 :: l4 :: some (.int x) :: l) (st) h = wps rm K Q c_M_lay_148 kc ks (l0 :: l1 :: l2 :: l3 :: l4 :: some (.int x) :: l) (.int x :: st) h := rfl
theorem s_M_lay_148 {x y : Int32} : wps rm K Q c_M_lay_148 kc ks loc (.int y :: .int x :: st) h = wps rm K Q c_M_lay_149 kc ks loc (.int (x * y) :: st) h := rfl
theorem s_M_lay_149  : wps rm K Q c_M_lay_149 kc ks loc (st) h = wps rm K Q c_M_lay_150 kc ks loc (.int (2) :: st) h := rfl
theorem s_M_lay_150 {x y : Int32} : wps rm K Q c_M_lay_150 kc ks loc (.int y :: .int x :: st) h = wps rm K Q c_M_lay_151 kc ks loc (.int (x + y) :: st) h := rfl
theorem s_M_lay_151  {a1 : Value} {a2 : Value} {x : Nat} : wps rm K Q c_M_lay_151 kc ks loc (a2 :: a1 :: .ref (x + 1) :: st) h = (eg_cls h x 12 ∧ st.length ≤ 4 ∧ eg_Cs n_M_numberOf (.ref (x + 1) :: [a1, a2]) h (fun v h9 => wps rm K Q c_M_lay_154 kc ks loc (v.toList ++ st) h9)) := eg_c1_2
theorem s_M_lay_154  : wps rm K Q c_M_lay_154 kc ks loc (st) h = wps rm K Q c_M_lay_155 kc ks loc (.int (0) :: st) h := rfl
theorem s_M_lay_155  {a1 : Value} {a2 : Value} {a3 : Value} {a4 : Value} {a5 : Value} {x : Nat} : wps rm K Q c_M_lay_155 kc ks loc (a5 :: a4 :: a3 :: a2 :: a1 :: .ref (x + 1) :: st) h = (eg_cls h x 12 ∧ st.length ≤ 4 ∧ eg_Cs n_M_add (.ref (x + 1) :: [a1, a2, a3, a4, a5]) h (fun v h9 => wps rm K Q c_M_lay_158 kc ks loc (v.toList ++ st) h9)) := eg_c1_5
theorem s_M_lay_158 {x : Int32} {l0 l1 l2 l3 : Option Value} {l9 : eg_Lo} : wps rm K Q c_M_lay_158 kc ks (l0 :: l1 :: l2 :: l3 :: some (.int x) :: l9) (st) h = wps rm K Q c_M_lay_161 kc ks (eg_set1 (l0 :: l1 :: l2 :: l3 :: some (.int x) :: l9) 4 (.int (x + (1)))) (st) h := rfl
theorem s_M_lay_161  : wps rm K Q c_M_lay_161 kc ks loc (st) h = K 173 kc ks loc st h := rfl
theorem s_M_lay_164 {x : Nat} {l : eg_Lo} : wps rm K Q c_M_lay_164 kc ks (some (.ref x) :: l) (st) h = wps rm K Q c_M_lay_165 kc ks (some (.ref x) :: l) (.ref x :: st) h := rfl
theorem s_M_lay_165 {x : Int32} {l0 : Option Value} {l : eg_Lo} : wps rm K Q c_M_lay_165 kc ks (l0 :: some (.int x) :: l) (st) h = wps rm K Q c_M_lay_166 kc ks (l0 :: some (.int x) :: l) (.int x :: st) h := rfl
theorem s_M_lay_166  : wps rm K Q c_M_lay_166 kc ks loc (st) h = wps rm K Q c_M_lay_167 kc ks loc (.int (0) :: st) h := rfl
theorem s_M_lay_167  : wps rm K Q c_M_lay_167 kc ks loc (st) h = wps rm K Q c_M_lay_168 kc ks loc (.int (0) :: st) h := rfl
theorem s_M_lay_168  : wps rm K Q c_M_lay_168 kc ks loc (st) h = wps rm K Q c_M_lay_169 kc ks loc (.int (0) :: st) h := rfl
theorem s_M_lay_169  : wps rm K Q c_M_lay_169 kc ks loc (st) h = wps rm K Q c_M_lay_170 kc ks loc (.int (1) :: st) h := rfl
theorem s_M_lay_170  {a1 : Value} {a2 : Value} {a3 : Value} {a4 : Value} {a5 : Value} {x : Nat} : wps rm K Q c_M_lay_170 kc ks loc (a5 :: a4 :: a3 :: a2 :: a1 :: .ref (x + 1) :: st) h = (eg_cls h x 12 ∧ st.length ≤ 4 ∧ eg_Cs n_M_add (.ref (x + 1) :: [a1, a2, a3, a4, a5]) h (fun v h9 => wps rm K Q c_M_lay_173 kc ks loc (v.toList ++ st) h9)) := eg_c1_5
theorem s_M_lay_173 {x : Int32} {l0 l1 l2 l3 l4 : Option Value} {l9 : eg_Lo} : wps rm K Q c_M_lay_173 kc ks (l0 :: l1 :: l2 :: l3 :: l4 :: some (.int x) :: l9) (st) h = wps rm K Q c_M_lay_176 kc ks (eg_set1 (l0 :: l1 :: l2 :: l3 :: l4 :: some (.int x) :: l9) 5 (.int (x + (1)))) (st) h := rfl
theorem s_M_lay_176  : wps rm K Q c_M_lay_176 kc ks loc (st) h = K 75 kc ks loc st h := rfl
theorem s_M_lay_179 {x : Int32} {l0 l1 l2 l3 : Option Value} {l : eg_Lo} : wps rm K Q c_M_lay_179 kc ks (l0 :: l1 :: l2 :: l3 :: some (.int x) :: l) (st) h = wps rm K Q c_M_lay_181 kc ks (l0 :: l1 :: l2 :: l3 :: some (.int x) :: l) (.int x :: st) h := rfl
theorem s_M_lay_181 {x : Int32} : wps rm K Q c_M_lay_181 kc ks loc (.int x :: st) h = wps rm K Q c_M_lay_182 kc ks loc (.long (x.toInt64) :: st) h := rfl
theorem s_M_lay_182 {x : Int64} : wps rm K Q c_M_lay_182 kc ks loc ([.long x]) h = (kc = rm.cells ∧ Q (some (.long x)) h) := rfl
def T_M_lay : List (Nat × List eg_I) := [(14, c_M_lay_14), (22, c_M_lay_22), (39, c_M_lay_39), (69, c_M_lay_69), (164, c_M_lay_164), (173, c_M_lay_173), (179, c_M_lay_179)]
theorem j_M_lay_14 {R : Nat → Nat → Nat → eg_Lo → List Value → List eg_E → Prop} {f pc0 : Nat} : eg_run rm R Q T_M_lay (f + 1) 14 kc ks loc st h = wps rm (eg_run rm R Q T_M_lay f) Q c_M_lay_14 kc ks loc st h := rfl
theorem j_M_lay_22 {R : Nat → Nat → Nat → eg_Lo → List Value → List eg_E → Prop} {f pc0 : Nat} : eg_run rm R Q T_M_lay (f + 1) 22 kc ks loc st h = wps rm (eg_run rm R Q T_M_lay f) Q c_M_lay_22 kc ks loc st h := rfl
theorem j_M_lay_39 {R : Nat → Nat → Nat → eg_Lo → List Value → List eg_E → Prop} {f pc0 : Nat} : eg_run rm R Q T_M_lay (f + 1) 39 kc ks loc st h = wps rm (eg_run rm R Q T_M_lay f) Q c_M_lay_39 kc ks loc st h := rfl
theorem j_M_lay_69 {R : Nat → Nat → Nat → eg_Lo → List Value → List eg_E → Prop} {f pc0 : Nat} : eg_run rm R Q T_M_lay (f + 1) 69 kc ks loc st h = wps rm (eg_run rm R Q T_M_lay f) Q c_M_lay_69 kc ks loc st h := rfl
theorem j_M_lay_164 {R : Nat → Nat → Nat → eg_Lo → List Value → List eg_E → Prop} {f pc0 : Nat} : eg_run rm R Q T_M_lay (f + 1) 164 kc ks loc st h = wps rm (eg_run rm R Q T_M_lay f) Q c_M_lay_164 kc ks loc st h := rfl
theorem j_M_lay_173 {R : Nat → Nat → Nat → eg_Lo → List Value → List eg_E → Prop} {f pc0 : Nat} : eg_run rm R Q T_M_lay (f + 1) 173 kc ks loc st h = wps rm (eg_run rm R Q T_M_lay f) Q c_M_lay_173 kc ks loc st h := rfl
theorem j_M_lay_179 {R : Nat → Nat → Nat → eg_Lo → List Value → List eg_E → Prop} {f pc0 : Nat} : eg_run rm R Q T_M_lay (f + 1) 179 kc ks loc st h = wps rm (eg_run rm R Q T_M_lay f) Q c_M_lay_179 kc ks loc st h := rfl
theorem j_M_lay_75 {R : Nat → Nat → Nat → eg_Lo → List Value → List eg_E → Prop} {f pc0 : Nat} : eg_run rm R Q T_M_lay (f + 1) 75 kc ks loc st h = R 75 kc ks loc st h := rfl
end
theorem q_M_lay : (T_M_lay.all fun q => eg_seq m_M_lay q.1 q.2) = true := by decide +kernel
theorem b_M_lay {as : List Value} {h : List eg_E} {Q : Option Value → List eg_E → Prop} (hf : (eg_fl as).length ≤ 6) (hw : wps (eg_rm m_M_lay) (eg_run (eg_rm m_M_lay) (eg_R m_M_lay Q (h.length + 0)) Q T_M_lay 9) Q c_M_lay_0 0 0 (eg_entry 6 as) [] h) : eg_Runs n_M_lay as h Q := eg_begin (d := m_M_lay) rfl (by decide) (by decide +kernel) q_M_lay hf hw
theorem p_M_lay_75 {Q : Option Value → List eg_E → Prop} {n0 kc ks : Nat} {loc : eg_Lo} {st : List Value} {h : List eg_E} (hw : wps (eg_rm m_M_lay) (eg_run (eg_rm m_M_lay) (eg_R m_M_lay Q n0) Q T_M_lay 9) Q c_M_lay_75 kc ks loc st h) : eg_R m_M_lay Q n0 75 kc ks loc st h := eg_go (by decide +kernel) q_M_lay hw
/-! ===== M_isLess ===== -/
def c_M_isLess_112 : List eg_I := .inl (112, 3, .goto (-98), 14, 0) :: []
def c_M_isLess_110 : List eg_I := .inl (110, 2, .lstore 14, 0, 0) :: c_M_isLess_112
def c_M_isLess_108 : List eg_I := .inl (108, 2, .lload 16, 0, 0) :: c_M_isLess_110
def c_M_isLess_106 : List eg_I := .inl (106, 2, .lstore 10, 0, 0) :: c_M_isLess_108
def c_M_isLess_104 : List eg_I := .inl (104, 2, .lload 18, 0, 0) :: c_M_isLess_106
def c_M_isLess_102 : List eg_I := .inl (102, 2, .lstore 12, 0, 0) :: c_M_isLess_104
def c_M_isLess_100 : List eg_I := .inl (100, 2, .lload 10, 0, 0) :: c_M_isLess_102
def c_M_isLess_98 : List eg_I := .inl (98, 2, .lstore 8, 0, 0) :: c_M_isLess_100
def c_M_isLess_96 : List eg_I := .inl (96, 2, .lload 14, 0, 0) :: c_M_isLess_98
def c_M_isLess_95 : List eg_I := .inl (95, 1, .ireturn, 0, 1) :: []
def c_M_isLess_94 : List eg_I := .inl (94, 1, .iconst (0), 0, 0) :: c_M_isLess_95
def c_M_isLess_91 : List eg_I := .inl (91, 3, .goto (4), 95, 0) :: []
def c_M_isLess_90 : List eg_I := .inl (90, 1, .iconst (1), 0, 0) :: c_M_isLess_91
def c_M_isLess_87 : List eg_I := .inl (87, 3, .ifCond .le (7), 94, 0) :: c_M_isLess_90
def c_M_isLess_86 : List eg_I := .inl (86, 1, .lcmp, 0, 0) :: c_M_isLess_87
def c_M_isLess_85 : List eg_I := .inl (85, 1, .sipush (0), 0, 0) :: c_M_isLess_86
def c_M_isLess_83 : List eg_I := .inl (83, 2, .lload 18, 0, 0) :: c_M_isLess_85
def c_M_isLess_80 : List eg_I := .inl (80, 3, .ifCond .ne (14), 94, 0) :: c_M_isLess_83
def c_M_isLess_79 : List eg_I := .inl (79, 1, .lcmp, 0, 0) :: c_M_isLess_80
def c_M_isLess_78 : List eg_I := .inl (78, 1, .sipush (0), 0, 0) :: c_M_isLess_79
def c_M_isLess_76 : List eg_I := .inl (76, 2, .lload 16, 0, 0) :: c_M_isLess_78
def c_M_isLess_73 : List eg_I := .inl (73, 3, .ifCond .ne (23), 96, 0) :: c_M_isLess_76
def c_M_isLess_72 : List eg_I := .inl (72, 1, .lcmp, 0, 0) :: c_M_isLess_73
def c_M_isLess_71 : List eg_I := .inl (71, 1, .sipush (0), 0, 0) :: c_M_isLess_72
def c_M_isLess_69 : List eg_I := .inl (69, 2, .lload 18, 0, 0) :: c_M_isLess_71
def c_M_isLess_66 : List eg_I := .inl (66, 3, .ifCond .eq (10), 76, 0) :: c_M_isLess_69
def c_M_isLess_65 : List eg_I := .inl (65, 1, .lcmp, 0, 0) :: c_M_isLess_66
def c_M_isLess_64 : List eg_I := .inl (64, 1, .sipush (0), 0, 0) :: c_M_isLess_65
def c_M_isLess_62 : List eg_I := .inl (62, 2, .lload 16, 0, 0) :: c_M_isLess_64
def c_M_isLess_60 : List eg_I := .inl (60, 2, .lstore 18, 0, 0) :: c_M_isLess_62
def c_M_isLess_59 : List eg_I := .inl (59, 1, .lrem, 0, 0) :: c_M_isLess_60
def c_M_isLess_57 : List eg_I := .inl (57, 2, .lload 14, 0, 0) :: c_M_isLess_59
def c_M_isLess_55 : List eg_I := .inl (55, 2, .lload 12, 0, 0) :: c_M_isLess_57
def c_M_isLess_53 : List eg_I := .inl (53, 2, .lstore 16, 0, 0) :: c_M_isLess_55
def c_M_isLess_52 : List eg_I := .inl (52, 1, .lrem, 0, 0) :: c_M_isLess_53
def c_M_isLess_50 : List eg_I := .inl (50, 2, .lload 10, 0, 0) :: c_M_isLess_52
def c_M_isLess_48 : List eg_I := .inl (48, 2, .lload 8, 0, 0) :: c_M_isLess_50
def c_M_isLess_47 : List eg_I := .inl (47, 1, .ireturn, 0, 1) :: []
def c_M_isLess_46 : List eg_I := .inl (46, 1, .iconst (0), 0, 0) :: c_M_isLess_47
def c_M_isLess_43 : List eg_I := .inl (43, 3, .goto (4), 47, 0) :: []
def c_M_isLess_42 : List eg_I := .inl (42, 1, .iconst (1), 0, 0) :: c_M_isLess_43
def c_M_isLess_39 : List eg_I := .inl (39, 3, .ifCond .ge (7), 46, 0) :: c_M_isLess_42
def c_M_isLess_38 : List eg_I := .inl (38, 1, .lcmp, 0, 0) :: c_M_isLess_39
def c_M_isLess_37 : List eg_I := .inl (37, 1, .ldiv, 0, 0) :: c_M_isLess_38
def c_M_isLess_35 : List eg_I := .inl (35, 2, .lload 14, 0, 0) :: c_M_isLess_37
def c_M_isLess_33 : List eg_I := .inl (33, 2, .lload 12, 0, 0) :: c_M_isLess_35
def c_M_isLess_32 : List eg_I := .inl (32, 1, .ldiv, 0, 0) :: c_M_isLess_33
def c_M_isLess_30 : List eg_I := .inl (30, 2, .lload 10, 0, 0) :: c_M_isLess_32
def c_M_isLess_28 : List eg_I := .inl (28, 2, .lload 8, 0, 0) :: c_M_isLess_30
def c_M_isLess_25 : List eg_I := .inl (25, 3, .ifCond .eq (23), 48, 0) :: c_M_isLess_28
def c_M_isLess_24 : List eg_I := .inl (24, 1, .lcmp, 0, 0) :: c_M_isLess_25
def c_M_isLess_23 : List eg_I := .inl (23, 1, .ldiv, 0, 0) :: c_M_isLess_24
def c_M_isLess_21 : List eg_I := .inl (21, 2, .lload 14, 0, 0) :: c_M_isLess_23
def c_M_isLess_19 : List eg_I := .inl (19, 2, .lload 12, 0, 0) :: c_M_isLess_21
def c_M_isLess_18 : List eg_I := .inl (18, 1, .ldiv, 0, 0) :: c_M_isLess_19
def c_M_isLess_16 : List eg_I := .inl (16, 2, .lload 10, 0, 0) :: c_M_isLess_18
def c_M_isLess_14 : List eg_I := .inl (14, 2, .lload 8, 0, 0) :: c_M_isLess_16
def c_M_isLess_12 : List eg_I := .inl (12, 2, .lstore 14, 0, 0) :: [.inl (14, 0, .nop, 0, 0)]
def c_M_isLess_10 : List eg_I := .inl (10, 2, .lload 6, 0, 0) :: c_M_isLess_12
def c_M_isLess_8 : List eg_I := .inl (8, 2, .lstore 12, 0, 0) :: c_M_isLess_10
def c_M_isLess_6 : List eg_I := .inl (6, 2, .lload 4, 0, 0) :: c_M_isLess_8
def c_M_isLess_4 : List eg_I := .inl (4, 2, .lstore 10, 0, 0) :: c_M_isLess_6
def c_M_isLess_3 : List eg_I := .inl (3, 1, .lload 2, 0, 0) :: c_M_isLess_4
def c_M_isLess_1 : List eg_I := .inl (1, 2, .lstore 8, 0, 0) :: c_M_isLess_3
def c_M_isLess_0 : List eg_I := .inl (0, 1, .lload 0, 0, 0) :: c_M_isLess_1
section
variable {rm : Room} {K : Nat → Nat → Nat → eg_Lo → List Value → List eg_E → Prop} {Q : Option Value → List eg_E → Prop} {kc ks : Nat} {loc : eg_Lo} {st : List Value} {h : List eg_E}
theorem s_M_isLess_0 {x : Int64} {l : eg_Lo} : wps rm K Q c_M_isLess_0 kc ks (some (.long x) :: l) (st) h = wps rm K Q c_M_isLess_1 kc ks (some (.long x) :: l) (.long x :: st) h := rfl
theorem s_M_isLess_1 {x : Int64} : wps rm K Q c_M_isLess_1 kc ks loc (.long x :: st) h = wps rm K Q c_M_isLess_3 kc ks (eg_set2 loc 8 (.long x)) (st) h := rfl
theorem s_M_isLess_3 {x : Int64} {l0 l1 : Option Value} {l : eg_Lo} : wps rm K Q c_M_isLess_3 kc ks (l0 :: l1 :: some (.long x) :: l) (st) h = wps rm K Q c_M_isLess_4 kc ks (l0 :: l1 :: some (.long x) :: l) (.long x :: st) h := rfl
theorem s_M_isLess_4 {x : Int64} : wps rm K Q c_M_isLess_4 kc ks loc (.long x :: st) h = wps rm K Q c_M_isLess_6 kc ks (eg_set2 loc 10 (.long x)) (st) h := rfl
theorem s_M_isLess_6 {x : Int64} {l0 l1 l2 l3 : Option Value} {l : eg_Lo} : wps rm K Q c_M_isLess_6 kc ks (l0 :: l1 :: l2 :: l3 :: some (.long x) :: l) (st) h = wps rm K Q c_M_isLess_8 kc ks (l0 :: l1 :: l2 :: l3 :: some (.long x) :: l) (.long x :: st) h := rfl
theorem s_M_isLess_8 {x : Int64} : wps rm K Q c_M_isLess_8 kc ks loc (.long x :: st) h = wps rm K Q c_M_isLess_10 kc ks (eg_set2 loc 12 (.long x)) (st) h := rfl
theorem s_M_isLess_10 {x : Int64} {l0 l1 l2 l3 l4 l5 : Option Value} {l : eg_Lo} : wps rm K Q c_M_isLess_10 kc ks (l0 :: l1 :: l2 :: l3 :: l4 :: l5 :: some (.long x) :: l) (st) h = wps rm K Q c_M_isLess_12 kc ks (l0 :: l1 :: l2 :: l3 :: l4 :: l5 :: some (.long x) :: l) (.long x :: st) h := rfl
theorem s_M_isLess_12 {x : Int64} : wps rm K Q c_M_isLess_12 kc ks loc (.long x :: st) h = K 14 kc ks (eg_set2 loc 14 (.long x)) (st) h := rfl
theorem s_M_isLess_14 {x : Int64} {l0 l1 l2 l3 l4 l5 l6 l7 : Option Value} {l : eg_Lo} : wps rm K Q c_M_isLess_14 kc ks (l0 :: l1 :: l2 :: l3 :: l4 :: l5 :: l6 :: l7 :: some (.long x) :: l) (st) h = wps rm K Q c_M_isLess_16 kc ks (l0 :: l1 :: l2 :: l3 :: l4 :: l5 :: l6 :: l7 :: some (.long x) :: l) (.long x :: st) h := rfl
theorem s_M_isLess_16 {x : Int64} {l0 l1 l2 l3 l4 l5 l6 l7 l8 l9 : Option Value} {l : eg_Lo} : wps rm K Q c_M_isLess_16 kc ks (l0 :: l1 :: l2 :: l3 :: l4 :: l5 :: l6 :: l7 :: l8 :: l9 :: some (.long x) :: l) (st) h = wps rm K Q c_M_isLess_18 kc ks (l0 :: l1 :: l2 :: l3 :: l4 :: l5 :: l6 :: l7 :: l8 :: l9 :: some (.long x) :: l) (.long x :: st) h := rfl
theorem s_M_isLess_18 {x y : Int64} : wps rm K Q c_M_isLess_18 kc ks loc (.long y :: .long x :: st) h = (¬ y = 0 ∧ wps rm K Q c_M_isLess_19 kc ks loc (.long (x / y) :: st) h) := rfl
theorem s_M_isLess_19 {x : Int64} {l0 l1 l2 l3 l4 l5 l6 l7 l8 l9 l10 l11 : Option Value} {l : eg_Lo} : wps rm K Q c_M_isLess_19 kc ks (l0 :: l1 :: l2 :: l3 :: l4 :: l5 :: l6 :: l7 :: l8 :: l9 :: l10 :: l11 :: some (.long x) :: l) (st) h = wps rm K Q c_M_isLess_21 kc ks (l0 :: l1 :: l2 :: l3 :: l4 :: l5 :: l6 :: l7 :: l8 :: l9 :: l10 :: l11 :: some (.long x) :: l) (.long x :: st) h := rfl
theorem s_M_isLess_21 {x : Int64} {l0 l1 l2 l3 l4 l5 l6 l7 l8 l9 l10 l11 l12 l13 : Option Value} {l : eg_Lo} : wps rm K Q c_M_isLess_21 kc ks (l0 :: l1 :: l2 :: l3 :: l4 :: l5 :: l6 :: l7 :: l8 :: l9 :: l10 :: l11 :: l12 :: l13 :: some (.long x) :: l) (st) h = wps rm K Q c_M_isLess_23 kc ks (l0 :: l1 :: l2 :: l3 :: l4 :: l5 :: l6 :: l7 :: l8 :: l9 :: l10 :: l11 :: l12 :: l13 :: some (.long x) :: l) (.long x :: st) h := rfl
theorem s_M_isLess_23 {x y : Int64} : wps rm K Q c_M_isLess_23 kc ks loc (.long y :: .long x :: st) h = (¬ y = 0 ∧ wps rm K Q c_M_isLess_24 kc ks loc (.long (x / y) :: st) h) := rfl
theorem s_M_isLess_24 {x y : Int64} : wps rm K Q c_M_isLess_24 kc ks loc (.long y :: .long x :: st) h = wps rm K Q c_M_isLess_25 kc ks loc (.int (lg_cmp x y) :: st) h := rfl
theorem s_M_isLess_25 {x : Int32} : wps rm K Q c_M_isLess_25 kc ks loc (.int x :: st) h = ((x = 0 → K 48 kc ks loc st h) ∧ (¬ x = 0 → wps rm K Q c_M_isLess_28 kc ks loc (st) h)) := rfl
theorem s_M_isLess_28 {x : Int64} {l0 l1 l2 l3 l4 l5 l6 l7 : Option Value} {l : eg_Lo} : wps rm K Q c_M_isLess_28 kc ks (l0 :: l1 :: l2 :: l3 :: l4 :: l5 :: l6 :: l7 :: some (.long x) :: l) (st) h = wps rm K Q c_M_isLess_30 kc ks (l0 :: l1 :: l2 :: l3 :: l4 :: l5 :: l6 :: l7 :: some (.long x) :: l) (.long x :: st) h := rfl
theorem s_M_isLess_30 {x : Int64} {l0 l1 l2 l3 l4 l5 l6 l7 l8 l9 : Option Value} {l : eg_Lo} : wps rm K Q c_M_isLess_30 kc ks (l0 :: l1 :: l2 :: l3 :: l4 :: l5 :: l6 :: l7 :: l8 :: l9 :: some (.long x) :: l) (st) h = wps rm K Q c_M_isLess_32 kc ks (l0 :: l1 :: l2 :: l3 :: l4 :: l5 :: l6 :: l7 :: l8 :: l9 :: some (.long x) :: l) (.long x :: st) h := rfl
theorem s_M_isLess_32 {x y : Int64} : wps rm K Q c_M_isLess_32 kc ks loc (.long y :: .long x :: st) h = (¬ y = 0 ∧ wps rm K Q c_M_isLess_33 kc ks loc (.long (x / y) :: st) h) := rfl
theorem s_M_isLess_33 {x : Int64} {l0 l1 l2 l3 l4 l5 l6 l7 l8 l9 l10 l11 : Option Value} {l : eg_Lo} : wps rm K Q c_M_isLess_33 kc ks (l0 :: l1 :: l2 :: l3 :: l4 :: l5 :: l6 :: l7 :: l8 :: l9 :: l10 :: l11 :: some (.long x) :: l) (st) h = wps rm K Q c_M_isLess_35 kc ks (l0 :: l1 :: l2 :: l3 :: l4 :: l5 :: l6 :: l7 :: l8 :: l9 :: l10 :: l11 :: some (.long x) :: l) (.long x :: st) h := rfl
theorem s_M_isLess_35 {x : Int64} {l0 l1 l2 l3 l4 l5 l6 l7 l8 l9 l10 l11 l12 l13 : Option Value} {l : eg_Lo} : wps rm K Q c_M_isLess_35 kc ks (l0 :: l1 :: l2 :: l3 :: l4 :: l5 :: l6 :: l7 :: l8 :: l9 :: l10 :: l11 :: l12 :: l13 :: some (.long x) :: l) (st) h = wps rm K Q c_M_isLess_37 kc ks (l0 :: l1 :: l2 :: l3 :: l4 :: l5 :: l6 :: l7 :: l8 :: l9 :: l10 :: l11 :: l12 :: l13 :: some (.long x) :: l) (.long x :: st) h := rfl
theorem s_M_isLess_37 {x y : Int64} : wps rm K Q c_M_isLess_37 kc ks loc (.long y :: .long x :: st) h = (¬ y = 0 ∧ wps rm K Q c_M_isLess_38 kc ks loc (.long (x / y) :: st) h) := rfl
theorem s_M_isLess_38 {x y : Int64} : wps rm K Q c_M_isLess_38 kc ks loc (.long y :: .long x :: st) h = wps rm K Q c_M_isLess_39 kc ks loc (.int (lg_cmp x y) :: st) h := rfl
theorem s_M_isLess_39 {x : Int32} : wps rm K Q c_M_isLess_39 kc ks loc (.int x :: st) h = ((0 ≤ x → K 46 kc ks loc st h) ∧ (¬ 0 ≤ x → wps rm K Q c_M_isLess_42 kc ks loc (st) h)) := rfl
theorem s_M_isLess_42  : wps rm K Q c_M_isLess_42 kc ks loc (st) h = wps rm K Q c_M_isLess_43 kc ks loc (.int (1) :: st) h := rfl
theorem s_M_isLess_43  : wps rm K Q c_M_isLess_43 kc ks loc (st) h = K 47 kc ks loc st h := rfl
theorem s_M_isLess_46  : wps rm K Q c_M_isLess_46 kc ks loc (st) h = wps rm K Q c_M_isLess_47 kc ks loc (.int (0) :: st) h := rfl
theorem s_M_isLess_47 {x : Int32} : wps rm K Q c_M_isLess_47 kc ks loc ([.int x]) h = (kc = rm.cells ∧ ((1 : Nat) = 1 → x = 0 ∨ x = 1) ∧ Q (some (.int x)) h) := rfl
theorem s_M_isLess_48 {x : Int64} {l0 l1 l2 l3 l4 l5 l6 l7 : Option Value} {l : eg_Lo} : wps rm K Q c_M_isLess_48 kc ks (l0 :: l1 :: l2 :: l3 :: l4 :: l5 :: l6 :: l7 :: some (.long x) :: l) (st) h = wps rm K Q c_M_isLess_50 kc ks (l0 :: l1 :: l2 :: l3 :: l4 :: l5 :: l6 :: l7 :: some (.long x) :: l) (.long x :: st) h := rfl
theorem s_M_isLess_50 {x : Int64} {l0 l1 l2 l3 l4 l5 l6 l7 l8 l9 : Option Value} {l : eg_Lo} : wps rm K Q c_M_isLess_50 kc ks (l0 :: l1 :: l2 :: l3 :: l4 :: l5 :: l6 :: l7 :: l8 :: l9 :: some (.long x) :: l) (st) h = wps rm K Q c_M_isLess_52 kc ks (l0 :: l1 :: l2 :: l3 :: l4 :: l5 :: l6 :: l7 :: l8 :: l9 :: some (.long x) :: l) (.long x :: st) h := rfl
theorem s_M_isLess_52 {x y : Int64} : wps rm K Q c_M_isLess_52 kc ks loc (.long y :: .long x :: st) h = (¬ y = 0 ∧ wps rm K Q c_M_isLess_53 kc ks loc (.long (x - x / y * y) :: st) h) := rfl
theorem s_M_isLess_53 {x : Int64} : wps rm K Q c_M_isLess_53 kc ks loc (.long x :: st) h = wps rm K Q c_M_isLess_55 kc ks (eg_set2 loc 16 (.long x)) (st) h := rfl
theorem s_M_isLess_55 {x : Int64} {l0 l1 l2 l3 l4 l5 l6 l7 l8 l9 l10 l11 : Option Value} {l : eg_Lo} : wps rm K Q c_M_isLess_55 kc ks (l0 :: l1 :: l2 :: l3 :: l4 :: l5 :: l6 :: l7 :: l8 :: l9 :: l10 :: l11 :: some (.long x) :: l) (st) h = wps rm K Q c_M_isLess_57 kc ks (l0 :: l1 :: l2 :: l3 :: l4 :: l5 :: l6 :: l7 :: l8 :: l9 :: l10 :: l11 :: some (.long x) :: l) (.long x :: st) h := rfl
theorem s_M_isLess_57 {x : Int64} {l0 l1 l2 l3 l4 l5 l6 l7 l8 l9 l10 l11 l12 l13 : Option Value} {l : eg_Lo} : wps rm K Q c_M_isLess_57 kc ks (l0 :: l1 :: l2 :: l3 :: l4 :: l5 :: l6 :: l7 :: l8 :: l9 :: l10 :: l11 :: l12 :: l13 :: some (.long x) :: l) (st) h = wps rm K Q c_M_isLess_59 kc ks (l0 :: l1 :: l2 :: l3 :: l4 :: l5 :: l6 :: l7 :: l8 :: l9 :: l10 :: l11 :: l12 :: l13 :: some (.long x) :: l) (.long x :: st) h := rfl
theorem s_M_isLess_59 {x y : Int64} : wps rm K Q c_M_isLess_59 kc ks loc (.long y :: .long x :: st) h = (¬ y = 0 ∧ wps rm K Q c_M_isLess_60 kc ks loc (.long (x - x / y * y) :: st) h) := rfl
theorem s_M_isLess_60 {x : Int64} : wps rm K Q c_M_isLess_60 kc ks loc (.long x :: st) h = wps rm K Q c_M_isLess_62 kc ks (eg_set2 loc 18 (.long x)) (st) h := rfl
theorem s_M_isLess_62 {x : Int64} {l0 l1 l2 l3 l4 l5 l6 l7 l8 l9 l10 l11 l12 l13 l14 l15 : Option Value} {l : eg_Lo} : wps rm K Q c_M_isLess_62 kc ks (l0 :: l1 :: l2 :: l3 :: l4 :: l5 :: l6 :: l7 :: l8 :: l9 :: l10 :: l11 :: l12 :: l13 :: l14 :: l15 :: some (.long x) :: l) (st) h = wps rm K Q c_M_isLess_64 kc ks (l0 :: l1 :: l2 :: l3 :: l4 :: l5 :: l6 :: l7 :: l8 :: l9 :: l10 :: l11 :: l12 :: l13 :: l14 :: l15 :: some (.long x) :: l) (.long x :: st) h := rfl
theorem s_M_isLess_64  : wps rm K Q c_M_isLess_64 kc ks loc (st) h = wps rm K Q c_M_isLess_65 kc ks loc (.long (0) :: st) h := rfl
theorem s_M_isLess_65 {x y : Int64} : wps rm K Q c_M_isLess_65 kc ks loc (.long y :: .long x :: st) h = wps rm K Q c_M_isLess_66 kc ks loc (.int (lg_cmp x y) :: st) h := rfl
theorem s_M_isLess_66 {x : Int32} : wps rm K Q c_M_isLess_66 kc ks loc (.int x :: st) h = ((x = 0 → K 76 kc ks loc st h) ∧ (¬ x = 0 → wps rm K Q c_M_isLess_69 kc ks loc (st) h)) := rfl
theorem s_M_isLess_69 {x : Int64} {l0 l1 l2 l3 l4 l5 l6 l7 l8 l9 l10 l11 l12 l13 l14 l15 l16 l17 : Option Value} {l : eg_Lo} : wps rm K Q c_M_isLess_69 kc ks (l0 :: l1 :: l2 :: l3 :: l4 :: l5 :: l6 :: l7 :: l8 :: l9 :: l10 :: l11 :: l12 :: l13 :: l14 :: l15 :: l16 :: l17 :: some (.long x) :: l) (st) h = wps rm K Q c_M_isLess_71 kc ks (l0 :: l1 :: l2 :: l3 :: l4 :: l5 :: l6 :: l7 :: l8 :: l9 :: l10 :: l11 :: l12 :: l13 :: l14 :: l15 :: l16 :: l17 :: some (.long x) :: l) (.long x :: st) h := rfl
theorem s_M_isLess_71  : wps rm K Q c_M_isLess_71 kc ks loc (st) h = wps rm K Q c_M_isLess_72 kc ks loc (.long (0) :: st) h := rfl
theorem s_M_isLess_72 {x y : Int64} : wps rm K Q c_M_isLess_72 kc ks loc (.long y :: .long x :: st) h = wps rm K Q c_M_isLess_73 kc ks loc (.int (lg_cmp x y) :: st) h := rfl
theorem s_M_isLess_73 {x : Int32} : wps rm K Q c_M_isLess_73 kc ks loc (.int x :: st) h = ((¬ x = 0 → K 96 kc ks loc st h) ∧ (x = 0 → wps rm K Q c_M_isLess_76 kc ks loc (st) h)) := rfl
theorem s_M_isLess_76 {x : Int64} {l0 l1 l2 l3 l4 l5 l6 l7 l8 l9 l10 l11 l12 l13 l14 l15 : Option Value} {l : eg_Lo} : wps rm K Q c_M_isLess_76 kc ks (l0 :: l1 :: l2 :: l3 :: l4 :: l5 :: l6 :: l7 :: l8 :: l9 :: l10 :: l11 :: l12 :: l13 :: l14 :: l15 :: some (.long x) :: l) (st) h = wps rm K Q c_M_isLess_78 kc ks (l0 :: l1 :: l2 :: l3 :: l4 :: l5 :: l6 :: l7 :: l8 :: l9 :: l10 :: l11 :: l12 :: l13 :: l14 :: l15 :: some (.long x) :: l) (.long x :: st) h := rfl
theorem s_M_isLess_78  : wps rm K Q c_M_isLess_78 kc ks loc (st) h = wps rm K Q c_M_isLess_79 kc ks loc (.long (0) :: st) h := rfl
theorem s_M_isLess_79 {x y : Int64} : wps rm K Q c_M_isLess_79 kc ks loc (.long y :: .long x :: st) h = wps rm K Q c_M_isLess_80 kc ks loc (.int (lg_cmp x y) :: st) h := rfl
theorem s_M_isLess_80 {x : Int32} : wps rm K Q c_M_isLess_80 kc ks loc (.int x :: st) h = ((¬ x = 0 → K 94 kc ks loc st h) ∧ (x = 0 → wps rm K Q c_M_isLess_83 kc ks loc (st) h)) := rfl
theorem s_M_isLess_83 {x : Int64} {l0 l1 l2 l3 l4 l5 l6 l7 l8 l9 l10 l11 l12 l13 l14 l15 l16 l17 : Option Value} {l : eg_Lo} : wps rm K Q c_M_isLess_83 kc ks (l0 :: l1 :: l2 :: l3 :: l4 :: l5 :: l6 :: l7 :: l8 :: l9 :: l10 :: l11 :: l12 :: l13 :: l14 :: l15 :: l16 :: l17 :: some (.long x) :: l) (st) h = wps rm K Q c_M_isLess_85 kc ks (l0 :: l1 :: l2 :: l3 :: l4 :: l5 :: l6 :: l7 :: l8 :: l9 :: l10 :: l11 :: l12 :: l13 :: l14 :: l15 :: l16 :: l17 :: some (.long x) :: l) (.long x :: st) h := rfl
theorem s_M_isLess_85  : wps rm K Q c_M_isLess_85 kc ks loc (st) h = wps rm K Q c_M_isLess_86 kc ks loc (.long (0) :: st) h := rfl
theorem s_M_isLess_86 {x y : Int64} : wps rm K Q c_M_isLess_86 kc ks loc (.long y :: .long x :: st) h = wps rm K Q c_M_isLess_87 kc ks loc (.int (lg_cmp x y) :: st) h := rfl
theorem s_M_isLess_87 {x : Int32} : wps rm K Q c_M_isLess_87 kc ks loc (.int x :: st) h = ((x ≤ 0 → K 94 kc ks loc st h) ∧ (¬ x ≤ 0 → wps rm K Q c_M_isLess_90 kc ks loc (st) h)) := rfl
theorem s_M_isLess_90  : wps rm K Q c_M_isLess_90 kc ks loc (st) h = wps rm K Q c_M_isLess_91 kc ks loc (.int (1) :: st) h := rfl
theorem s_M_isLess_91  : wps rm K Q c_M_isLess_91 kc ks loc (st) h = K 95 kc ks loc st h := rfl
theorem s_M_isLess_94  : wps rm K Q c_M_isLess_94 kc ks loc (st) h = wps rm K Q c_M_isLess_95 kc ks loc (.int (0) :: st) h := rfl
theorem s_M_isLess_95 {x : Int32} : wps rm K Q c_M_isLess_95 kc ks loc ([.int x]) h = (kc = rm.cells ∧ ((1 : Nat) = 1 → x = 0 ∨ x = 1) ∧ Q (some (.int x)) h) := rfl
theorem s_M_isLess_96 {x : Int64} {l0 l1 l2 l3 l4 l5 l6 l7 l8 l9 l10 l11 l12 l13 : Option Value} {l : eg_Lo} : wps rm K Q c_M_isLess_96 kc ks (l0 :: l1 :: l2 :: l3 :: l4 :: l5 :: l6 :: l7 :: l8 :: l9 :: l10 :: l11 :: l12 :: l13 :: some (.long x) :: l) (st) h = wps rm K Q c_M_isLess_98 kc ks (l0 :: l1 :: l2 :: l3 :: l4 :: l5 :: l6 :: l7 :: l8 :: l9 :: l10 :: l11 :: l12 :: l13 :: some (.long x) :: l) (.long x :: st) h := rfl
theorem s_M_isLess_98 {x : Int64} : wps rm K Q c_M_isLess_98 kc ks loc (.long x :: st) h = wps rm K Q c_M_isLess_100 kc ks (eg_set2 loc 8 (.long x)) (st) h := rfl
theorem s_M_isLess_100 {x : Int64} {l0 l1 l2 l3 l4 l5 l6 l7 l8 l9 : Option Value} {l : eg_Lo} : wps rm K Q c_M_isLess_100 kc ks (l0 :: l1 :: l2 :: l3 :: l4 :: l5 :: l6 :: l7 :: l8 :: l9 :: some (.long x) :: l) (st) h = wps rm K Q c_M_isLess_102 kc ks (l0 :: l1 :: l2 :: l3 :: l4 :: l5 :: l6 :: l7 :: l8 :: l9 :: some (.long x) :: l) (.long x :: st) h := rfl
theorem s_M_isLess_102 {x : Int64} : wps rm K Q c_M_isLess_102 kc ks loc (.long x :: st) h = wps rm K Q c_M_isLess_104 kc ks (eg_set2 loc 12 (.long x)) (st) h := rfl
theorem s_M_isLess_104 {x : Int64} {l0 l1 l2 l3 l4 l5 l6 l7 l8 l9 l10 l11 l12 l13 l14 l15 l16 l17 : Option Value} {l : eg_Lo} : wps rm K Q c_M_isLess_104 kc ks (l0 :: l1 :: l2 :: l3 :: l4 :: l5 :: l6 :: l7 :: l8 :: l9 :: l10 :: l11 :: l12 :: l13 :: l14 :: l15 :: l16 :: l17 :: some (.long x) :: l) (st) h = wps rm K Q c_M_isLess_106 kc ks (l0 :: l1 :: l2 :: l3 :: l4 :: l5 :: l6 :: l7 :: l8 :: l9 :: l10 :: l11 :: l12 :: l13 :: l14 :: l15 :: l16 :: l17 :: some (.long x) :: l) (.long x :: st) h := rfl
theorem s_M_isLess_106 {x : Int64} : wps rm K Q c_M_isLess_106 kc ks loc (.long x :: st) h = wps rm K Q c_M_isLess_108 kc ks (eg_set2 loc 10 (.long x)) (st) h := rfl
theorem s_M_isLess_108 {x : Int64} {l0 l1 l2 l3 l4 l5 l6 l7 l8 l9 l10 l11 l12 l13 l14 l15 : Option Value} {l : eg_Lo} : wps rm K Q c_M_isLess_108 kc ks (l0 :: l1 :: l2 :: l3 :: l4 :: l5 :: l6 :: l7 :: l8 :: l9 :: l10 :: l11 :: l12 :: l13 :: l14 :: l15 :: some (.long x) :: l) (st) h = wps rm K Q c_M_isLess_110 kc ks (l0 :: l1 :: l2 :: l3 :: l4 :: l5 :: l6 :: l7 :: l8 :: l9 :: l10 :: l11 :: l12 :: l13 :: l14 :: l15 :: some (.long x) :: l) (.long x :: st) h := rfl
theorem s_M_isLess_110 {x : Int64} : wps rm K Q c_M_isLess_110 kc ks loc (.long x :: st) h = wps rm K Q c_M_isLess_112 kc ks (eg_set2 loc 14 (.long x)) (st) h := rfl
theorem s_M_isLess_112  : wps rm K Q c_M_isLess_112 kc ks loc (st) h = K 14 kc ks loc st h := rfl
def T_M_isLess : List (Nat × List eg_I) := [(46, c_M_isLess_46), (47, c_M_isLess_47), (48, c_M_isLess_48), (76, c_M_isLess_76), (94, c_M_isLess_94), (95, c_M_isLess_95), (96, c_M_isLess_96)]
theorem j_M_isLess_46 {R : Nat → Nat → Nat → eg_Lo → List Value → List eg_E → Prop} {f pc0 : Nat} : eg_run rm R Q T_M_isLess (f + 1) 46 kc ks loc st h = wps rm (eg_run rm R Q T_M_isLess f) Q c_M_isLess_46 kc ks loc st h := rfl
theorem j_M_isLess_47 {R : Nat → Nat → Nat → eg_Lo → List Value → List eg_E → Prop} {f pc0 : Nat} : eg_run rm R Q T_M_isLess (f + 1) 47 kc ks loc st h = wps rm (eg_run rm R Q T_M_isLess f) Q c_M_isLess_47 kc ks loc st h := rfl
theorem j_M_isLess_48 {R : Nat → Nat → Nat → eg_Lo → List Value → List eg_E → Prop} {f pc0 : Nat} : eg_run rm R Q T_M_isLess (f + 1) 48 kc ks loc st h = wps rm (eg_run rm R Q T_M_isLess f) Q c_M_isLess_48 kc ks loc st h := rfl
theorem j_M_isLess_76 {R : Nat → Nat → Nat → eg_Lo → List Value → List eg_E → Prop} {f pc0 : Nat} : eg_run rm R Q T_M_isLess (f + 1) 76 kc ks loc st h = wps rm (eg_run rm R Q T_M_isLess f) Q c_M_isLess_76 kc ks loc st h := rfl
theorem j_M_isLess_94 {R : Nat → Nat → Nat → eg_Lo → List Value → List eg_E → Prop} {f pc0 : Nat} : eg_run rm R Q T_M_isLess (f + 1) 94 kc ks loc st h = wps rm (eg_run rm R Q T_M_isLess f) Q c_M_isLess_94 kc ks loc st h := rfl
theorem j_M_isLess_95 {R : Nat → Nat → Nat → eg_Lo → List Value → List eg_E → Prop} {f pc0 : Nat} : eg_run rm R Q T_M_isLess (f + 1) 95 kc ks loc st h = wps rm (eg_run rm R Q T_M_isLess f) Q c_M_isLess_95 kc ks loc st h := rfl
theorem j_M_isLess_96 {R : Nat → Nat → Nat → eg_Lo → List Value → List eg_E → Prop} {f pc0 : Nat} : eg_run rm R Q T_M_isLess (f + 1) 96 kc ks loc st h = wps rm (eg_run rm R Q T_M_isLess f) Q c_M_isLess_96 kc ks loc st h := rfl
theorem j_M_isLess_14 {R : Nat → Nat → Nat → eg_Lo → List Value → List eg_E → Prop} {f pc0 : Nat} : eg_run rm R Q T_M_isLess (f + 1) 14 kc ks loc st h = R 14 kc ks loc st h := rfl
end
theorem q_M_isLess : (T_M_isLess.all fun q => eg_seq m_M_isLess q.1 q.2) = true := by decide +kernel
theorem b_M_isLess {as : List Value} {h : List eg_E} {Q : Option Value → List eg_E → Prop} (hf : (eg_fl as).length ≤ 20) (hw : wps (eg_rm m_M_isLess) (eg_run (eg_rm m_M_isLess) (eg_R m_M_isLess Q (h.length + 0)) Q T_M_isLess 9) Q c_M_isLess_0 0 0 (eg_entry 20 as) [] h) : eg_Runs n_M_isLess as h Q := eg_begin (d := m_M_isLess) rfl (by decide) (by decide +kernel) q_M_isLess hf hw
theorem p_M_isLess_14 {Q : Option Value → List eg_E → Prop} {n0 kc ks : Nat} {loc : eg_Lo} {st : List Value} {h : List eg_E} (hw : wps (eg_rm m_M_isLess) (eg_run (eg_rm m_M_isLess) (eg_R m_M_isLess Q n0) Q T_M_isLess 9) Q c_M_isLess_14 kc ks loc st h) : eg_R m_M_isLess Q n0 14 kc ks loc st h := eg_go (by decide +kernel) q_M_isLess hw
/-! ===== M_common ===== -/
def c_M_common_55 : List eg_I := .inl (55, 1, .lreturn, 0, 0) :: []
def c_M_common_53 : List eg_I := .inl (53, 2, .lload 4, 0, 0) :: c_M_common_55
def c_M_common_50 : List eg_I := .inl (50, 3, .goto (-22), 28, 0) :: []
def c_M_common_48 : List eg_I := .inl (48, 2, .lstore 6, 0, 0) :: c_M_common_50
def c_M_common_46 : List eg_I := .inl (46, 2, .lload 8, 0, 0) :: c_M_common_48
def c_M_common_44 : List eg_I := .inl (44, 2, .lstore 4, 0, 0) :: c_M_common_46
def c_M_common_42 : List eg_I := .inl (42, 2, .lload 6, 0, 0) :: c_M_common_44
def c_M_common_40 : List eg_I := .inl (40, 2, .lstore 8, 0, 0) :: c_M_common_42
def c_M_common_39 : List eg_I := .inl (39, 1, .lrem, 0, 0) :: c_M_common_40
def c_M_common_37 : List eg_I := .inl (37, 2, .lload 6, 0, 0) :: c_M_common_39
def c_M_common_35 : List eg_I := .inl (35, 2, .lload 4, 0, 0) :: c_M_common_37
def c_M_common_32 : List eg_I := .inl (32, 3, .ifCond .eq (21), 53, 0) :: c_M_common_35
def c_M_common_31 : List eg_I := .inl (31, 1, .lcmp, 0, 0) :: c_M_common_32
def c_M_common_30 : List eg_I := .inl (30, 1, .sipush (0), 0, 0) :: c_M_common_31
def c_M_common_28 : List eg_I := .inl (28, 2, .lload 6, 0, 0) :: c_M_common_30
def c_M_common_26 : List eg_I := .inl (26, 2, .lstore 6, 0, 0) :: [.inl (28, 0, .nop, 0, 0)]
def c_M_common_25 : List eg_I := .inl (25, 1, .lload 2, 0, 0) :: c_M_common_26
def c_M_common_22 : List eg_I := .inl (22, 3, .goto (4), 26, 0) :: []
def c_M_common_21 : List eg_I := .inl (21, 1, .lneg, 0, 0) :: c_M_common_22
def c_M_common_20 : List eg_I := .inl (20, 1, .lload 2, 0, 0) :: c_M_common_21
def c_M_common_17 : List eg_I := .inl (17, 3, .ifCond .ge (8), 25, 0) :: c_M_common_20
def c_M_common_16 : List eg_I := .inl (16, 1, .lcmp, 0, 0) :: c_M_common_17
def c_M_common_15 : List eg_I := .inl (15, 1, .sipush (0), 0, 0) :: c_M_common_16
def c_M_common_14 : List eg_I := .inl (14, 1, .lload 2, 0, 0) :: c_M_common_15
def c_M_common_12 : List eg_I := .inl (12, 2, .lstore 4, 0, 0) :: c_M_common_14
def c_M_common_11 : List eg_I := .inl (11, 1, .lload 0, 0, 0) :: c_M_common_12
def c_M_common_8 : List eg_I := .inl (8, 3, .goto (4), 12, 0) :: []
def c_M_common_7 : List eg_I := .inl (7, 1, .lneg, 0, 0) :: c_M_common_8
def c_M_common_6 : List eg_I := .inl (6, 1, .lload 0, 0, 0) :: c_M_common_7
def c_M_common_3 : List eg_I := .inl (3, 3, .ifCond .ge (8), 11, 0) :: c_M_common_6
def c_M_common_2 : List eg_I := .inl (2, 1, .lcmp, 0, 0) :: c_M_common_3
def c_M_common_1 : List eg_I := .inl (1, 1, .sipush (0), 0, 0) :: c_M_common_2
def c_M_common_0 : List eg_I := .inl (0, 1, .lload 0, 0, 0) :: c_M_common_1
section
variable {rm : Room} {K : Nat → Nat → Nat → eg_Lo → List Value → List eg_E → Prop} {Q : Option Value → List eg_E → Prop} {kc ks : Nat} {loc : eg_Lo} {st : List Value} {h : List eg_E}
theorem s_M_common_0 {x : Int64} {l : eg_Lo} : wps rm K Q c_M_common_0 kc ks (some (.long x) :: l) (st) h = wps rm K Q c_M_common_1 kc ks (some (.long x) :: l) (.long x :: st) h := rfl
theorem s_M_common_1  : wps rm K Q c_M_common_1 kc ks loc (st) h = wps rm K Q c_M_common_2 kc ks loc (.long (0) :: st) h := rfl
theorem s_M_common_2 {x y : Int64} : wps rm K Q c_M_common_2 kc ks loc (.long y :: .long x :: st) h = wps rm K Q c_M_common_3 kc ks loc (.int (lg_cmp x y) :: st) h := rfl
theorem s_M_common_3 {x : Int32} : wps rm K Q c_M_common_3 kc ks loc (.int x :: st) h = ((0 ≤ x → K 11 kc ks loc st h) ∧ (¬ 0 ≤ x → wps rm K Q c_M_common_6 kc ks loc (st) h)) := rfl
theorem s_M_common_6 {x : Int64} {l : eg_Lo} : wps rm K Q c_M_common_6 kc ks (some (.long x) :: l) (st) h = wps rm K Q c_M_common_7 kc ks (some (.long x) :: l) (.long x :: st) h := rfl
theorem s_M_common_7 {x : Int64} : wps rm K Q c_M_common_7 kc ks loc (.long x :: st) h = wps rm K Q c_M_common_8 kc ks loc (.long (-x) :: st) h := rfl
theorem s_M_common_8  : wps rm K Q c_M_common_8 kc ks loc (st) h = K 12 kc ks loc st h := rfl
theorem s_M_common_11 {x : Int64} {l : eg_Lo} : wps rm K Q c_M_common_11 kc ks (some (.long x) :: l) (st) h = wps rm K Q c_M_common_12 kc ks (some (.long x) :: l) (.long x :: st) h := rfl
theorem s_M_common_12 {x : Int64} : wps rm K Q c_M_common_12 kc ks loc (.long x :: st) h = wps rm K Q c_M_common_14 kc ks (eg_set2 loc 4 (.long x)) (st) h := rfl
theorem s_M_common_14 {x : Int64} {l0 l1 : Option Value} {l : eg_Lo} : wps rm K Q c_M_common_14 kc ks (l0 :: l1 :: some (.long x) :: l) (st) h = wps rm K Q c_M_common_15 kc ks (l0 :: l1 :: some (.long x) :: l) (.long x :: st) h := rfl
theorem s_M_common_15  : wps rm K Q c_M_common_15 kc ks loc (st) h = wps rm K Q c_M_common_16 kc ks loc (.long (0) :: st) h := rfl
theorem s_M_common_16 {x y : Int64} : wps rm K Q c_M_common_16 kc ks loc (.long y :: .long x :: st) h = wps rm K Q c_M_common_17 kc ks loc (.int (lg_cmp x y) :: st) h := rfl
theorem s_M_common_17 {x : Int32} : wps rm K Q c_M_common_17 kc ks loc (.int x :: st) h = ((0 ≤ x → K 25 kc ks loc st h) ∧ (¬ 0 ≤ x → wps rm K Q c_M_common_20 kc ks loc (st) h)) := rfl
theorem s_M_common_20 {x : Int64} {l0 l1 : Option Value} {l : eg_Lo} : wps rm K Q c_M_common_20 kc ks (l0 :: l1 :: some (.long x) :: l) (st) h = wps rm K Q c_M_common_21 kc ks (l0 :: l1 :: some (.long x) :: l) (.long x :: st) h := rfl
theorem s_M_common_21 {x : Int64} : wps rm K Q c_M_common_21 kc ks loc (.long x :: st) h = wps rm K Q c_M_common_22 kc ks loc (.long (-x) :: st) h := rfl
theorem s_M_common_22  : wps rm K Q c_M_common_22 kc ks loc (st) h = K 26 kc ks loc st h := rfl
theorem s_M_common_25 {x : Int64} {l0 l1 : Option Value} {l : eg_Lo} : wps rm K Q c_M_common_25 kc ks (l0 :: l1 :: some (.long x) :: l) (st) h = wps rm K Q c_M_common_26 kc ks (l0 :: l1 :: some (.long x) :: l) (.long x :: st) h := rfl
theorem s_M_common_26 {x : Int64} : wps rm K Q c_M_common_26 kc ks loc (.long x :: st) h = K 28 kc ks (eg_set2 loc 6 (.long x)) (st) h := rfl
theorem s_M_common_28 {x : Int64} {l0 l1 l2 l3 l4 l5 : Option Value} {l : eg_Lo} : wps rm K Q c_M_common_28 kc ks (l0 :: l1 :: l2 :: l3 :: l4 :: l5 :: some (.long x) :: l) (st) h = wps rm K Q c_M_common_30 kc ks (l0 :: l1 :: l2 :: l3 :: l4 :: l5 :: some (.long x) :: l) (.long x :: st) h := rfl
theorem s_M_common_30  : wps rm K Q c_M_common_30 kc ks loc (st) h = wps rm K Q c_M_common_31 kc ks loc (.long (0) :: st) h := rfl
theorem s_M_common_31 {x y : Int64} : wps rm K Q c_M_common_31 kc ks loc (.long y :: .long x :: st) h = wps rm K Q c_M_common_32 kc ks loc (.int (lg_cmp x y) :: st) h := rfl
theorem s_M_common_32 {x : Int32} : wps rm K Q c_M_common_32 kc ks loc (.int x :: st) h = ((x = 0 → K 53 kc ks loc st h) ∧ (¬ x = 0 → wps rm K Q c_M_common_35 kc ks loc (st) h)) := rfl
theorem s_M_common_35 {x : Int64} {l0 l1 l2 l3 : Option Value} {l : eg_Lo} : wps rm K Q c_M_common_35 kc ks (l0 :: l1 :: l2 :: l3 :: some (.long x) :: l) (st) h = wps rm K Q c_M_common_37 kc ks (l0 :: l1 :: l2 :: l3 :: some (.long x) :: l) (.long x :: st) h := rfl
theorem s_M_common_37 {x : Int64} {l0 l1 l2 l3 l4 l5 : Option Value} {l : eg_Lo} : wps rm K Q c_M_common_37 kc ks (l0 :: l1 :: l2 :: l3 :: l4 :: l5 :: some (.long x) :: l) (st) h = wps rm K Q c_M_common_39 kc ks (l0 :: l1 :: l2 :: l3 :: l4 :: l5 :: some (.long x) :: l) (.long x :: st) h := rfl
theorem s_M_common_39 {x y : Int64} : wps rm K Q c_M_common_39 kc ks loc (.long y :: .long x :: st) h = (¬ y = 0 ∧ wps rm K Q c_M_common_40 kc ks loc (.long (x - x / y * y) :: st) h) := rfl
theorem s_M_common_40 {x : Int64} : wps rm K Q c_M_common_40 kc ks loc (.long x :: st) h = wps rm K Q c_M_common_42 kc ks (eg_set2 loc 8 (.long x)) (st) h := rfl
theorem s_M_common_42 {x : Int64} {l0 l1 l2 l3 l4 l5 : Option Value} {l : eg_Lo} : wps rm K Q c_M_common_42 kc ks (l0 :: l1 :: l2 :: l3 :: l4 :: l5 :: some (.long x) :: l) (st) h = wps rm K Q c_M_common_44 kc ks (l0 :: l1 :: l2 :: l3 :: l4 :: l5 :: some (.long x) :: l) (.long x :: st) h := rfl
theorem s_M_common_44 {x : Int64} : wps rm K Q c_M_common_44 kc ks loc (.long x :: st) h = wps rm K Q c_M_common_46 kc ks (eg_set2 loc 4 (.long x)) (st) h := rfl
theorem s_M_common_46 {x : Int64} {l0 l1 l2 l3 l4 l5 l6 l7 : Option Value} {l : eg_Lo} : wps rm K Q c_M_common_46 kc ks (l0 :: l1 :: l2 :: l3 :: l4 :: l5 :: l6 :: l7 :: some (.long x) :: l) (st) h = wps rm K Q c_M_common_48 kc ks (l0 :: l1 :: l2 :: l3 :: l4 :: l5 :: l6 :: l7 :: some (.long x) :: l) (.long x :: st) h := rfl
theorem s_M_common_48 {x : Int64} : wps rm K Q c_M_common_48 kc ks loc (.long x :: st) h = wps rm K Q c_M_common_50 kc ks (eg_set2 loc 6 (.long x)) (st) h := rfl
theorem s_M_common_50  : wps rm K Q c_M_common_50 kc ks loc (st) h = K 28 kc ks loc st h := rfl
theorem s_M_common_53 {x : Int64} {l0 l1 l2 l3 : Option Value} {l : eg_Lo} : wps rm K Q c_M_common_53 kc ks (l0 :: l1 :: l2 :: l3 :: some (.long x) :: l) (st) h = wps rm K Q c_M_common_55 kc ks (l0 :: l1 :: l2 :: l3 :: some (.long x) :: l) (.long x :: st) h := rfl
theorem s_M_common_55 {x : Int64} : wps rm K Q c_M_common_55 kc ks loc ([.long x]) h = (kc = rm.cells ∧ Q (some (.long x)) h) := rfl
def T_M_common : List (Nat × List eg_I) := [(11, c_M_common_11), (12, c_M_common_12), (25, c_M_common_25), (26, c_M_common_26), (53, c_M_common_53)]
theorem j_M_common_11 {R : Nat → Nat → Nat → eg_Lo → List Value → List eg_E → Prop} {f pc0 : Nat} : eg_run rm R Q T_M_common (f + 1) 11 kc ks loc st h = wps rm (eg_run rm R Q T_M_common f) Q c_M_common_11 kc ks loc st h := rfl
theorem j_M_common_12 {R : Nat → Nat → Nat → eg_Lo → List Value → List eg_E → Prop} {f pc0 : Nat} : eg_run rm R Q T_M_common (f + 1) 12 kc ks loc st h = wps rm (eg_run rm R Q T_M_common f) Q c_M_common_12 kc ks loc st h := rfl
theorem j_M_common_25 {R : Nat → Nat → Nat → eg_Lo → List Value → List eg_E → Prop} {f pc0 : Nat} : eg_run rm R Q T_M_common (f + 1) 25 kc ks loc st h = wps rm (eg_run rm R Q T_M_common f) Q c_M_common_25 kc ks loc st h := rfl
theorem j_M_common_26 {R : Nat → Nat → Nat → eg_Lo → List Value → List eg_E → Prop} {f pc0 : Nat} : eg_run rm R Q T_M_common (f + 1) 26 kc ks loc st h = wps rm (eg_run rm R Q T_M_common f) Q c_M_common_26 kc ks loc st h := rfl
theorem j_M_common_53 {R : Nat → Nat → Nat → eg_Lo → List Value → List eg_E → Prop} {f pc0 : Nat} : eg_run rm R Q T_M_common (f + 1) 53 kc ks loc st h = wps rm (eg_run rm R Q T_M_common f) Q c_M_common_53 kc ks loc st h := rfl
theorem j_M_common_28 {R : Nat → Nat → Nat → eg_Lo → List Value → List eg_E → Prop} {f pc0 : Nat} : eg_run rm R Q T_M_common (f + 1) 28 kc ks loc st h = R 28 kc ks loc st h := rfl
end
theorem q_M_common : (T_M_common.all fun q => eg_seq m_M_common q.1 q.2) = true := by decide +kernel
theorem b_M_common {as : List Value} {h : List eg_E} {Q : Option Value → List eg_E → Prop} (hf : (eg_fl as).length ≤ 10) (hw : wps (eg_rm m_M_common) (eg_run (eg_rm m_M_common) (eg_R m_M_common Q (h.length + 0)) Q T_M_common 7) Q c_M_common_0 0 0 (eg_entry 10 as) [] h) : eg_Runs n_M_common as h Q := eg_begin (d := m_M_common) rfl (by decide) (by decide +kernel) q_M_common hf hw
theorem p_M_common_28 {Q : Option Value → List eg_E → Prop} {n0 kc ks : Nat} {loc : eg_Lo} {st : List Value} {h : List eg_E} (hw : wps (eg_rm m_M_common) (eg_run (eg_rm m_M_common) (eg_R m_M_common Q n0) Q T_M_common 7) Q c_M_common_28 kc ks loc st h) : eg_R m_M_common Q n0 28 kc ks loc st h := eg_go (by decide +kernel) q_M_common hw
/-! ===== M_isFigure ===== -/
def c_M_isFigure_6 : List eg_I := .inl (6, 1, .ireturn, 0, 1) :: []
def c_M_isFigure_3 : List eg_I := .inr (3, 0, 95, n_M_isIn, 3, 12, 0, 0) :: c_M_isFigure_6
def c_M_isFigure_2 : List eg_I := .inl (2, 1, .iconst (5), 0, 0) :: c_M_isFigure_3
def c_M_isFigure_1 : List eg_I := .inl (1, 1, .iconst (0), 0, 0) :: c_M_isFigure_2
def c_M_isFigure_0 : List eg_I := .inl (0, 1, .iload 0, 0, 0) :: c_M_isFigure_1
section
variable {rm : Room} {K : Nat → Nat → Nat → eg_Lo → List Value → List eg_E → Prop} {Q : Option Value → List eg_E → Prop} {kc ks : Nat} {loc : eg_Lo} {st : List Value} {h : List eg_E}
theorem s_M_isFigure_0 {x : Int32} {l : eg_Lo} : wps rm K Q c_M_isFigure_0 kc ks (some (.int x) :: l) (st) h = wps rm K Q c_M_isFigure_1 kc ks (some (.int x) :: l) (.int x :: st) h := rfl
theorem s_M_isFigure_1  : wps rm K Q c_M_isFigure_1 kc ks loc (st) h = wps rm K Q c_M_isFigure_2 kc ks loc (.int (0) :: st) h := rfl
theorem s_M_isFigure_2  : wps rm K Q c_M_isFigure_2 kc ks loc (st) h = wps rm K Q c_M_isFigure_3 kc ks loc (.int (5) :: st) h := rfl
theorem s_M_isFigure_3  {a1 : Value} {a2 : Value} {a3 : Value} : wps rm K Q c_M_isFigure_3 kc ks loc (a3 :: a2 :: a1 :: st) h = (st.length ≤ 4 ∧ eg_Cs n_M_isIn [a1, a2, a3] h (fun v h9 => wps rm K Q c_M_isFigure_6 kc ks loc (v.toList ++ st) h9)) := eg_c0_3
theorem s_M_isFigure_6 {x : Int32} : wps rm K Q c_M_isFigure_6 kc ks loc ([.int x]) h = (kc = rm.cells ∧ ((1 : Nat) = 1 → x = 0 ∨ x = 1) ∧ Q (some (.int x)) h) := rfl
def T_M_isFigure : List (Nat × List eg_I) := []
end
theorem q_M_isFigure : (T_M_isFigure.all fun q => eg_seq m_M_isFigure q.1 q.2) = true := by decide +kernel
theorem b_M_isFigure {as : List Value} {h : List eg_E} {Q : Option Value → List eg_E → Prop} (hf : (eg_fl as).length ≤ 1) (hw : wps (eg_rm m_M_isFigure) (eg_run (eg_rm m_M_isFigure) (eg_R m_M_isFigure Q (h.length + 0)) Q T_M_isFigure 2) Q c_M_isFigure_0 0 0 (eg_entry 1 as) [] h) : eg_Runs n_M_isFigure as h Q := eg_begin (d := m_M_isFigure) rfl (by decide) (by decide +kernel) q_M_isFigure hf hw
/-! ===== M_keepMiss ===== -/
def c_M_keepMiss_29 : List eg_I := .inl (29, 1, .return_, 0, 0) :: []
def c_M_keepMiss_28 : List eg_I := .inl (28, 1, .lastore, 0, 0) :: c_M_keepMiss_29
def c_M_keepMiss_27 : List eg_I := .inl (27, 1, .ldiv, 0, 0) :: c_M_keepMiss_28
def c_M_keepMiss_25 : List eg_I := .inl (25, 2, .lload 6, 0, 0) :: c_M_keepMiss_27
def c_M_keepMiss_23 : List eg_I := .inl (23, 2, .lload 4, 0, 0) :: c_M_keepMiss_25
def c_M_keepMiss_22 : List eg_I := .inl (22, 1, .iload 1, 0, 0) :: c_M_keepMiss_23
def c_M_keepMiss_19 : List eg_I := .inl (19, 3, .getfield 45, 12, 11) :: c_M_keepMiss_22
def c_M_keepMiss_18 : List eg_I := .inl (18, 1, .aload 0, 0, 0) :: c_M_keepMiss_19
def c_M_keepMiss_17 : List eg_I := .inl (17, 1, .lastore, 0, 0) :: c_M_keepMiss_18
def c_M_keepMiss_16 : List eg_I := .inl (16, 1, .ldiv, 0, 0) :: c_M_keepMiss_17
def c_M_keepMiss_14 : List eg_I := .inl (14, 2, .lload 6, 0, 0) :: c_M_keepMiss_16
def c_M_keepMiss_13 : List eg_I := .inl (13, 1, .lload 2, 0, 0) :: c_M_keepMiss_14
def c_M_keepMiss_12 : List eg_I := .inl (12, 1, .iload 1, 0, 0) :: c_M_keepMiss_13
def c_M_keepMiss_9 : List eg_I := .inl (9, 3, .getfield 41, 12, 10) :: c_M_keepMiss_12
def c_M_keepMiss_8 : List eg_I := .inl (8, 1, .aload 0, 0, 0) :: c_M_keepMiss_9
def c_M_keepMiss_6 : List eg_I := .inl (6, 2, .lstore 6, 0, 0) :: c_M_keepMiss_8
def c_M_keepMiss_3 : List eg_I := .inr (3, 0, 168, n_M_common, 2, 12, 0, 0) :: c_M_keepMiss_6
def c_M_keepMiss_1 : List eg_I := .inl (1, 2, .lload 4, 0, 0) :: c_M_keepMiss_3
def c_M_keepMiss_0 : List eg_I := .inl (0, 1, .lload 2, 0, 0) :: c_M_keepMiss_1
section
variable {rm : Room} {K : Nat → Nat → Nat → eg_Lo → List Value → List eg_E → Prop} {Q : Option Value → List eg_E → Prop} {kc ks : Nat} {loc : eg_Lo} {st : List Value} {h : List eg_E}
theorem s_M_keepMiss_0 {x : Int64} {l0 l1 : Option Value} {l : eg_Lo} : wps rm K Q c_M_keepMiss_0 kc ks (l0 :: l1 :: some (.long x) :: l) (st) h = wps rm K Q c_M_keepMiss_1 kc ks (l0 :: l1 :: some (.long x) :: l) (.long x :: st) h := rfl
theorem s_M_keepMiss_1 {x : Int64} {l0 l1 l2 l3 : Option Value} {l : eg_Lo} : wps rm K Q c_M_keepMiss_1 kc ks (l0 :: l1 :: l2 :: l3 :: some (.long x) :: l) (st) h = wps rm K Q c_M_keepMiss_3 kc ks (l0 :: l1 :: l2 :: l3 :: some (.long x) :: l) (.long x :: st) h := rfl
theorem s_M_keepMiss_3  {a1 : Value} {a2 : Value} : wps rm K Q c_M_keepMiss_3 kc ks loc (a2 :: a1 :: st) h = (st.length ≤ 4 ∧ eg_Cs n_M_common [a1, a2] h (fun v h9 => wps rm K Q c_M_keepMiss_6 kc ks loc (v.toList ++ st) h9)) := eg_c0_2
theorem s_M_keepMiss_6 {x : Int64} : wps rm K Q c_M_keepMiss_6 kc ks loc (.long x :: st) h = wps rm K Q c_M_keepMiss_8 kc ks (eg_set2 loc 6 (.long x)) (st) h := rfl
theorem s_M_keepMiss_8 {x : Nat} {l : eg_Lo} : wps rm K Q c_M_keepMiss_8 kc ks (some (.ref x) :: l) (st) h = wps rm K Q c_M_keepMiss_9 kc ks (some (.ref x) :: l) (.ref x :: st) h := rfl
theorem s_M_keepMiss_9 {x : Nat} : wps rm K Q c_M_keepMiss_9 kc ks loc (.ref (x + 1) :: st) h = eg_gf h x 12 10 (fun v => wps rm K Q c_M_keepMiss_12 kc ks loc (v :: st) h) := rfl
theorem s_M_keepMiss_12 {x : Int32} {l0 : Option Value} {l : eg_Lo} : wps rm K Q c_M_keepMiss_12 kc ks (l0 :: some (.int x) :: l) (st) h = wps rm K Q c_M_keepMiss_13 kc ks (l0 :: some (.int x) :: l) (.int x :: st) h := rfl
theorem s_M_keepMiss_13 {x : Int64} {l0 l1 : Option Value} {l : eg_Lo} : wps rm K Q c_M_keepMiss_13 kc ks (l0 :: l1 :: some (.long x) :: l) (st) h = wps rm K Q c_M_keepMiss_14 kc ks (l0 :: l1 :: some (.long x) :: l) (.long x :: st) h := rfl
theorem s_M_keepMiss_14 {x : Int64} {l0 l1 l2 l3 l4 l5 : Option Value} {l : eg_Lo} : wps rm K Q c_M_keepMiss_14 kc ks (l0 :: l1 :: l2 :: l3 :: l4 :: l5 :: some (.long x) :: l) (st) h = wps rm K Q c_M_keepMiss_16 kc ks (l0 :: l1 :: l2 :: l3 :: l4 :: l5 :: some (.long x) :: l) (.long x :: st) h := rfl
theorem s_M_keepMiss_16 {x y : Int64} : wps rm K Q c_M_keepMiss_16 kc ks loc (.long y :: .long x :: st) h = (¬ y = 0 ∧ wps rm K Q c_M_keepMiss_17 kc ks loc (.long (x / y) :: st) h) := rfl
theorem s_M_keepMiss_17 {x : Nat} {i : Int32} {v : Int64} : wps rm K Q c_M_keepMiss_17 kc ks loc (.long v :: .int i :: .ref (x + 1) :: st) h = eg_lst h x i v (fun h9 => wps rm K Q c_M_keepMiss_18 kc ks loc (st) h9) := rfl
theorem s_M_keepMiss_18 {x : Nat} {l : eg_Lo} : wps rm K Q c_M_keepMiss_18 kc ks (some (.ref x) :: l) (st) h = wps rm K Q c_M_keepMiss_19 kc ks (some (.ref x) :: l) (.ref x :: st) h := rfl
theorem s_M_keepMiss_19 {x : Nat} : wps rm K Q c_M_keepMiss_19 kc ks loc (.ref (x + 1) :: st) h = eg_gf h x 12 11 (fun v => wps rm K Q c_M_keepMiss_22 kc ks loc (v :: st) h) := rfl
theorem s_M_keepMiss_22 {x : Int32} {l0 : Option Value} {l : eg_Lo} : wps rm K Q c_M_keepMiss_22 kc ks (l0 :: some (.int x) :: l) (st) h = wps rm K Q c_M_keepMiss_23 kc ks (l0 :: some (.int x) :: l) (.int x :: st) h := rfl
theorem s_M_keepMiss_23 {x : Int64} {l0 l1 l2 l3 : Option Value} {l : eg_Lo} : wps rm K Q c_M_keepMiss_23 kc ks (l0 :: l1 :: l2 :: l3 :: some (.long x) :: l) (st) h = wps rm K Q c_M_keepMiss_25 kc ks (l0 :: l1 :: l2 :: l3 :: some (.long x) :: l) (.long x :: st) h := rfl
theorem s_M_keepMiss_25 {x : Int64} {l0 l1 l2 l3 l4 l5 : Option Value} {l : eg_Lo} : wps rm K Q c_M_keepMiss_25 kc ks (l0 :: l1 :: l2 :: l3 :: l4 :: l5 :: some (.long x) :: l) (st) h = wps rm K Q c_M_keepMiss_27 kc ks (l0 :: l1 :: l2 :: l3 :: l4 :: l5 :: some (.long x) :: l) (.long x :: st) h := rfl
theorem s_M_keepMiss_27 {x y : Int64} : wps rm K Q c_M_keepMiss_27 kc ks loc (.long y :: .long x :: st) h = (¬ y = 0 ∧ wps rm K Q c_M_keepMiss_28 kc ks loc (.long (x / y) :: st) h) := rfl
theorem s_M_keepMiss_28 {x : Nat} {i : Int32} {v : Int64} : wps rm K Q c_M_keepMiss_28 kc ks loc (.long v :: .int i :: .ref (x + 1) :: st) h = eg_lst h x i v (fun h9 => wps rm K Q c_M_keepMiss_29 kc ks loc (st) h9) := rfl
theorem s_M_keepMiss_29  : wps rm K Q c_M_keepMiss_29 kc ks loc ([]) h = (kc = rm.cells ∧ Q none h) := rfl
def T_M_keepMiss : List (Nat × List eg_I) := []
end
theorem q_M_keepMiss : (T_M_keepMiss.all fun q => eg_seq m_M_keepMiss q.1 q.2) = true := by decide +kernel
theorem b_M_keepMiss {as : List Value} {h : List eg_E} {Q : Option Value → List eg_E → Prop} (hf : (eg_fl as).length ≤ 8) (hw : wps (eg_rm m_M_keepMiss) (eg_run (eg_rm m_M_keepMiss) (eg_R m_M_keepMiss Q (h.length + 0)) Q T_M_keepMiss 2) Q c_M_keepMiss_0 0 0 (eg_entry 8 as) [] h) : eg_Runs n_M_keepMiss as h Q := eg_begin (d := m_M_keepMiss) rfl (by decide) (by decide +kernel) q_M_keepMiss hf hw
/-! ===== M_lowest ===== -/
def c_M_lowest_105 : List eg_I := .inl (105, 1, .return_, 0, 0) :: []
def c_M_lowest_104 : List eg_I := .inl (104, 1, .lastore, 0, 0) :: c_M_lowest_105
def c_M_lowest_103 : List eg_I := .inl (103, 1, .ldiv, 0, 0) :: c_M_lowest_104
def c_M_lowest_101 : List eg_I := .inl (101, 2, .lload 9, 0, 0) :: c_M_lowest_103
def c_M_lowest_99 : List eg_I := .inl (99, 2, .lload 4, 0, 0) :: c_M_lowest_101
def c_M_lowest_98 : List eg_I := .inl (98, 1, .iadd, 0, 0) :: c_M_lowest_99
def c_M_lowest_97 : List eg_I := .inl (97, 1, .iconst (2), 0, 0) :: c_M_lowest_98
def c_M_lowest_95 : List eg_I := .inl (95, 2, .iload 7, 0, 0) :: c_M_lowest_97
def c_M_lowest_93 : List eg_I := .inl (93, 2, .aload 6, 0, 0) :: c_M_lowest_95
def c_M_lowest_92 : List eg_I := .inl (92, 1, .lastore, 0, 0) :: c_M_lowest_93
def c_M_lowest_91 : List eg_I := .inl (91, 1, .ldiv, 0, 0) :: c_M_lowest_92
def c_M_lowest_89 : List eg_I := .inl (89, 2, .lload 9, 0, 0) :: c_M_lowest_91
def c_M_lowest_88 : List eg_I := .inl (88, 1, .lload 2, 0, 0) :: c_M_lowest_89
def c_M_lowest_87 : List eg_I := .inl (87, 1, .iadd, 0, 0) :: c_M_lowest_88
def c_M_lowest_86 : List eg_I := .inl (86, 1, .iconst (1), 0, 0) :: c_M_lowest_87
def c_M_lowest_84 : List eg_I := .inl (84, 2, .iload 7, 0, 0) :: c_M_lowest_86
def c_M_lowest_82 : List eg_I := .inl (82, 2, .aload 6, 0, 0) :: c_M_lowest_84
def c_M_lowest_81 : List eg_I := .inl (81, 1, .lastore, 0, 0) :: c_M_lowest_82
def c_M_lowest_80 : List eg_I := .inl (80, 1, .ldiv, 0, 0) :: c_M_lowest_81
def c_M_lowest_78 : List eg_I := .inl (78, 2, .lload 9, 0, 0) :: c_M_lowest_80
def c_M_lowest_77 : List eg_I := .inl (77, 1, .lload 0, 0, 0) :: c_M_lowest_78
def c_M_lowest_75 : List eg_I := .inl (75, 2, .iload 7, 0, 0) :: c_M_lowest_77
def c_M_lowest_73 : List eg_I := .inl (73, 2, .aload 6, 0, 0) :: c_M_lowest_75
def c_M_lowest_71 : List eg_I := .inl (71, 2, .lstore 9, 0, 0) :: c_M_lowest_73
def c_M_lowest_69 : List eg_I := .inl (69, 2, .lload 9, 0, 0) :: c_M_lowest_71
def c_M_lowest_66 : List eg_I := .inl (66, 3, .goto (5), 71, 0) :: []
def c_M_lowest_65 : List eg_I := .inl (65, 1, .lneg, 0, 0) :: c_M_lowest_66
def c_M_lowest_63 : List eg_I := .inl (63, 2, .lload 9, 0, 0) :: c_M_lowest_65
def c_M_lowest_60 : List eg_I := .inl (60, 3, .ifCond .ge (9), 69, 0) :: c_M_lowest_63
def c_M_lowest_59 : List eg_I := .inl (59, 1, .lcmp, 0, 0) :: c_M_lowest_60
def c_M_lowest_58 : List eg_I := .inl (58, 1, .sipush (0), 0, 0) :: c_M_lowest_59
def c_M_lowest_56 : List eg_I := .inl (56, 2, .lload 11, 0, 0) :: c_M_lowest_58
def c_M_lowest_53 : List eg_I := .inl (53, 3, .ifCond .eq (16), 69, 0) :: c_M_lowest_56
def c_M_lowest_51 : List eg_I := .inl (51, 2, .iload 8, 0, 0) :: c_M_lowest_53
def c_M_lowest_49 : List eg_I := .inl (49, 2, .lstore 11, 0, 0) :: c_M_lowest_51
def c_M_lowest_47 : List eg_I := .inl (47, 2, .lload 4, 0, 0) :: c_M_lowest_49
def c_M_lowest_44 : List eg_I := .inl (44, 3, .goto (5), 49, 0) :: []
def c_M_lowest_43 : List eg_I := .inl (43, 1, .lload 2, 0, 0) :: c_M_lowest_44
def c_M_lowest_40 : List eg_I := .inl (40, 3, .ifCond .eq (7), 47, 0) :: c_M_lowest_43
def c_M_lowest_39 : List eg_I := .inl (39, 1, .lcmp, 0, 0) :: c_M_lowest_40
def c_M_lowest_38 : List eg_I := .inl (38, 1, .sipush (0), 0, 0) :: c_M_lowest_39
def c_M_lowest_37 : List eg_I := .inl (37, 1, .lload 2, 0, 0) :: c_M_lowest_38
def c_M_lowest_34 : List eg_I := .inl (34, 3, .goto (15), 49, 0) :: []
def c_M_lowest_33 : List eg_I := .inl (33, 1, .lload 0, 0, 0) :: c_M_lowest_34
def c_M_lowest_30 : List eg_I := .inl (30, 3, .ifCond .eq (7), 37, 0) :: c_M_lowest_33
def c_M_lowest_29 : List eg_I := .inl (29, 1, .lcmp, 0, 0) :: c_M_lowest_30
def c_M_lowest_28 : List eg_I := .inl (28, 1, .sipush (0), 0, 0) :: c_M_lowest_29
def c_M_lowest_27 : List eg_I := .inl (27, 1, .lload 0, 0, 0) :: c_M_lowest_28
def c_M_lowest_25 : List eg_I := .inl (25, 2, .lstore 9, 0, 0) :: c_M_lowest_27
def c_M_lowest_23 : List eg_I := .inl (23, 2, .lload 9, 0, 0) :: c_M_lowest_25
def c_M_lowest_20 : List eg_I := .inl (20, 3, .goto (5), 25, 0) :: []
def c_M_lowest_19 : List eg_I := .inl (19, 1, .sipush (1), 0, 0) :: c_M_lowest_20
def c_M_lowest_16 : List eg_I := .inl (16, 3, .ifCond .ne (7), 23, 0) :: c_M_lowest_19
def c_M_lowest_15 : List eg_I := .inl (15, 1, .lcmp, 0, 0) :: c_M_lowest_16
def c_M_lowest_14 : List eg_I := .inl (14, 1, .sipush (0), 0, 0) :: c_M_lowest_15
def c_M_lowest_12 : List eg_I := .inl (12, 2, .lload 9, 0, 0) :: c_M_lowest_14
def c_M_lowest_10 : List eg_I := .inl (10, 2, .lstore 9, 0, 0) :: c_M_lowest_12
def c_M_lowest_7 : List eg_I := .inr (7, 0, 168, n_M_common, 2, 12, 0, 0) :: c_M_lowest_10
def c_M_lowest_5 : List eg_I := .inl (5, 2, .lload 4, 0, 0) :: c_M_lowest_7
def c_M_lowest_2 : List eg_I := .inr (2, 0, 168, n_M_common, 2, 12, 0, 0) :: c_M_lowest_5
def c_M_lowest_1 : List eg_I := .inl (1, 1, .lload 2, 0, 0) :: c_M_lowest_2
def c_M_lowest_0 : List eg_I := .inl (0, 1, .lload 0, 0, 0) :: c_M_lowest_1
section
variable {rm : Room} {K : Nat → Nat → Nat → eg_Lo → List Value → List eg_E → Prop} {Q : Option Value → List eg_E → Prop} {kc ks : Nat} {loc : eg_Lo} {st : List Value} {h : List eg_E}
theorem s_M_lowest_0 {x : Int64} {l : eg_Lo} : wps rm K Q c_M_lowest_0 kc ks (some (.long x) :: l) (st) h = wps rm K Q c_M_lowest_1 kc ks (some (.long x) :: l) (.long x :: st) h := rfl
theorem s_M_lowest_1 {x : Int64} {l0 l1 : Option Value} {l : eg_Lo} : wps rm K Q c_M_lowest_1 kc ks (l0 :: l1 :: some (.long x) :: l) (st) h = wps rm K Q c_M_lowest_2 kc ks (l0 :: l1 :: some (.long x) :: l) (.long x :: st) h := rfl
theorem s_M_lowest_2  {a1 : Value} {a2 : Value} : wps rm K Q c_M_lowest_2 kc ks loc (a2 :: a1 :: st) h = (st.length ≤ 4 ∧ eg_Cs n_M_common [a1, a2] h (fun v h9 => wps rm K Q c_M_lowest_5 kc ks loc (v.toList ++ st) h9)) := eg_c0_2
theorem s_M_lowest_5 {x : Int64} {l0 l1 l2 l3 : Option Value} {l : eg_Lo} : wps rm K Q c_M_lowest_5 kc ks (l0 :: l1 :: l2 :: l3 :: some (.long x) :: l) (st) h = wps rm K Q c_M_lowest_7 kc ks (l0 :: l1 :: l2 :: l3 :: some (.long x) :: l) (.long x :: st) h := rfl
theorem s_M_lowest_7  {a1 : Value} {a2 : Value} : wps rm K Q c_M_lowest_7 kc ks loc (a2 :: a1 :: st) h = (st.length ≤ 4 ∧ eg_Cs n_M_common [a1, a2] h (fun v h9 => wps rm K Q c_M_lowest_10 kc ks loc (v.toList ++ st) h9)) := eg_c0_2
theorem s_M_lowest_10 {x : Int64} : wps rm K Q c_M_lowest_10 kc ks loc (.long x :: st) h = wps rm K Q c_M_lowest_12 kc ks (eg_set2 loc 9 (.long x)) (st) h := rfl
theorem s_M_lowest_12 {x : Int64} {l0 l1 l2 l3 l4 l5 l6 l7 l8 : Option Value} {l : eg_Lo} : wps rm K Q c_M_lowest_12 kc ks (l0 :: l1 :: l2 :: l3 :: l4 :: l5 :: l6 :: l7 :: l8 :: some (.long x) :: l) (st) h = wps rm K Q c_M_lowest_14 kc ks (l0 :: l1 :: l2 :: l3 :: l4 :: l5 :: l6 :: l7 :: l8 :: some (.long x) :: l) (.long x :: st) h := rfl
theorem s_M_lowest_14  : wps rm K Q c_M_lowest_14 kc ks loc (st) h = wps rm K Q c_M_lowest_15 kc ks loc (.long (0) :: st) h := rfl
theorem s_M_lowest_15 {x y : Int64} : wps rm K Q c_M_lowest_15 kc ks loc (.long y :: .long x :: st) h = wps rm K Q c_M_lowest_16 kc ks loc (.int (lg_cmp x y) :: st) h := rfl
theorem s_M_lowest_16 {x : Int32} : wps rm K Q c_M_lowest_16 kc ks loc (.int x :: st) h = ((¬ x = 0 → K 23 kc ks loc st h) ∧ (x = 0 → wps rm K Q c_M_lowest_19 kc ks loc (st) h)) := rfl
theorem s_M_lowest_19  : wps rm K Q c_M_lowest_19 kc ks loc (st) h = wps rm K Q c_M_lowest_20 kc ks loc (.long (1) :: st) h := rfl
theorem s_M_lowest_20  : wps rm K Q c_M_lowest_20 kc ks loc (st) h = K 25 kc ks loc st h := rfl
theorem s_M_lowest_23 {x : Int64} {l0 l1 l2 l3 l4 l5 l6 l7 l8 : Option Value} {l : eg_Lo} : wps rm K Q c_M_lowest_23 kc ks (l0 :: l1 :: l2 :: l3 :: l4 :: l5 :: l6 :: l7 :: l8 :: some (.long x) :: l) (st) h = wps rm K Q c_M_lowest_25 kc ks (l0 :: l1 :: l2 :: l3 :: l4 :: l5 :: l6 :: l7 :: l8 :: some (.long x) :: l) (.long x :: st) h := rfl
theorem s_M_lowest_25 {x : Int64} : wps rm K Q c_M_lowest_25 kc ks loc (.long x :: st) h = wps rm K Q c_M_lowest_27 kc ks (eg_set2 loc 9 (.long x)) (st) h := rfl
theorem s_M_lowest_27 {x : Int64} {l : eg_Lo} : wps rm K Q c_M_lowest_27 kc ks (some (.long x) :: l) (st) h = wps rm K Q c_M_lowest_28 kc ks (some (.long x) :: l) (.long x :: st) h := rfl
theorem s_M_lowest_28  : wps rm K Q c_M_lowest_28 kc ks loc (st) h = wps rm K Q c_M_lowest_29 kc ks loc (.long (0) :: st) h := rfl
theorem s_M_lowest_29 {x y : Int64} : wps rm K Q c_M_lowest_29 kc ks loc (.long y :: .long x :: st) h = wps rm K Q c_M_lowest_30 kc ks loc (.int (lg_cmp x y) :: st) h := rfl
theorem s_M_lowest_30 {x : Int32} : wps rm K Q c_M_lowest_30 kc ks loc (.int x :: st) h = ((x = 0 → K 37 kc ks loc st h) ∧ (¬ x = 0 → wps rm K Q c_M_lowest_33 kc ks loc (st) h)) := rfl
theorem s_M_lowest_33 {x : Int64} {l : eg_Lo} : wps rm K Q c_M_lowest_33 kc ks (some (.long x) :: l) (st) h = wps rm K Q c_M_lowest_34 kc ks (some (.long x) :: l) (.long x :: st) h := rfl
theorem s_M_lowest_34  : wps rm K Q c_M_lowest_34 kc ks loc (st) h = K 49 kc ks loc st h := rfl
theorem s_M_lowest_37 {x : Int64} {l0 l1 : Option Value} {l : eg_Lo} : wps rm K Q c_M_lowest_37 kc ks (l0 :: l1 :: some (.long x) :: l) (st) h = wps rm K Q c_M_lowest_38 kc ks (l0 :: l1 :: some (.long x) :: l) (.long x :: st) h := rfl
theorem s_M_lowest_38  : wps rm K Q c_M_lowest_38 kc ks loc (st) h = wps rm K Q c_M_lowest_39 kc ks loc (.long (0) :: st) h := rfl
theorem s_M_lowest_39 {x y : Int64} : wps rm K Q c_M_lowest_39 kc ks loc (.long y :: .long x :: st) h = wps rm K Q c_M_lowest_40 kc ks loc (.int (lg_cmp x y) :: st) h := rfl
theorem s_M_lowest_40 {x : Int32} : wps rm K Q c_M_lowest_40 kc ks loc (.int x :: st) h = ((x = 0 → K 47 kc ks loc st h) ∧ (¬ x = 0 → wps rm K Q c_M_lowest_43 kc ks loc (st) h)) := rfl
theorem s_M_lowest_43 {x : Int64} {l0 l1 : Option Value} {l : eg_Lo} : wps rm K Q c_M_lowest_43 kc ks (l0 :: l1 :: some (.long x) :: l) (st) h = wps rm K Q c_M_lowest_44 kc ks (l0 :: l1 :: some (.long x) :: l) (.long x :: st) h := rfl
theorem s_M_lowest_44  : wps rm K Q c_M_lowest_44 kc ks loc (st) h = K 49 kc ks loc st h := rfl
theorem s_M_lowest_47 {x : Int64} {l0 l1 l2 l3 : Option Value} {l : eg_Lo} : wps rm K Q c_M_lowest_47 kc ks (l0 :: l1 :: l2 :: l3 :: some (.long x) :: l) (st) h = wps rm K Q c_M_lowest_49 kc ks (l0 :: l1 :: l2 :: l3 :: some (.long x) :: l) (.long x :: st) h := rfl
theorem s_M_lowest_49 {x : Int64} : wps rm K Q c_M_lowest_49 kc ks loc (.long x :: st) h = wps rm K Q c_M_lowest_51 kc ks (eg_set2 loc 11 (.long x)) (st) h := rfl
theorem s_M_lowest_51 {x : Int32} {l0 l1 l2 l3 l4 l5 l6 l7 : Option Value} {l : eg_Lo} : wps rm K Q c_M_lowest_51 kc ks (l0 :: l1 :: l2 :: l3 :: l4 :: l5 :: l6 :: l7 :: some (.int x) :: l) (st) h = wps rm K Q c_M_lowest_53 kc ks (l0 :: l1 :: l2 :: l3 :: l4 :: l5 :: l6 :: l7 :: some (.int x) :: l) (.int x :: st) h := rfl
theorem s_M_lowest_53 {x : Int32} : wps rm K Q c_M_lowest_53 kc ks loc (.int x :: st) h = ((x = 0 → K 69 kc ks loc st h) ∧ (¬ x = 0 → wps rm K Q c_M_lowest_56 kc ks loc (st) h)) := rfl
theorem s_M_lowest_56 {x : Int64} {l0 l1 l2 l3 l4 l5 l6 l7 l8 l9 l10 : Option Value} {l : eg_Lo} : wps rm K Q c_M_lowest_56 kc ks (l0 :: l1 :: l2 :: l3 :: l4 :: l5 :: l6 :: l7 :: l8 :: l9 :: l10 :: some (.long x) :: l) (st) h = wps rm K Q c_M_lowest_58 kc ks (l0 :: l1 :: l2 :: l3 :: l4 :: l5 :: l6 :: l7 :: l8 :: l9 :: l10 :: some (.long x) :: l) (.long x :: st) h := rfl
theorem s_M_lowest_58  : wps rm K Q c_M_lowest_58 kc ks loc (st) h = wps rm K Q c_M_lowest_59 kc ks loc (.long (0) :: st) h := rfl
theorem s_M_lowest_59 {x y : Int64} : wps rm K Q c_M_lowest_59 kc ks loc (.long y :: .long x :: st) h = wps rm K Q c_M_lowest_60 kc ks loc (.int (lg_cmp x y) :: st) h := rfl
theorem s_M_lowest_60 {x : Int32} : wps rm K Q c_M_lowest_60 kc ks loc (.int x :: st) h = ((0 ≤ x → K 69 kc ks loc st h) ∧ (¬ 0 ≤ x → wps rm K Q c_M_lowest_63 kc ks loc (st) h)) := rfl
theorem s_M_lowest_63 {x : Int64} {l0 l1 l2 l3 l4 l5 l6 l7 l8 : Option Value} {l : eg_Lo} : wps rm K Q c_M_lowest_63 kc ks (l0 :: l1 :: l2 :: l3 :: l4 :: l5 :: l6 :: l7 :: l8 :: some (.long x) :: l) (st) h = wps rm K Q c_M_lowest_65 kc ks (l0 :: l1 :: l2 :: l3 :: l4 :: l5 :: l6 :: l7 :: l8 :: some (.long x) :: l) (.long x :: st) h := rfl
theorem s_M_lowest_65 {x : Int64} : wps rm K Q c_M_lowest_65 kc ks loc (.long x :: st) h = wps rm K Q c_M_lowest_66 kc ks loc (.long (-x) :: st) h := rfl
theorem s_M_lowest_66  : wps rm K Q c_M_lowest_66 kc ks loc (st) h = K 71 kc ks loc st h := rfl
theorem s_M_lowest_69 {x : Int64} {l0 l1 l2 l3 l4 l5 l6 l7 l8 : Option Value} {l : eg_Lo} : wps rm K Q c_M_lowest_69 kc ks (l0 :: l1 :: l2 :: l3 :: l4 :: l5 :: l6 :: l7 :: l8 :: some (.long x) :: l) (st) h = wps rm K Q c_M_lowest_71 kc ks (l0 :: l1 :: l2 :: l3 :: l4 :: l5 :: l6 :: l7 :: l8 :: some (.long x) :: l) (.long x :: st) h := rfl
theorem s_M_lowest_71 {x : Int64} : wps rm K Q c_M_lowest_71 kc ks loc (.long x :: st) h = wps rm K Q c_M_lowest_73 kc ks (eg_set2 loc 9 (.long x)) (st) h := rfl
theorem s_M_lowest_73 {x : Nat} {l0 l1 l2 l3 l4 l5 : Option Value} {l : eg_Lo} : wps rm K Q c_M_lowest_73 kc ks (l0 :: l1 :: l2 :: l3 :: l4 :: l5 :: some (.ref x) :: l) (st) h = wps rm K Q c_M_lowest_75 kc ks (l0 :: l1 :: l2 :: l3 :: l4 :: l5 :: some (.ref x) :: l) (.ref x :: st) h := rfl
theorem s_M_lowest_75 {x : Int32} {l0 l1 l2 l3 l4 l5 l6 : Option Value} {l : eg_Lo} : wps rm K Q c_M_lowest_75 kc ks (l0 :: l1 :: l2 :: l3 :: l4 :: l5 :: l6 :: some (.int x) :: l) (st) h = wps rm K Q c_M_lowest_77 kc ks (l0 :: l1 :: l2 :: l3 :: l4 :: l5 :: l6 :: some (.int x) :: l) (.int x :: st) h := rfl
theorem s_M_lowest_77 {x : Int64} {l : eg_Lo} : wps rm K Q c_M_lowest_77 kc ks (some (.long x) :: l) (st) h = wps rm K Q c_M_lowest_78 kc ks (some (.long x) :: l) (.long x :: st) h := rfl
theorem s_M_lowest_78 {x : Int64} {l0 l1 l2 l3 l4 l5 l6 l7 l8 : Option Value} {l : eg_Lo} : wps rm K Q c_M_lowest_78 kc ks (l0 :: l1 :: l2 :: l3 :: l4 :: l5 :: l6 :: l7 :: l8 :: some (.long x) :: l) (st) h = wps rm K Q c_M_lowest_80 kc ks (l0 :: l1 :: l2 :: l3 :: l4 :: l5 :: l6 :: l7 :: l8 :: some (.long x) :: l) (.long x :: st) h := rfl
theorem s_M_lowest_80 {x y : Int64} : wps rm K Q c_M_lowest_80 kc ks loc (.long y :: .long x :: st) h = (¬ y = 0 ∧ wps rm K Q c_M_lowest_81 kc ks loc (.long (x / y) :: st) h) := rfl
theorem s_M_lowest_81 {x : Nat} {i : Int32} {v : Int64} : wps rm K Q c_M_lowest_81 kc ks loc (.long v :: .int i :: .ref (x + 1) :: st) h = eg_lst h x i v (fun h9 => wps rm K Q c_M_lowest_82 kc ks loc (st) h9) := rfl
theorem s_M_lowest_82 {x : Nat} {l0 l1 l2 l3 l4 l5 : Option Value} {l : eg_Lo} : wps rm K Q c_M_lowest_82 kc ks (l0 :: l1 :: l2 :: l3 :: l4 :: l5 :: some (.ref x) :: l) (st) h = wps rm K Q c_M_lowest_84 kc ks (l0 :: l1 :: l2 :: l3 :: l4 :: l5 :: some (.ref x) :: l) (.ref x :: st) h := rfl
theorem s_M_lowest_84 {x : Int32} {l0 l1 l2 l3 l4 l5 l6 : Option Value} {l : eg_Lo} : wps rm K Q c_M_lowest_84 kc ks (l0 :: l1 :: l2 :: l3 :: l4 :: l5 :: l6 :: some (.int x) :: l) (st) h = wps rm K Q c_M_lowest_86 kc ks (l0 :: l1 :: l2 :: l3 :: l4 :: l5 :: l6 :: some (.int x) :: l) (.int x :: st) h := rfl
theorem s_M_lowest_86  : wps rm K Q c_M_lowest_86 kc ks loc (st) h = wps rm K Q c_M_lowest_87 kc ks loc (.int (1) :: st) h := rfl
theorem s_M_lowest_87 {x y : Int32} : wps rm K Q c_M_lowest_87 kc ks loc (.int y :: .int x :: st) h = wps rm K Q c_M_lowest_88 kc ks loc (.int (x + y) :: st) h := rfl
theorem s_M_lowest_88 {x : Int64} {l0 l1 : Option Value} {l : eg_Lo} : wps rm K Q c_M_lowest_88 kc ks (l0 :: l1 :: some (.long x) :: l) (st) h = wps rm K Q c_M_lowest_89 kc ks (l0 :: l1 :: some (.long x) :: l) (.long x :: st) h := rfl
theorem s_M_lowest_89 {x : Int64} {l0 l1 l2 l3 l4 l5 l6 l7 l8 : Option Value} {l : eg_Lo} : wps rm K Q c_M_lowest_89 kc ks (l0 :: l1 :: l2 :: l3 :: l4 :: l5 :: l6 :: l7 :: l8 :: some (.long x) :: l) (st) h = wps rm K Q c_M_lowest_91 kc ks (l0 :: l1 :: l2 :: l3 :: l4 :: l5 :: l6 :: l7 :: l8 :: some (.long x) :: l) (.long x :: st) h := rfl
theorem s_M_lowest_91 {x y : Int64} : wps rm K Q c_M_lowest_91 kc ks loc (.long y :: .long x :: st) h = (¬ y = 0 ∧ wps rm K Q c_M_lowest_92 kc ks loc (.long (x / y) :: st) h) := rfl
theorem s_M_lowest_92 {x : Nat} {i : Int32} {v : Int64} : wps rm K Q c_M_lowest_92 kc ks loc (.long v :: .int i :: .ref (x + 1) :: st) h = eg_lst h x i v (fun h9 => wps rm K Q c_M_lowest_93 kc ks loc (st) h9) := rfl
theorem s_M_lowest_93 {x : Nat} {l0 l1 l2 l3 l4 l5 : Option Value} {l : eg_Lo} : wps rm K Q c_M_lowest_93 kc ks (l0 :: l1 :: l2 :: l3 :: l4 :: l5 :: some (.ref x) :: l) (st) h = wps rm K Q c_M_lowest_95 kc ks (l0 :: l1 :: l2 :: l3 :: l4 :: l5 :: some (.ref x) :: l) (.ref x :: st) h := rfl
theorem s_M_lowest_95 {x : Int32} {l0 l1 l2 l3 l4 l5 l6 : Option Value} {l : eg_Lo} : wps rm K Q c_M_lowest_95 kc ks (l0 :: l1 :: l2 :: l3 :: l4 :: l5 :: l6 :: some (.int x) :: l) (st) h = wps rm K Q c_M_lowest_97 kc ks (l0 :: l1 :: l2 :: l3 :: l4 :: l5 :: l6 :: some (.int x) :: l) (.int x :: st) h := rfl
theorem s_M_lowest_97  : wps rm K Q c_M_lowest_97 kc ks loc (st) h = wps rm K Q c_M_lowest_98 kc ks loc (.int (2) :: st) h := rfl
theorem s_M_lowest_98 {x y : Int32} : wps rm K Q c_M_lowest_98 kc ks loc (.int y :: .int x :: st) h = wps rm K Q c_M_lowest_99 kc ks loc (.int (x + y) :: st) h := rfl
theorem s_M_lowest_99 {x : Int64} {l0 l1 l2 l3 : Option Value} {l : eg_Lo} : wps rm K Q c_M_lowest_99 kc ks (l0 :: l1 :: l2 :: l3 :: some (.long x) :: l) (st) h = wps rm K Q c_M_lowest_101 kc ks (l0 :: l1 :: l2 :: l3 :: some (.long x) :: l) (.long x :: st) h := rfl
theorem s_M_lowest_101 {x : Int64} {l0 l1 l2 l3 l4 l5 l6 l7 l8 : Option Value} {l : eg_Lo} : wps rm K Q c_M_lowest_101 kc ks (l0 :: l1 :: l2 :: l3 :: l4 :: l5 :: l6 :: l7 :: l8 :: some (.long x) :: l) (st) h = wps rm K Q c_M_lowest_103 kc ks (l0 :: l1 :: l2 :: l3 :: l4 :: l5 :: l6 :: l7 :: l8 :: some (.long x) :: l) (.long x :: st) h := rfl
theorem s_M_lowest_103 {x y : Int64} : wps rm K Q c_M_lowest_103 kc ks loc (.long y :: .long x :: st) h = (¬ y = 0 ∧ wps rm K Q c_M_lowest_104 kc ks loc (.long (x / y) :: st) h) := rfl
theorem s_M_lowest_104 {x : Nat} {i : Int32} {v : Int64} : wps rm K Q c_M_lowest_104 kc ks loc (.long v :: .int i :: .ref (x + 1) :: st) h = eg_lst h x i v (fun h9 => wps rm K Q c_M_lowest_105 kc ks loc (st) h9) := rfl
theorem s_M_lowest_105  : wps rm K Q c_M_lowest_105 kc ks loc ([]) h = (kc = rm.cells ∧ Q none h) := rfl
def T_M_lowest : List (Nat × List eg_I) := [(23, c_M_lowest_23), (25, c_M_lowest_25), (37, c_M_lowest_37), (47, c_M_lowest_47), (49, c_M_lowest_49), (69, c_M_lowest_69), (71, c_M_lowest_71)]
theorem j_M_lowest_23 {R : Nat → Nat → Nat → eg_Lo → List Value → List eg_E → Prop} {f pc0 : Nat} : eg_run rm R Q T_M_lowest (f + 1) 23 kc ks loc st h = wps rm (eg_run rm R Q T_M_lowest f) Q c_M_lowest_23 kc ks loc st h := rfl
theorem j_M_lowest_25 {R : Nat → Nat → Nat → eg_Lo → List Value → List eg_E → Prop} {f pc0 : Nat} : eg_run rm R Q T_M_lowest (f + 1) 25 kc ks loc st h = wps rm (eg_run rm R Q T_M_lowest f) Q c_M_lowest_25 kc ks loc st h := rfl
theorem j_M_lowest_37 {R : Nat → Nat → Nat → eg_Lo → List Value → List eg_E → Prop} {f pc0 : Nat} : eg_run rm R Q T_M_lowest (f + 1) 37 kc ks loc st h = wps rm (eg_run rm R Q T_M_lowest f) Q c_M_lowest_37 kc ks loc st h := rfl
theorem j_M_lowest_47 {R : Nat → Nat → Nat → eg_Lo → List Value → List eg_E → Prop} {f pc0 : Nat} : eg_run rm R Q T_M_lowest (f + 1) 47 kc ks loc st h = wps rm (eg_run rm R Q T_M_lowest f) Q c_M_lowest_47 kc ks loc st h := rfl
theorem j_M_lowest_49 {R : Nat → Nat → Nat → eg_Lo → List Value → List eg_E → Prop} {f pc0 : Nat} : eg_run rm R Q T_M_lowest (f + 1) 49 kc ks loc st h = wps rm (eg_run rm R Q T_M_lowest f) Q c_M_lowest_49 kc ks loc st h := rfl
theorem j_M_lowest_69 {R : Nat → Nat → Nat → eg_Lo → List Value → List eg_E → Prop} {f pc0 : Nat} : eg_run rm R Q T_M_lowest (f + 1) 69 kc ks loc st h = wps rm (eg_run rm R Q T_M_lowest f) Q c_M_lowest_69 kc ks loc st h := rfl
theorem j_M_lowest_71 {R : Nat → Nat → Nat → eg_Lo → List Value → List eg_E → Prop} {f pc0 : Nat} : eg_run rm R Q T_M_lowest (f + 1) 71 kc ks loc st h = wps rm (eg_run rm R Q T_M_lowest f) Q c_M_lowest_71 kc ks loc st h := rfl
end
theorem q_M_lowest : (T_M_lowest.all fun q => eg_seq m_M_lowest q.1 q.2) = true := by decide +kernel
theorem b_M_lowest {as : List Value} {h : List eg_E} {Q : Option Value → List eg_E → Prop} (hf : (eg_fl as).length ≤ 13) (hw : wps (eg_rm m_M_lowest) (eg_run (eg_rm m_M_lowest) (eg_R m_M_lowest Q (h.length + 0)) Q T_M_lowest 9) Q c_M_lowest_0 0 0 (eg_entry 13 as) [] h) : eg_Runs n_M_lowest as h Q := eg_begin (d := m_M_lowest) rfl (by decide) (by decide +kernel) q_M_lowest hf hw
/-! ===== M_crosses ===== -/
def c_M_crosses_173 : List eg_I := .inl (173, 1, .return_, 0, 0) :: []
def c_M_crosses_170 : List eg_I := .inl (170, 3, .goto (-150), 20, 0) :: []
def c_M_crosses_167 : List eg_I := .inl (167, 3, .iinc 10 (1), 0, 0) :: c_M_crosses_170
def c_M_crosses_164 : List eg_I := .inl (164, 3, .putfield 176, 12, 32) :: c_M_crosses_167
def c_M_crosses_162 : List eg_I := .inl (162, 2, .iload 10, 0, 0) :: c_M_crosses_164
def c_M_crosses_161 : List eg_I := .inl (161, 1, .aload 0, 0, 0) :: c_M_crosses_162
def c_M_crosses_158 : List eg_I := .inl (158, 3, .putfield 182, 12, 30) :: c_M_crosses_161
def c_M_crosses_156 : List eg_I := .inl (156, 2, .lload 12, 0, 0) :: c_M_crosses_158
def c_M_crosses_155 : List eg_I := .inl (155, 1, .aload 0, 0, 0) :: c_M_crosses_156
def c_M_crosses_152 : List eg_I := .inl (152, 3, .ifCond .ge (15), 167, 0) :: c_M_crosses_155
def c_M_crosses_151 : List eg_I := .inl (151, 1, .lcmp, 0, 0) :: c_M_crosses_152
def c_M_crosses_148 : List eg_I := .inl (148, 3, .getfield 182, 12, 30) :: c_M_crosses_151
def c_M_crosses_147 : List eg_I := .inl (147, 1, .aload 0, 0, 0) :: c_M_crosses_148
def c_M_crosses_145 : List eg_I := .inl (145, 2, .lload 12, 0, 0) :: c_M_crosses_147
def c_M_crosses_142 : List eg_I := .inl (142, 3, .ifCond .lt (13), 155, 0) :: c_M_crosses_145
def c_M_crosses_139 : List eg_I := .inl (139, 3, .getfield 176, 12, 32) :: c_M_crosses_142
def c_M_crosses_138 : List eg_I := .inl (138, 1, .aload 0, 0, 0) :: c_M_crosses_139
def c_M_crosses_135 : List eg_I := .inl (135, 3, .putfield 172, 12, 31) :: c_M_crosses_138
def c_M_crosses_133 : List eg_I := .inl (133, 2, .iload 10, 0, 0) :: c_M_crosses_135
def c_M_crosses_132 : List eg_I := .inl (132, 1, .aload 0, 0, 0) :: c_M_crosses_133
def c_M_crosses_129 : List eg_I := .inl (129, 3, .putfield 179, 12, 29) :: c_M_crosses_132
def c_M_crosses_127 : List eg_I := .inl (127, 2, .lload 12, 0, 0) :: c_M_crosses_129
def c_M_crosses_126 : List eg_I := .inl (126, 1, .aload 0, 0, 0) :: c_M_crosses_127
def c_M_crosses_123 : List eg_I := .inl (123, 3, .ifCond .le (15), 138, 0) :: c_M_crosses_126
def c_M_crosses_122 : List eg_I := .inl (122, 1, .lcmp, 0, 0) :: c_M_crosses_123
def c_M_crosses_119 : List eg_I := .inl (119, 3, .getfield 179, 12, 29) :: c_M_crosses_122
def c_M_crosses_118 : List eg_I := .inl (118, 1, .aload 0, 0, 0) :: c_M_crosses_119
def c_M_crosses_116 : List eg_I := .inl (116, 2, .lload 12, 0, 0) :: c_M_crosses_118
def c_M_crosses_113 : List eg_I := .inl (113, 3, .ifCond .lt (13), 126, 0) :: c_M_crosses_116
def c_M_crosses_110 : List eg_I := .inl (110, 3, .getfield 172, 12, 31) :: c_M_crosses_113
def c_M_crosses_109 : List eg_I := .inl (109, 1, .aload 0, 0, 0) :: c_M_crosses_110
def c_M_crosses_107 : List eg_I := .inl (107, 2, .lstore 12, 0, 0) :: c_M_crosses_109
def c_M_crosses_106 : List eg_I := .inl (106, 1, .ladd, 0, 0) :: c_M_crosses_107
def c_M_crosses_105 : List eg_I := .inl (105, 1, .lmul, 0, 0) :: c_M_crosses_106
def c_M_crosses_104 : List eg_I := .inl (104, 1, .i2l, 0, 0) :: c_M_crosses_105
def c_M_crosses_103 : List eg_I := .inl (103, 1, .isub, 0, 0) :: c_M_crosses_104
def c_M_crosses_102 : List eg_I := .inl (102, 1, .iaload, 0, 0) :: c_M_crosses_103
def c_M_crosses_100 : List eg_I := .inl (100, 2, .iload 9, 0, 0) :: c_M_crosses_102
def c_M_crosses_97 : List eg_I := .inl (97, 3, .getfield 19, 12, 3) :: c_M_crosses_100
def c_M_crosses_96 : List eg_I := .inl (96, 1, .aload 0, 0, 0) :: c_M_crosses_97
def c_M_crosses_95 : List eg_I := .inl (95, 1, .iaload, 0, 0) :: c_M_crosses_96
def c_M_crosses_93 : List eg_I := .inl (93, 2, .iload 11, 0, 0) :: c_M_crosses_95
def c_M_crosses_90 : List eg_I := .inl (90, 3, .getfield 19, 12, 3) :: c_M_crosses_93
def c_M_crosses_89 : List eg_I := .inl (89, 1, .aload 0, 0, 0) :: c_M_crosses_90
def c_M_crosses_87 : List eg_I := .inl (87, 2, .lload 7, 0, 0) :: c_M_crosses_89
def c_M_crosses_86 : List eg_I := .inl (86, 1, .ladd, 0, 0) :: c_M_crosses_87
def c_M_crosses_85 : List eg_I := .inl (85, 1, .lmul, 0, 0) :: c_M_crosses_86
def c_M_crosses_84 : List eg_I := .inl (84, 1, .i2l, 0, 0) :: c_M_crosses_85
def c_M_crosses_83 : List eg_I := .inl (83, 1, .isub, 0, 0) :: c_M_crosses_84
def c_M_crosses_82 : List eg_I := .inl (82, 1, .iaload, 0, 0) :: c_M_crosses_83
def c_M_crosses_80 : List eg_I := .inl (80, 2, .iload 9, 0, 0) :: c_M_crosses_82
def c_M_crosses_77 : List eg_I := .inl (77, 3, .getfield 16, 12, 2) :: c_M_crosses_80
def c_M_crosses_76 : List eg_I := .inl (76, 1, .aload 0, 0, 0) :: c_M_crosses_77
def c_M_crosses_75 : List eg_I := .inl (75, 1, .iaload, 0, 0) :: c_M_crosses_76
def c_M_crosses_73 : List eg_I := .inl (73, 2, .iload 11, 0, 0) :: c_M_crosses_75
def c_M_crosses_70 : List eg_I := .inl (70, 3, .getfield 16, 12, 2) :: c_M_crosses_73
def c_M_crosses_69 : List eg_I := .inl (69, 1, .aload 0, 0, 0) :: c_M_crosses_70
def c_M_crosses_67 : List eg_I := .inl (67, 2, .lload 5, 0, 0) :: c_M_crosses_69
def c_M_crosses_66 : List eg_I := .inl (66, 1, .lmul, 0, 0) :: c_M_crosses_67
def c_M_crosses_65 : List eg_I := .inl (65, 1, .i2l, 0, 0) :: c_M_crosses_66
def c_M_crosses_64 : List eg_I := .inl (64, 1, .isub, 0, 0) :: c_M_crosses_65
def c_M_crosses_63 : List eg_I := .inl (63, 1, .iaload, 0, 0) :: c_M_crosses_64
def c_M_crosses_61 : List eg_I := .inl (61, 2, .iload 9, 0, 0) :: c_M_crosses_63
def c_M_crosses_58 : List eg_I := .inl (58, 3, .getfield 13, 12, 1) :: c_M_crosses_61
def c_M_crosses_57 : List eg_I := .inl (57, 1, .aload 0, 0, 0) :: c_M_crosses_58
def c_M_crosses_56 : List eg_I := .inl (56, 1, .iaload, 0, 0) :: c_M_crosses_57
def c_M_crosses_54 : List eg_I := .inl (54, 2, .iload 11, 0, 0) :: c_M_crosses_56
def c_M_crosses_51 : List eg_I := .inl (51, 3, .getfield 13, 12, 1) :: c_M_crosses_54
def c_M_crosses_50 : List eg_I := .inl (50, 1, .aload 0, 0, 0) :: c_M_crosses_51
def c_M_crosses_49 : List eg_I := .inl (49, 1, .lload 3, 0, 0) :: c_M_crosses_50
def c_M_crosses_46 : List eg_I := .inl (46, 3, .ifCond .ne (121), 167, 0) :: c_M_crosses_49
def c_M_crosses_45 : List eg_I := .inl (45, 1, .baload, 0, 0) :: c_M_crosses_46
def c_M_crosses_43 : List eg_I := .inl (43, 2, .iload 11, 0, 0) :: c_M_crosses_45
def c_M_crosses_40 : List eg_I := .inl (40, 3, .getfield 22, 12, 4) :: c_M_crosses_43
def c_M_crosses_39 : List eg_I := .inl (39, 1, .aload 0, 0, 0) :: c_M_crosses_40
def c_M_crosses_37 : List eg_I := .inl (37, 2, .istore 11, 0, 0) :: c_M_crosses_39
def c_M_crosses_34 : List eg_I := .inr (34, 0, 103, n_M_at_II, 2, 12, 0, 0) :: c_M_crosses_37
def c_M_crosses_32 : List eg_I := .inl (32, 2, .iload 10, 0, 0) :: c_M_crosses_34
def c_M_crosses_31 : List eg_I := .inl (31, 1, .iload 1, 0, 0) :: c_M_crosses_32
def c_M_crosses_28 : List eg_I := .inl (28, 3, .if_icmp .ge (145), 173, 0) :: c_M_crosses_31
def c_M_crosses_27 : List eg_I := .inl (27, 1, .iaload, 0, 0) :: c_M_crosses_28
def c_M_crosses_26 : List eg_I := .inl (26, 1, .iload 1, 0, 0) :: c_M_crosses_27
def c_M_crosses_23 : List eg_I := .inl (23, 3, .getfield 9, 12, 0) :: c_M_crosses_26
def c_M_crosses_22 : List eg_I := .inl (22, 1, .aload 0, 0, 0) :: c_M_crosses_23
def c_M_crosses_20 : List eg_I := .inl (20, 2, .iload 10, 0, 0) :: c_M_crosses_22
def c_M_crosses_18 : List eg_I := .inl (18, 2, .istore 10, 0, 0) :: [.inl (20, 0, .nop, 0, 0)]
def c_M_crosses_17 : List eg_I := .inl (17, 1, .iconst (0), 0, 0) :: c_M_crosses_18
def c_M_crosses_15 : List eg_I := .inl (15, 2, .istore 9, 0, 0) :: c_M_crosses_17
def c_M_crosses_12 : List eg_I := .inr (12, 0, 103, n_M_at_II, 2, 12, 0, 0) :: c_M_crosses_15
def c_M_crosses_11 : List eg_I := .inl (11, 1, .iload 2, 0, 0) :: c_M_crosses_12
def c_M_crosses_10 : List eg_I := .inl (10, 1, .iload 1, 0, 0) :: c_M_crosses_11
def c_M_crosses_7 : List eg_I := .inl (7, 3, .putfield 176, 12, 32) :: c_M_crosses_10
def c_M_crosses_6 : List eg_I := .inl (6, 1, .iconst (-1), 0, 0) :: c_M_crosses_7
def c_M_crosses_5 : List eg_I := .inl (5, 1, .aload 0, 0, 0) :: c_M_crosses_6
def c_M_crosses_2 : List eg_I := .inl (2, 3, .putfield 172, 12, 31) :: c_M_crosses_5
def c_M_crosses_1 : List eg_I := .inl (1, 1, .iconst (-1), 0, 0) :: c_M_crosses_2
def c_M_crosses_0 : List eg_I := .inl (0, 1, .aload 0, 0, 0) :: c_M_crosses_1
section
variable {rm : Room} {K : Nat → Nat → Nat → eg_Lo → List Value → List eg_E → Prop} {Q : Option Value → List eg_E → Prop} {kc ks : Nat} {loc : eg_Lo} {st : List Value} {h : List eg_E}
theorem s_M_crosses_0 {x : Nat} {l : eg_Lo} : wps rm K Q c_M_crosses_0 kc ks (some (.ref x) :: l) (st) h = wps rm K Q c_M_crosses_1 kc ks (some (.ref x) :: l) (.ref x :: st) h := rfl
theorem s_M_crosses_1  : wps rm K Q c_M_crosses_1 kc ks loc (st) h = wps rm K Q c_M_crosses_2 kc ks loc (.int (-1) :: st) h := rfl
theorem s_M_crosses_2 {x : Nat} {v : Value} : wps rm K Q c_M_crosses_2 kc ks loc (v :: .ref (x + 1) :: st) h = eg_pf h x 12 31 v (fun h9 => wps rm K Q c_M_crosses_5 kc ks loc (st) h9) := rfl
theorem s_M_crosses_5 {x : Nat} {l : eg_Lo} : wps rm K Q c_M_crosses_5 kc ks (some (.ref x) :: l) (st) h = wps rm K Q c_M_crosses_6 kc ks (some (.ref x) :: l) (.ref x :: st) h := rfl
theorem s_M_crosses_6  : wps rm K Q c_M_crosses_6 kc ks loc (st) h = wps rm K Q c_M_crosses_7 kc ks loc (.int (-1) :: st) h := rfl
theorem s_M_crosses_7 {x : Nat} {v : Value} : wps rm K Q c_M_crosses_7 kc ks loc (v :: .ref (x + 1) :: st) h = eg_pf h x 12 32 v (fun h9 => wps rm K Q c_M_crosses_10 kc ks loc (st) h9) := rfl
theorem s_M_crosses_10 {x : Int32} {l0 : Option Value} {l : eg_Lo} : wps rm K Q c_M_crosses_10 kc ks (l0 :: some (.int x) :: l) (st) h = wps rm K Q c_M_crosses_11 kc ks (l0 :: some (.int x) :: l) (.int x :: st) h := rfl
theorem s_M_crosses_11 {x : Int32} {l0 l1 : Option Value} {l : eg_Lo} : wps rm K Q c_M_crosses_11 kc ks (l0 :: l1 :: some (.int x) :: l) (st) h = wps rm K Q c_M_crosses_12 kc ks (l0 :: l1 :: some (.int x) :: l) (.int x :: st) h := rfl
theorem s_M_crosses_12  {a1 : Value} {a2 : Value} : wps rm K Q c_M_crosses_12 kc ks loc (a2 :: a1 :: st) h = (st.length ≤ 4 ∧ eg_Cs n_M_at_II [a1, a2] h (fun v h9 => wps rm K Q c_M_crosses_15 kc ks loc (v.toList ++ st) h9)) := eg_c0_2
theorem s_M_crosses_15 {x : Int32} : wps rm K Q c_M_crosses_15 kc ks loc (.int x :: st) h = wps rm K Q c_M_crosses_17 kc ks (eg_set1 loc 9 (.int x)) (st) h := rfl
theorem s_M_crosses_17  : wps rm K Q c_M_crosses_17 kc ks loc (st) h = wps rm K Q c_M_crosses_18 kc ks loc (.int (0) :: st) h := rfl
theorem s_M_crosses_18 {x : Int32} : wps rm K Q c_M_crosses_18 kc ks loc (.int x :: st) h = K 20 kc ks (eg_set1 loc 10 (.int x)) (st) h := rfl
theorem s_M_crosses_20 {x : Int32} {l0 l1 l2 l3 l4 l5 l6 l7 l8 l9 : Option Value} {l : eg_Lo} : wps rm K Q c_M_crosses_20 kc ks (l0 :: l1 :: l2 :: l3 :: l4 :: l5 :: l6 :: l7 :: l8 :: l9 :: some (.int x) :: l) (st) h = wps rm K Q c_M_crosses_22 kc ks (l0 :: l1 :: l2 :: l3 :: l4 :: l5 :: l6 :: l7 :: l8 :: l9 :: some (.int x) :: l) (.int x :: st) h := rfl
theorem s_M_crosses_22 {x : Nat} {l : eg_Lo} : wps rm K Q c_M_crosses_22 kc ks (some (.ref x) :: l) (st) h = wps rm K Q c_M_crosses_23 kc ks (some (.ref x) :: l) (.ref x :: st) h := rfl
theorem s_M_crosses_23 {x : Nat} : wps rm K Q c_M_crosses_23 kc ks loc (.ref (x + 1) :: st) h = eg_gf h x 12 0 (fun v => wps rm K Q c_M_crosses_26 kc ks loc (v :: st) h) := rfl
theorem s_M_crosses_26 {x : Int32} {l0 : Option Value} {l : eg_Lo} : wps rm K Q c_M_crosses_26 kc ks (l0 :: some (.int x) :: l) (st) h = wps rm K Q c_M_crosses_27 kc ks (l0 :: some (.int x) :: l) (.int x :: st) h := rfl
theorem s_M_crosses_27 {x : Nat} {i : Int32} : wps rm K Q c_M_crosses_27 kc ks loc (.int i :: .ref (x + 1) :: st) h = eg_ia h x i (fun v => wps rm K Q c_M_crosses_28 kc ks loc (.int v :: st) h) := rfl
theorem s_M_crosses_28 {x y : Int32} : wps rm K Q c_M_crosses_28 kc ks loc (.int y :: .int x :: st) h = ((y ≤ x → K 173 kc ks loc st h) ∧ (¬ y ≤ x → wps rm K Q c_M_crosses_31 kc ks loc (st) h)) := rfl
theorem s_M_crosses_31 {x : Int32} {l0 : Option Value} {l : eg_Lo} : wps rm K Q c_M_crosses_31 kc ks (l0 :: some (.int x) :: l) (st) h = wps rm K Q c_M_crosses_32 kc ks (l0 :: some (.int x) :: l) (.int x :: st) h := rfl
theorem s_M_crosses_32 {x : Int32} {l0 l1 l2 l3 l4 l5 l6 l7 l8 l9 : Option Value} {l : eg_Lo} : wps rm K Q c_M_crosses_32 kc ks (l0 :: l1 :: l2 :: l3 :: l4 :: l5 :: l6 :: l7 :: l8 :: l9 :: some (.int x) :: l) (st) h = wps rm K Q c_M_crosses_34 kc ks (l0 :: l1 :: l2 :: l3 :: l4 :: l5 :: l6 :: l7 :: l8 :: l9 :: some (.int x) :: l) (.int x :: st) h := rfl
theorem s_M_crosses_34  {a1 : Value} {a2 : Value} : wps rm K Q c_M_crosses_34 kc ks loc (a2 :: a1 :: st) h = (st.length ≤ 4 ∧ eg_Cs n_M_at_II [a1, a2] h (fun v h9 => wps rm K Q c_M_crosses_37 kc ks loc (v.toList ++ st) h9)) := eg_c0_2
theorem s_M_crosses_37 {x : Int32} : wps rm K Q c_M_crosses_37 kc ks loc (.int x :: st) h = wps rm K Q c_M_crosses_39 kc ks (eg_set1 loc 11 (.int x)) (st) h := rfl
theorem s_M_crosses_39 {x : Nat} {l : eg_Lo} : wps rm K Q c_M_crosses_39 kc ks (some (.ref x) :: l) (st) h = wps rm K Q c_M_crosses_40 kc ks (some (.ref x) :: l) (.ref x :: st) h := rfl
theorem s_M_crosses_40 {x : Nat} : wps rm K Q c_M_crosses_40 kc ks loc (.ref (x + 1) :: st) h = eg_gf h x 12 4 (fun v => wps rm K Q c_M_crosses_43 kc ks loc (v :: st) h) := rfl
theorem s_M_crosses_43 {x : Int32} {l0 l1 l2 l3 l4 l5 l6 l7 l8 l9 l10 : Option Value} {l : eg_Lo} : wps rm K Q c_M_crosses_43 kc ks (l0 :: l1 :: l2 :: l3 :: l4 :: l5 :: l6 :: l7 :: l8 :: l9 :: l10 :: some (.int x) :: l) (st) h = wps rm K Q c_M_crosses_45 kc ks (l0 :: l1 :: l2 :: l3 :: l4 :: l5 :: l6 :: l7 :: l8 :: l9 :: l10 :: some (.int x) :: l) (.int x :: st) h := rfl
theorem s_M_crosses_45 {x : Nat} {i : Int32} : wps rm K Q c_M_crosses_45 kc ks loc (.int i :: .ref (x + 1) :: st) h = eg_ba h x i (fun v => wps rm K Q c_M_crosses_46 kc ks loc (.int v :: st) h) := rfl
theorem s_M_crosses_46 {x : Int32} : wps rm K Q c_M_crosses_46 kc ks loc (.int x :: st) h = ((¬ x = 0 → K 167 kc ks loc st h) ∧ (x = 0 → wps rm K Q c_M_crosses_49 kc ks loc (st) h)) := rfl
theorem s_M_crosses_49 {x : Int64} {l0 l1 l2 : Option Value} {l : eg_Lo} : wps rm K Q c_M_crosses_49 kc ks (l0 :: l1 :: l2 :: some (.long x) :: l) (st) h = wps rm K Q c_M_crosses_50 kc ks (l0 :: l1 :: l2 :: some (.long x) :: l) (.long x :: st) h := rfl
theorem s_M_crosses_50 {x : Nat} {l : eg_Lo} : wps rm K Q c_M_crosses_50 kc ks (some (.ref x) :: l) (st) h = wps rm K Q c_M_crosses_51 kc ks (some (.ref x) :: l) (.ref x :: st) h := rfl
theorem s_M_crosses_51 {x : Nat} : wps rm K Q c_M_crosses_51 kc ks loc (.ref (x + 1) :: st) h = eg_gf h x 12 1 (fun v => wps rm K Q c_M_crosses_54 kc ks loc (v :: st) h) := rfl
theorem s_M_crosses_54 {x : Int32} {l0 l1 l2 l3 l4 l5 l6 l7 l8 l9 l10 : Option Value} {l : eg_Lo} : wps rm K Q c_M_crosses_54 kc ks (l0 :: l1 :: l2 :: l3 :: l4 :: l5 :: l6 :: l7 :: l8 :: l9 :: l10 :: some (.int x) :: l) (st) h = wps rm K Q c_M_crosses_56 kc ks (l0 :: l1 :: l2 :: l3 :: l4 :: l5 :: l6 :: l7 :: l8 :: l9 :: l10 :: some (.int x) :: l) (.int x :: st) h := rfl
theorem s_M_crosses_56 {x : Nat} {i : Int32} : wps rm K Q c_M_crosses_56 kc ks loc (.int i :: .ref (x + 1) :: st) h = eg_ia h x i (fun v => wps rm K Q c_M_crosses_57 kc ks loc (.int v :: st) h) := rfl
theorem s_M_crosses_57 {x : Nat} {l : eg_Lo} : wps rm K Q c_M_crosses_57 kc ks (some (.ref x) :: l) (st) h = wps rm K Q c_M_crosses_58 kc ks (some (.ref x) :: l) (.ref x :: st) h := rfl
theorem s_M_crosses_58 {x : Nat} : wps rm K Q c_M_crosses_58 kc ks loc (.ref (x + 1) :: st) h = eg_gf h x 12 1 (fun v => wps rm K Q c_M_crosses_61 kc ks loc (v :: st) h) := rfl
theorem s_M_crosses_61 {x : Int32} {l0 l1 l2 l3 l4 l5 l6 l7 l8 : Option Value} {l : eg_Lo} : wps rm K Q c_M_crosses_61 kc ks (l0 :: l1 :: l2 :: l3 :: l4 :: l5 :: l6 :: l7 :: l8 :: some (.int x) :: l) (st) h = wps rm K Q c_M_crosses_63 kc ks (l0 :: l1 :: l2 :: l3 :: l4 :: l5 :: l6 :: l7 :: l8 :: some (.int x) :: l) (.int x :: st) h := rfl
theorem s_M_crosses_63 {x : Nat} {i : Int32} : wps rm K Q c_M_crosses_63 kc ks loc (.int i :: .ref (x + 1) :: st) h = eg_ia h x i (fun v => wps rm K Q c_M_crosses_64 kc ks loc (.int v :: st) h) := rfl
theorem s_M_crosses_64 {x y : Int32} : wps rm K Q c_M_crosses_64 kc ks loc (.int y :: .int x :: st) h = wps rm K Q c_M_crosses_65 kc ks loc (.int (x - y) :: st) h := rfl
theorem s_M_crosses_65 {x : Int32} : wps rm K Q c_M_crosses_65 kc ks loc (.int x :: st) h = wps rm K Q c_M_crosses_66 kc ks loc (.long (x.toInt64) :: st) h := rfl
theorem s_M_crosses_66 {x y : Int64} : wps rm K Q c_M_crosses_66 kc ks loc (.long y :: .long x :: st) h = wps rm K Q c_M_crosses_67 kc ks loc (.long (x * y) :: st) h := rfl
theorem s_M_crosses_67 {x : Int64} {l0 l1 l2 l3 l4 : Option Value} {l : eg_Lo} : wps rm K Q c_M_crosses_67 kc ks (l0 :: l1 :: l2 :: l3 :: l4 :: some (.long x) :: l) (st) h = wps rm K Q c_M_crosses_69 kc ks (l0 :: l1 :: l2 :: l3 :: l4 :: some (.long x) :: l) (.long x :: st) h := rfl
theorem s_M_crosses_69 {x : Nat} {l : eg_Lo} : wps rm K Q c_M_crosses_69 kc ks (some (.ref x) :: l) (st) h = wps rm K Q c_M_crosses_70 kc ks (some (.ref x) :: l) (.ref x :: st) h := rfl
theorem s_M_crosses_70 {x : Nat} : wps rm K Q c_M_crosses_70 kc ks loc (.ref (x + 1) :: st) h = eg_gf h x 12 2 (fun v => wps rm K Q c_M_crosses_73 kc ks loc (v :: st) h) := rfl
theorem s_M_crosses_73 {x : Int32} {l0 l1 l2 l3 l4 l5 l6 l7 l8 l9 l10 : Option Value} {l : eg_Lo} : wps rm K Q c_M_crosses_73 kc ks (l0 :: l1 :: l2 :: l3 :: l4 :: l5 :: l6 :: l7 :: l8 :: l9 :: l10 :: some (.int x) :: l) (st) h = wps rm K Q c_M_crosses_75 kc ks (l0 :: l1 :: l2 :: l3 :: l4 :: l5 :: l6 :: l7 :: l8 :: l9 :: l10 :: some (.int x) :: l) (.int x :: st) h := rfl
theorem s_M_crosses_75 {x : Nat} {i : Int32} : wps rm K Q c_M_crosses_75 kc ks loc (.int i :: .ref (x + 1) :: st) h = eg_ia h x i (fun v => wps rm K Q c_M_crosses_76 kc ks loc (.int v :: st) h) := rfl
theorem s_M_crosses_76 {x : Nat} {l : eg_Lo} : wps rm K Q c_M_crosses_76 kc ks (some (.ref x) :: l) (st) h = wps rm K Q c_M_crosses_77 kc ks (some (.ref x) :: l) (.ref x :: st) h := rfl
theorem s_M_crosses_77 {x : Nat} : wps rm K Q c_M_crosses_77 kc ks loc (.ref (x + 1) :: st) h = eg_gf h x 12 2 (fun v => wps rm K Q c_M_crosses_80 kc ks loc (v :: st) h) := rfl
theorem s_M_crosses_80 {x : Int32} {l0 l1 l2 l3 l4 l5 l6 l7 l8 : Option Value} {l : eg_Lo} : wps rm K Q c_M_crosses_80 kc ks (l0 :: l1 :: l2 :: l3 :: l4 :: l5 :: l6 :: l7 :: l8 :: some (.int x) :: l) (st) h = wps rm K Q c_M_crosses_82 kc ks (l0 :: l1 :: l2 :: l3 :: l4 :: l5 :: l6 :: l7 :: l8 :: some (.int x) :: l) (.int x :: st) h := rfl
theorem s_M_crosses_82 {x : Nat} {i : Int32} : wps rm K Q c_M_crosses_82 kc ks loc (.int i :: .ref (x + 1) :: st) h = eg_ia h x i (fun v => wps rm K Q c_M_crosses_83 kc ks loc (.int v :: st) h) := rfl
theorem s_M_crosses_83 {x y : Int32} : wps rm K Q c_M_crosses_83 kc ks loc (.int y :: .int x :: st) h = wps rm K Q c_M_crosses_84 kc ks loc (.int (x - y) :: st) h := rfl
theorem s_M_crosses_84 {x : Int32} : wps rm K Q c_M_crosses_84 kc ks loc (.int x :: st) h = wps rm K Q c_M_crosses_85 kc ks loc (.long (x.toInt64) :: st) h := rfl
theorem s_M_crosses_85 {x y : Int64} : wps rm K Q c_M_crosses_85 kc ks loc (.long y :: .long x :: st) h = wps rm K Q c_M_crosses_86 kc ks loc (.long (x * y) :: st) h := rfl
theorem s_M_crosses_86 {x y : Int64} : wps rm K Q c_M_crosses_86 kc ks loc (.long y :: .long x :: st) h = wps rm K Q c_M_crosses_87 kc ks loc (.long (x + y) :: st) h := rfl
theorem s_M_crosses_87 {x : Int64} {l0 l1 l2 l3 l4 l5 l6 : Option Value} {l : eg_Lo} : wps rm K Q c_M_crosses_87 kc ks (l0 :: l1 :: l2 :: l3 :: l4 :: l5 :: l6 :: some (.long x) :: l) (st) h = wps rm K Q c_M_crosses_89 kc ks (l0 :: l1 :: l2 :: l3 :: l4 :: l5 :: l6 :: some (.long x) :: l) (.long x :: st) h := rfl
theorem s_M_crosses_89 {x : Nat} {l : eg_Lo} : wps rm K Q c_M_crosses_89 kc ks (some (.ref x) :: l) (st) h = wps rm K Q c_M_crosses_90 kc ks (some (.ref x) :: l) (.ref x :: st) h := rfl
theorem s_M_crosses_90 {x : Nat} : wps rm K Q c_M_crosses_90 kc ks loc (.ref (x + 1) :: st) h = eg_gf h x 12 3 (fun v => wps rm K Q c_M_crosses_93 kc ks loc (v :: st) h) := rfl
theorem s_M_crosses_93 {x : Int32} {l0 l1 l2 l3 l4 l5 l6 l7 l8 l9 l10 : Option Value} {l : eg_Lo} : wps rm K Q c_M_crosses_93 kc ks (l0 :: l1 :: l2 :: l3 :: l4 :: l5 :: l6 :: l7 :: l8 :: l9 :: l10 :: some (.int x) :: l) (st) h = wps rm K Q c_M_crosses_95 kc ks (l0 :: l1 :: l2 :: l3 :: l4 :: l5 :: l6 :: l7 :: l8 :: l9 :: l10 :: some (.int x) :: l) (.int x :: st) h := rfl
theorem s_M_crosses_95 {x : Nat} {i : Int32} : wps rm K Q c_M_crosses_95 kc ks loc (.int i :: .ref (x + 1) :: st) h = eg_ia h x i (fun v => wps rm K Q c_M_crosses_96 kc ks loc (.int v :: st) h) := rfl
theorem s_M_crosses_96 {x : Nat} {l : eg_Lo} : wps rm K Q c_M_crosses_96 kc ks (some (.ref x) :: l) (st) h = wps rm K Q c_M_crosses_97 kc ks (some (.ref x) :: l) (.ref x :: st) h := rfl
theorem s_M_crosses_97 {x : Nat} : wps rm K Q c_M_crosses_97 kc ks loc (.ref (x + 1) :: st) h = eg_gf h x 12 3 (fun v => wps rm K Q c_M_crosses_100 kc ks loc (v :: st) h) := rfl
theorem s_M_crosses_100 {x : Int32} {l0 l1 l2 l3 l4 l5 l6 l7 l8 : Option Value} {l : eg_Lo} : wps rm K Q c_M_crosses_100 kc ks (l0 :: l1 :: l2 :: l3 :: l4 :: l5 :: l6 :: l7 :: l8 :: some (.int x) :: l) (st) h = wps rm K Q c_M_crosses_102 kc ks (l0 :: l1 :: l2 :: l3 :: l4 :: l5 :: l6 :: l7 :: l8 :: some (.int x) :: l) (.int x :: st) h := rfl
theorem s_M_crosses_102 {x : Nat} {i : Int32} : wps rm K Q c_M_crosses_102 kc ks loc (.int i :: .ref (x + 1) :: st) h = eg_ia h x i (fun v => wps rm K Q c_M_crosses_103 kc ks loc (.int v :: st) h) := rfl
theorem s_M_crosses_103 {x y : Int32} : wps rm K Q c_M_crosses_103 kc ks loc (.int y :: .int x :: st) h = wps rm K Q c_M_crosses_104 kc ks loc (.int (x - y) :: st) h := rfl
theorem s_M_crosses_104 {x : Int32} : wps rm K Q c_M_crosses_104 kc ks loc (.int x :: st) h = wps rm K Q c_M_crosses_105 kc ks loc (.long (x.toInt64) :: st) h := rfl
theorem s_M_crosses_105 {x y : Int64} : wps rm K Q c_M_crosses_105 kc ks loc (.long y :: .long x :: st) h = wps rm K Q c_M_crosses_106 kc ks loc (.long (x * y) :: st) h := rfl
theorem s_M_crosses_106 {x y : Int64} : wps rm K Q c_M_crosses_106 kc ks loc (.long y :: .long x :: st) h = wps rm K Q c_M_crosses_107 kc ks loc (.long (x + y) :: st) h := rfl
theorem s_M_crosses_107 {x : Int64} : wps rm K Q c_M_crosses_107 kc ks loc (.long x :: st) h = wps rm K Q c_M_crosses_109 kc ks (eg_set2 loc 12 (.long x)) (st) h := rfl
theorem s_M_crosses_109 {x : Nat} {l : eg_Lo} : wps rm K Q c_M_crosses_109 kc ks (some (.ref x) :: l) (st) h = wps rm K Q c_M_crosses_110 kc ks (some (.ref x) :: l) (.ref x :: st) h := rfl
theorem s_M_crosses_110 {x : Nat} : wps rm K Q c_M_crosses_110 kc ks loc (.ref (x + 1) :: st) h = eg_gf h x 12 31 (fun v => wps rm K Q c_M_crosses_113 kc ks loc (v :: st) h) := rfl
theorem s_M_crosses_113 {x : Int32} : wps rm K Q c_M_crosses_113 kc ks loc (.int x :: st) h = ((x < 0 → K 126 kc ks loc st h) ∧ (¬ x < 0 → wps rm K Q c_M_crosses_116 kc ks loc (st) h)) := rfl
theorem s_M_crosses_116 {x : Int64} {l0 l1 l2 l3 l4 l5 l6 l7 l8 l9 l10 l11 : Option Value} {l : eg_Lo} : wps rm K Q c_M_crosses_116 kc ks (l0 :: l1 :: l2 :: l3 :: l4 :: l5 :: l6 :: l7 :: l8 :: l9 :: l10 :: l11 :: some (.long x) :: l) (st) h = wps rm K Q c_M_crosses_118 kc ks (l0 :: l1 :: l2 :: l3 :: l4 :: l5 :: l6 :: l7 :: l8 :: l9 :: l10 :: l11 :: some (.long x) :: l) (.long x :: st) h := rfl
theorem s_M_crosses_118 {x : Nat} {l : eg_Lo} : wps rm K Q c_M_crosses_118 kc ks (some (.ref x) :: l) (st) h = wps rm K Q c_M_crosses_119 kc ks (some (.ref x) :: l) (.ref x :: st) h := rfl
theorem s_M_crosses_119 {x : Nat} : wps rm K Q c_M_crosses_119 kc ks loc (.ref (x + 1) :: st) h = eg_gf h x 12 29 (fun v => wps rm K Q c_M_crosses_122 kc ks loc (v :: st) h) := rfl
theorem s_M_crosses_122 {x y : Int64} : wps rm K Q c_M_crosses_122 kc ks loc (.long y :: .long x :: st) h = wps rm K Q c_M_crosses_123 kc ks loc (.int (lg_cmp x y) :: st) h := rfl
theorem s_M_crosses_123 {x : Int32} : wps rm K Q c_M_crosses_123 kc ks loc (.int x :: st) h = ((x ≤ 0 → K 138 kc ks loc st h) ∧ (¬ x ≤ 0 → wps rm K Q c_M_crosses_126 kc ks loc (st) h)) := rfl
theorem s_M_crosses_126 {x : Nat} {l : eg_Lo} : wps rm K Q c_M_crosses_126 kc ks (some (.ref x) :: l) (st) h = wps rm K Q c_M_crosses_127 kc ks (some (.ref x) :: l) (.ref x :: st) h := rfl
theorem s_M_crosses_127 {x : Int64} {l0 l1 l2 l3 l4 l5 l6 l7 l8 l9 l10 l11 : Option Value} {l : eg_Lo} : wps rm K Q c_M_crosses_127 kc ks (l0 :: l1 :: l2 :: l3 :: l4 :: l5 :: l6 :: l7 :: l8 :: l9 :: l10 :: l11 :: some (.long x) :: l) (st) h = wps rm K Q c_M_crosses_129 kc ks (l0 :: l1 :: l2 :: l3 :: l4 :: l5 :: l6 :: l7 :: l8 :: l9 :: l10 :: l11 :: some (.long x) :: l) (.long x :: st) h := rfl
theorem s_M_crosses_129 {x : Nat} {v : Value} : wps rm K Q c_M_crosses_129 kc ks loc (v :: .ref (x + 1) :: st) h = eg_pf h x 12 29 v (fun h9 => wps rm K Q c_M_crosses_132 kc ks loc (st) h9) := rfl
theorem s_M_crosses_132 {x : Nat} {l : eg_Lo} : wps rm K Q c_M_crosses_132 kc ks (some (.ref x) :: l) (st) h = wps rm K Q c_M_crosses_133 kc ks (some (.ref x) :: l) (.ref x :: st) h := rfl
theorem s_M_crosses_133 {x : Int32} {l0 l1 l2 l3 l4 l5 l6 l7 l8 l9 : Option Value} {l : eg_Lo} : wps rm K Q c_M_crosses_133 kc ks (l0 :: l1 :: l2 :: l3 :: l4 :: l5 :: l6 :: l7 :: l8 :: l9 :: some (.int x) :: l) (st) h = wps rm K Q c_M_crosses_135 kc ks (l0 :: l1 :: l2 :: l3 :: l4 :: l5 :: l6 :: l7 :: l8 :: l9 :: some (.int x) :: l) (.int x :: st) h := rfl
theorem s_M_crosses_135 {x : Nat} {v : Value} : wps rm K Q c_M_crosses_135 kc ks loc (v :: .ref (x + 1) :: st) h = eg_pf h x 12 31 v (fun h9 => wps rm K Q c_M_crosses_138 kc ks loc (st) h9) := rfl
theorem s_M_crosses_138 {x : Nat} {l : eg_Lo} : wps rm K Q c_M_crosses_138 kc ks (some (.ref x) :: l) (st) h = wps rm K Q c_M_crosses_139 kc ks (some (.ref x) :: l) (.ref x :: st) h := rfl
theorem s_M_crosses_139 {x : Nat} : wps rm K Q c_M_crosses_139 kc ks loc (.ref (x + 1) :: st) h = eg_gf h x 12 32 (fun v => wps rm K Q c_M_crosses_142 kc ks loc (v :: st) h) := rfl
theorem s_M_crosses_142 {x : Int32} : wps rm K Q c_M_crosses_142 kc ks loc (.int x :: st) h = ((x < 0 → K 155 kc ks loc st h) ∧ (¬ x < 0 → wps rm K Q c_M_crosses_145 kc ks loc (st) h)) := rfl
theorem s_M_crosses_145 {x : Int64} {l0 l1 l2 l3 l4 l5 l6 l7 l8 l9 l10 l11 : Option Value} {l : eg_Lo} : wps rm K Q c_M_crosses_145 kc ks (l0 :: l1 :: l2 :: l3 :: l4 :: l5 :: l6 :: l7 :: l8 :: l9 :: l10 :: l11 :: some (.long x) :: l) (st) h = wps rm K Q c_M_crosses_147 kc ks (l0 :: l1 :: l2 :: l3 :: l4 :: l5 :: l6 :: l7 :: l8 :: l9 :: l10 :: l11 :: some (.long x) :: l) (.long x :: st) h := rfl
theorem s_M_crosses_147 {x : Nat} {l : eg_Lo} : wps rm K Q c_M_crosses_147 kc ks (some (.ref x) :: l) (st) h = wps rm K Q c_M_crosses_148 kc ks (some (.ref x) :: l) (.ref x :: st) h := rfl
theorem s_M_crosses_148 {x : Nat} : wps rm K Q c_M_crosses_148 kc ks loc (.ref (x + 1) :: st) h = eg_gf h x 12 30 (fun v => wps rm K Q c_M_crosses_151 kc ks loc (v :: st) h) := rfl
theorem s_M_crosses_151 {x y : Int64} : wps rm K Q c_M_crosses_151 kc ks loc (.long y :: .long x :: st) h = wps rm K Q c_M_crosses_152 kc ks loc (.int (lg_cmp x y) :: st) h := rfl
theorem s_M_crosses_152 {x : Int32} : wps rm K Q c_M_crosses_152 kc ks loc (.int x :: st) h = ((0 ≤ x → K 167 kc ks loc st h) ∧ (¬ 0 ≤ x → wps rm K Q c_M_crosses_155 kc ks loc (st) h)) := rfl
theorem s_M_crosses_155 {x : Nat} {l : eg_Lo} : wps rm K Q c_M_crosses_155 kc ks (some (.ref x) :: l) (st) h = wps rm K Q c_M_crosses_156 kc ks (some (.ref x) :: l) (.ref x :: st) h := rfl
theorem s_M_crosses_156 {x : Int64} {l0 l1 l2 l3 l4 l5 l6 l7 l8 l9 l10 l11 : Option Value} {l : eg_Lo} : wps rm K Q c_M_crosses_156 kc ks (l0 :: l1 :: l2 :: l3 :: l4 :: l5 :: l6 :: l7 :: l8 :: l9 :: l10 :: l11 :: some (.long x) :: l) (st) h = wps rm K Q c_M_crosses_158 kc ks (l0 :: l1 :: l2 :: l3 :: l4 :: l5 :: l6 :: l7 :: l8 :: l9 :: l10 :: l11 :: some (.long x) :: l) (.long x :: st) h := rfl
theorem s_M_crosses_158 {x : Nat} {v : Value} : wps rm K Q c_M_crosses_158 kc ks loc (v :: .ref (x + 1) :: st) h = eg_pf h x 12 30 v (fun h9 => wps rm K Q c_M_crosses_161 kc ks loc (st) h9) := rfl
theorem s_M_crosses_161 {x : Nat} {l : eg_Lo} : wps rm K Q c_M_crosses_161 kc ks (some (.ref x) :: l) (st) h = wps rm K Q c_M_crosses_162 kc ks (some (.ref x) :: l) (.ref x :: st) h := rfl
theorem s_M_crosses_162 {x : Int32} {l0 l1 l2 l3 l4 l5 l6 l7 l8 l9 : Option Value} {l : eg_Lo} : wps rm K Q c_M_crosses_162 kc ks (l0 :: l1 :: l2 :: l3 :: l4 :: l5 :: l6 :: l7 :: l8 :: l9 :: some (.int x) :: l) (st) h = wps rm K Q c_M_crosses_164 kc ks (l0 :: l1 :: l2 :: l3 :: l4 :: l5 :: l6 :: l7 :: l8 :: l9 :: some (.int x) :: l) (.int x :: st) h := rfl
theorem s_M_crosses_164 {x : Nat} {v : Value} : wps rm K Q c_M_crosses_164 kc ks loc (v :: .ref (x + 1) :: st) h = eg_pf h x 12 32 v (fun h9 => wps rm K Q c_M_crosses_167 kc ks loc (st) h9) := rfl
theorem s_M_crosses_167 {x : Int32} {l0 l1 l2 l3 l4 l5 l6 l7 l8 l9 : Option Value} {l9 : eg_Lo} : wps rm K Q c_M_crosses_167 kc ks (l0 :: l1 :: l2 :: l3 :: l4 :: l5 :: l6 :: l7 :: l8 :: l9 :: some (.int x) :: l9) (st) h = wps rm K Q c_M_crosses_170 kc ks (eg_set1 (l0 :: l1 :: l2 :: l3 :: l4 :: l5 :: l6 :: l7 :: l8 :: l9 :: some (.int x) :: l9) 10 (.int (x + (1)))) (st) h := rfl
theorem s_M_crosses_170  : wps rm K Q c_M_crosses_170 kc ks loc (st) h = K 20 kc ks loc st h := rfl
theorem s_M_crosses_173  : wps rm K Q c_M_crosses_173 kc ks loc ([]) h = (kc = rm.cells ∧ Q none h) := rfl
def T_M_crosses : List (Nat × List eg_I) := [(126, c_M_crosses_126), (138, c_M_crosses_138), (155, c_M_crosses_155), (167, c_M_crosses_167), (173, c_M_crosses_173)]
theorem j_M_crosses_126 {R : Nat → Nat → Nat → eg_Lo → List Value → List eg_E → Prop} {f pc0 : Nat} : eg_run rm R Q T_M_crosses (f + 1) 126 kc ks loc st h = wps rm (eg_run rm R Q T_M_crosses f) Q c_M_crosses_126 kc ks loc st h := rfl
theorem j_M_crosses_138 {R : Nat → Nat → Nat → eg_Lo → List Value → List eg_E → Prop} {f pc0 : Nat} : eg_run rm R Q T_M_crosses (f + 1) 138 kc ks loc st h = wps rm (eg_run rm R Q T_M_crosses f) Q c_M_crosses_138 kc ks loc st h := rfl
theorem j_M_crosses_155 {R : Nat → Nat → Nat → eg_Lo → List Value → List eg_E → Prop} {f pc0 : Nat} : eg_run rm R Q T_M_crosses (f + 1) 155 kc ks loc st h = wps rm (eg_run rm R Q T_M_crosses f) Q c_M_crosses_155 kc ks loc st h := rfl
theorem j_M_crosses_167 {R : Nat → Nat → Nat → eg_Lo → List Value → List eg_E → Prop} {f pc0 : Nat} : eg_run rm R Q T_M_crosses (f + 1) 167 kc ks loc st h = wps rm (eg_run rm R Q T_M_crosses f) Q c_M_crosses_167 kc ks loc st h := rfl
theorem j_M_crosses_173 {R : Nat → Nat → Nat → eg_Lo → List Value → List eg_E → Prop} {f pc0 : Nat} : eg_run rm R Q T_M_crosses (f + 1) 173 kc ks loc st h = wps rm (eg_run rm R Q T_M_crosses f) Q c_M_crosses_173 kc ks loc st h := rfl
theorem j_M_crosses_20 {R : Nat → Nat → Nat → eg_Lo → List Value → List eg_E → Prop} {f pc0 : Nat} : eg_run rm R Q T_M_crosses (f + 1) 20 kc ks loc st h = R 20 kc ks loc st h := rfl
end
theorem q_M_crosses : (T_M_crosses.all fun q => eg_seq m_M_crosses q.1 q.2) = true := by decide +kernel
theorem b_M_crosses {as : List Value} {h : List eg_E} {Q : Option Value → List eg_E → Prop} (hf : (eg_fl as).length ≤ 14) (hw : wps (eg_rm m_M_crosses) (eg_run (eg_rm m_M_crosses) (eg_R m_M_crosses Q (h.length + 0)) Q T_M_crosses 7) Q c_M_crosses_0 0 0 (eg_entry 14 as) [] h) : eg_Runs n_M_crosses as h Q := eg_begin (d := m_M_crosses) rfl (by decide) (by decide +kernel) q_M_crosses hf hw
theorem p_M_crosses_20 {Q : Option Value → List eg_E → Prop} {n0 kc ks : Nat} {loc : eg_Lo} {st : List Value} {h : List eg_E} (hw : wps (eg_rm m_M_crosses) (eg_run (eg_rm m_M_crosses) (eg_R m_M_crosses Q n0) Q T_M_crosses 7) Q c_M_crosses_20 kc ks loc st h) : eg_R m_M_crosses Q n0 20 kc ks loc st h := eg_go (by decide +kernel) q_M_crosses hw
/-! ===== M_isHere ===== -/
def c_M_isHere_18 : List eg_I := .inl (18, 1, .ireturn, 0, 1) :: []
def c_M_isHere_17 : List eg_I := .inl (17, 1, .iconst (0), 0, 0) :: c_M_isHere_18
def c_M_isHere_14 : List eg_I := .inl (14, 3, .goto (4), 18, 0) :: []
def c_M_isHere_13 : List eg_I := .inl (13, 1, .iconst (1), 0, 0) :: c_M_isHere_14
def c_M_isHere_10 : List eg_I := .inl (10, 3, .ifCond .ne (7), 17, 0) :: c_M_isHere_13
def c_M_isHere_9 : List eg_I := .inl (9, 1, .baload, 0, 0) :: c_M_isHere_10
def c_M_isHere_6 : List eg_I := .inr (6, 0, 103, n_M_at_II, 2, 12, 0, 0) :: c_M_isHere_9
def c_M_isHere_5 : List eg_I := .inl (5, 1, .iload 2, 0, 0) :: c_M_isHere_6
def c_M_isHere_4 : List eg_I := .inl (4, 1, .iload 1, 0, 0) :: c_M_isHere_5
def c_M_isHere_1 : List eg_I := .inl (1, 3, .getfield 22, 12, 4) :: c_M_isHere_4
def c_M_isHere_0 : List eg_I := .inl (0, 1, .aload 0, 0, 0) :: c_M_isHere_1
section
variable {rm : Room} {K : Nat → Nat → Nat → eg_Lo → List Value → List eg_E → Prop} {Q : Option Value → List eg_E → Prop} {kc ks : Nat} {loc : eg_Lo} {st : List Value} {h : List eg_E}
theorem s_M_isHere_0 {x : Nat} {l : eg_Lo} : wps rm K Q c_M_isHere_0 kc ks (some (.ref x) :: l) (st) h = wps rm K Q c_M_isHere_1 kc ks (some (.ref x) :: l) (.ref x :: st) h := rfl
theorem s_M_isHere_1 {x : Nat} : wps rm K Q c_M_isHere_1 kc ks loc (.ref (x + 1) :: st) h = eg_gf h x 12 4 (fun v => wps rm K Q c_M_isHere_4 kc ks loc (v :: st) h) := rfl
theorem s_M_isHere_4 {x : Int32} {l0 : Option Value} {l : eg_Lo} : wps rm K Q c_M_isHere_4 kc ks (l0 :: some (.int x) :: l) (st) h = wps rm K Q c_M_isHere_5 kc ks (l0 :: some (.int x) :: l) (.int x :: st) h := rfl
theorem s_M_isHere_5 {x : Int32} {l0 l1 : Option Value} {l : eg_Lo} : wps rm K Q c_M_isHere_5 kc ks (l0 :: l1 :: some (.int x) :: l) (st) h = wps rm K Q c_M_isHere_6 kc ks (l0 :: l1 :: some (.int x) :: l) (.int x :: st) h := rfl
theorem s_M_isHere_6  {a1 : Value} {a2 : Value} : wps rm K Q c_M_isHere_6 kc ks loc (a2 :: a1 :: st) h = (st.length ≤ 4 ∧ eg_Cs n_M_at_II [a1, a2] h (fun v h9 => wps rm K Q c_M_isHere_9 kc ks loc (v.toList ++ st) h9)) := eg_c0_2
theorem s_M_isHere_9 {x : Nat} {i : Int32} : wps rm K Q c_M_isHere_9 kc ks loc (.int i :: .ref (x + 1) :: st) h = eg_ba h x i (fun v => wps rm K Q c_M_isHere_10 kc ks loc (.int v :: st) h) := rfl
theorem s_M_isHere_10 {x : Int32} : wps rm K Q c_M_isHere_10 kc ks loc (.int x :: st) h = ((¬ x = 0 → K 17 kc ks loc st h) ∧ (x = 0 → wps rm K Q c_M_isHere_13 kc ks loc (st) h)) := rfl
theorem s_M_isHere_13  : wps rm K Q c_M_isHere_13 kc ks loc (st) h = wps rm K Q c_M_isHere_14 kc ks loc (.int (1) :: st) h := rfl
theorem s_M_isHere_14  : wps rm K Q c_M_isHere_14 kc ks loc (st) h = K 18 kc ks loc st h := rfl
theorem s_M_isHere_17  : wps rm K Q c_M_isHere_17 kc ks loc (st) h = wps rm K Q c_M_isHere_18 kc ks loc (.int (0) :: st) h := rfl
theorem s_M_isHere_18 {x : Int32} : wps rm K Q c_M_isHere_18 kc ks loc ([.int x]) h = (kc = rm.cells ∧ ((1 : Nat) = 1 → x = 0 ∨ x = 1) ∧ Q (some (.int x)) h) := rfl
def T_M_isHere : List (Nat × List eg_I) := [(17, c_M_isHere_17), (18, c_M_isHere_18)]
theorem j_M_isHere_17 {R : Nat → Nat → Nat → eg_Lo → List Value → List eg_E → Prop} {f pc0 : Nat} : eg_run rm R Q T_M_isHere (f + 1) 17 kc ks loc st h = wps rm (eg_run rm R Q T_M_isHere f) Q c_M_isHere_17 kc ks loc st h := rfl
theorem j_M_isHere_18 {R : Nat → Nat → Nat → eg_Lo → List Value → List eg_E → Prop} {f pc0 : Nat} : eg_run rm R Q T_M_isHere (f + 1) 18 kc ks loc st h = wps rm (eg_run rm R Q T_M_isHere f) Q c_M_isHere_18 kc ks loc st h := rfl
end
theorem q_M_isHere : (T_M_isHere.all fun q => eg_seq m_M_isHere q.1 q.2) = true := by decide +kernel
theorem b_M_isHere {as : List Value} {h : List eg_E} {Q : Option Value → List eg_E → Prop} (hf : (eg_fl as).length ≤ 3) (hw : wps (eg_rm m_M_isHere) (eg_run (eg_rm m_M_isHere) (eg_R m_M_isHere Q (h.length + 0)) Q T_M_isHere 4) Q c_M_isHere_0 0 0 (eg_entry 3 as) [] h) : eg_Runs n_M_isHere as h Q := eg_begin (d := m_M_isHere) rfl (by decide) (by decide +kernel) q_M_isHere hf hw
/-! ===== M_fitLine ===== -/
def c_M_fitLine_399 : List eg_I := .inl (399, 1, .lreturn, 0, 0) :: []
def c_M_fitLine_396 : List eg_I := .inl (396, 3, .sipush (4), 204, 0) :: c_M_fitLine_399
def c_M_fitLine_393 : List eg_I := .inr (393, 0, 200, n_M_lowest, 6, 12, 0, 0) :: c_M_fitLine_396
def c_M_fitLine_392 : List eg_I := .inl (392, 1, .iconst (1), 0, 0) :: c_M_fitLine_393
def c_M_fitLine_391 : List eg_I := .inl (391, 1, .imul, 0, 0) :: c_M_fitLine_392
def c_M_fitLine_390 : List eg_I := .inl (390, 1, .iload 1, 0, 0) :: c_M_fitLine_391
def c_M_fitLine_389 : List eg_I := .inl (389, 1, .iconst (3), 0, 0) :: c_M_fitLine_390
def c_M_fitLine_386 : List eg_I := .inl (386, 3, .getfield 48, 12, 12) :: c_M_fitLine_389
def c_M_fitLine_385 : List eg_I := .inl (385, 1, .aload 0, 0, 0) :: c_M_fitLine_386
def c_M_fitLine_384 : List eg_I := .inl (384, 1, .sipush (0), 0, 0) :: c_M_fitLine_385
def c_M_fitLine_382 : List eg_I := .inl (382, 2, .lload 12, 0, 0) :: c_M_fitLine_384
def c_M_fitLine_380 : List eg_I := .inl (380, 2, .lload 10, 0, 0) :: c_M_fitLine_382
def c_M_fitLine_377 : List eg_I := .inr (377, 1, 196, n_M_keepMiss, 3, 12, 0, 0) :: c_M_fitLine_380
def c_M_fitLine_375 : List eg_I := .inl (375, 2, .lload 6, 0, 0) :: c_M_fitLine_377
def c_M_fitLine_373 : List eg_I := .inl (373, 2, .lload 4, 0, 0) :: c_M_fitLine_375
def c_M_fitLine_372 : List eg_I := .inl (372, 1, .iload 1, 0, 0) :: c_M_fitLine_373
def c_M_fitLine_371 : List eg_I := .inl (371, 1, .aload 0, 0, 0) :: c_M_fitLine_372
def c_M_fitLine_370 : List eg_I := .inl (370, 1, .iastore, 0, 0) :: c_M_fitLine_371
def c_M_fitLine_367 : List eg_I := .inl (367, 3, .getfield 176, 12, 32) :: c_M_fitLine_370
def c_M_fitLine_366 : List eg_I := .inl (366, 1, .aload 0, 0, 0) :: c_M_fitLine_367
def c_M_fitLine_365 : List eg_I := .inl (365, 1, .iadd, 0, 0) :: c_M_fitLine_366
def c_M_fitLine_364 : List eg_I := .inl (364, 1, .iconst (3), 0, 0) :: c_M_fitLine_365
def c_M_fitLine_363 : List eg_I := .inl (363, 1, .imul, 0, 0) :: c_M_fitLine_364
def c_M_fitLine_362 : List eg_I := .inl (362, 1, .iload 1, 0, 0) :: c_M_fitLine_363
def c_M_fitLine_360 : List eg_I := .inl (360, 2, .iconst (6), 0, 0) :: c_M_fitLine_362
def c_M_fitLine_357 : List eg_I := .inl (357, 3, .getfield 38, 12, 9) :: c_M_fitLine_360
def c_M_fitLine_356 : List eg_I := .inl (356, 1, .aload 0, 0, 0) :: c_M_fitLine_357
def c_M_fitLine_355 : List eg_I := .inl (355, 1, .iastore, 0, 0) :: c_M_fitLine_356
def c_M_fitLine_352 : List eg_I := .inl (352, 3, .getfield 172, 12, 31) :: c_M_fitLine_355
def c_M_fitLine_351 : List eg_I := .inl (351, 1, .aload 0, 0, 0) :: c_M_fitLine_352
def c_M_fitLine_350 : List eg_I := .inl (350, 1, .iadd, 0, 0) :: c_M_fitLine_351
def c_M_fitLine_349 : List eg_I := .inl (349, 1, .iconst (2), 0, 0) :: c_M_fitLine_350
def c_M_fitLine_348 : List eg_I := .inl (348, 1, .imul, 0, 0) :: c_M_fitLine_349
def c_M_fitLine_347 : List eg_I := .inl (347, 1, .iload 1, 0, 0) :: c_M_fitLine_348
def c_M_fitLine_345 : List eg_I := .inl (345, 2, .iconst (6), 0, 0) :: c_M_fitLine_347
def c_M_fitLine_342 : List eg_I := .inl (342, 3, .getfield 38, 12, 9) :: c_M_fitLine_345
def c_M_fitLine_341 : List eg_I := .inl (341, 1, .aload 0, 0, 0) :: c_M_fitLine_342
def c_M_fitLine_340 : List eg_I := .inl (340, 1, .iastore, 0, 0) :: c_M_fitLine_341
def c_M_fitLine_338 : List eg_I := .inl (338, 2, .iload 9, 0, 0) :: c_M_fitLine_340
def c_M_fitLine_337 : List eg_I := .inl (337, 1, .iadd, 0, 0) :: c_M_fitLine_338
def c_M_fitLine_336 : List eg_I := .inl (336, 1, .iconst (1), 0, 0) :: c_M_fitLine_337
def c_M_fitLine_335 : List eg_I := .inl (335, 1, .imul, 0, 0) :: c_M_fitLine_336
def c_M_fitLine_334 : List eg_I := .inl (334, 1, .iload 1, 0, 0) :: c_M_fitLine_335
def c_M_fitLine_332 : List eg_I := .inl (332, 2, .iconst (6), 0, 0) :: c_M_fitLine_334
def c_M_fitLine_329 : List eg_I := .inl (329, 3, .getfield 38, 12, 9) :: c_M_fitLine_332
def c_M_fitLine_328 : List eg_I := .inl (328, 1, .aload 0, 0, 0) :: c_M_fitLine_329
def c_M_fitLine_327 : List eg_I := .inl (327, 1, .iastore, 0, 0) :: c_M_fitLine_328
def c_M_fitLine_325 : List eg_I := .inl (325, 2, .iload 8, 0, 0) :: c_M_fitLine_327
def c_M_fitLine_324 : List eg_I := .inl (324, 1, .imul, 0, 0) :: c_M_fitLine_325
def c_M_fitLine_323 : List eg_I := .inl (323, 1, .iload 1, 0, 0) :: c_M_fitLine_324
def c_M_fitLine_321 : List eg_I := .inl (321, 2, .iconst (6), 0, 0) :: c_M_fitLine_323
def c_M_fitLine_318 : List eg_I := .inl (318, 3, .getfield 38, 12, 9) :: c_M_fitLine_321
def c_M_fitLine_317 : List eg_I := .inl (317, 1, .aload 0, 0, 0) :: c_M_fitLine_318
def c_M_fitLine_316 : List eg_I := .inl (316, 1, .iastore, 0, 0) :: c_M_fitLine_317
def c_M_fitLine_315 : List eg_I := .inl (315, 1, .iconst (4), 0, 0) :: c_M_fitLine_316
def c_M_fitLine_314 : List eg_I := .inl (314, 1, .iload 1, 0, 0) :: c_M_fitLine_315
def c_M_fitLine_311 : List eg_I := .inl (311, 3, .getfield 35, 12, 8) :: c_M_fitLine_314
def c_M_fitLine_310 : List eg_I := .inl (310, 1, .aload 0, 0, 0) :: c_M_fitLine_311
def c_M_fitLine_309 : List eg_I := .inl (309, 1, .iastore, 0, 0) :: c_M_fitLine_310
def c_M_fitLine_308 : List eg_I := .inl (308, 1, .iconst (2), 0, 0) :: c_M_fitLine_309
def c_M_fitLine_307 : List eg_I := .inl (307, 1, .iload 1, 0, 0) :: c_M_fitLine_308
def c_M_fitLine_304 : List eg_I := .inl (304, 3, .getfield 32, 12, 7) :: c_M_fitLine_307
def c_M_fitLine_303 : List eg_I := .inl (303, 1, .aload 0, 0, 0) :: c_M_fitLine_304
def c_M_fitLine_300 : List eg_I := .inr (300, 1, 188, n_M_crosses, 5, 12, 0, 0) :: c_M_fitLine_303
def c_M_fitLine_299 : List eg_I := .inl (299, 1, .sipush (0), 0, 0) :: c_M_fitLine_300
def c_M_fitLine_297 : List eg_I := .inl (297, 2, .lload 10, 0, 0) :: c_M_fitLine_299
def c_M_fitLine_296 : List eg_I := .inl (296, 1, .lneg, 0, 0) :: c_M_fitLine_297
def c_M_fitLine_294 : List eg_I := .inl (294, 2, .lload 12, 0, 0) :: c_M_fitLine_296
def c_M_fitLine_292 : List eg_I := .inl (292, 2, .iload 8, 0, 0) :: c_M_fitLine_294
def c_M_fitLine_291 : List eg_I := .inl (291, 1, .iload 2, 0, 0) :: c_M_fitLine_292
def c_M_fitLine_290 : List eg_I := .inl (290, 1, .aload 0, 0, 0) :: c_M_fitLine_291
def c_M_fitLine_288 : List eg_I := .inl (288, 2, .lstore 12, 0, 0) :: c_M_fitLine_290
def c_M_fitLine_287 : List eg_I := .inl (287, 1, .i2l, 0, 0) :: c_M_fitLine_288
def c_M_fitLine_286 : List eg_I := .inl (286, 1, .isub, 0, 0) :: c_M_fitLine_287
def c_M_fitLine_285 : List eg_I := .inl (285, 1, .iaload, 0, 0) :: c_M_fitLine_286
def c_M_fitLine_282 : List eg_I := .inr (282, 0, 103, n_M_at_II, 2, 12, 0, 0) :: c_M_fitLine_285
def c_M_fitLine_280 : List eg_I := .inl (280, 2, .iload 8, 0, 0) :: c_M_fitLine_282
def c_M_fitLine_279 : List eg_I := .inl (279, 1, .iload 2, 0, 0) :: c_M_fitLine_280
def c_M_fitLine_276 : List eg_I := .inl (276, 3, .getfield 16, 12, 2) :: c_M_fitLine_279
def c_M_fitLine_275 : List eg_I := .inl (275, 1, .aload 0, 0, 0) :: c_M_fitLine_276
def c_M_fitLine_274 : List eg_I := .inl (274, 1, .iaload, 0, 0) :: c_M_fitLine_275
def c_M_fitLine_271 : List eg_I := .inr (271, 0, 103, n_M_at_II, 2, 12, 0, 0) :: c_M_fitLine_274
def c_M_fitLine_269 : List eg_I := .inl (269, 2, .iload 9, 0, 0) :: c_M_fitLine_271
def c_M_fitLine_268 : List eg_I := .inl (268, 1, .iload 2, 0, 0) :: c_M_fitLine_269
def c_M_fitLine_265 : List eg_I := .inl (265, 3, .getfield 16, 12, 2) :: c_M_fitLine_268
def c_M_fitLine_264 : List eg_I := .inl (264, 1, .aload 0, 0, 0) :: c_M_fitLine_265
def c_M_fitLine_262 : List eg_I := .inl (262, 2, .lstore 10, 0, 0) :: c_M_fitLine_264
def c_M_fitLine_261 : List eg_I := .inl (261, 1, .i2l, 0, 0) :: c_M_fitLine_262
def c_M_fitLine_260 : List eg_I := .inl (260, 1, .isub, 0, 0) :: c_M_fitLine_261
def c_M_fitLine_259 : List eg_I := .inl (259, 1, .iaload, 0, 0) :: c_M_fitLine_260
def c_M_fitLine_256 : List eg_I := .inr (256, 0, 103, n_M_at_II, 2, 12, 0, 0) :: c_M_fitLine_259
def c_M_fitLine_254 : List eg_I := .inl (254, 2, .iload 8, 0, 0) :: c_M_fitLine_256
def c_M_fitLine_253 : List eg_I := .inl (253, 1, .iload 2, 0, 0) :: c_M_fitLine_254
def c_M_fitLine_250 : List eg_I := .inl (250, 3, .getfield 13, 12, 1) :: c_M_fitLine_253
def c_M_fitLine_249 : List eg_I := .inl (249, 1, .aload 0, 0, 0) :: c_M_fitLine_250
def c_M_fitLine_248 : List eg_I := .inl (248, 1, .iaload, 0, 0) :: c_M_fitLine_249
def c_M_fitLine_245 : List eg_I := .inr (245, 0, 103, n_M_at_II, 2, 12, 0, 0) :: c_M_fitLine_248
def c_M_fitLine_243 : List eg_I := .inl (243, 2, .iload 9, 0, 0) :: c_M_fitLine_245
def c_M_fitLine_242 : List eg_I := .inl (242, 1, .iload 2, 0, 0) :: c_M_fitLine_243
def c_M_fitLine_239 : List eg_I := .inl (239, 3, .getfield 13, 12, 1) :: c_M_fitLine_242
def c_M_fitLine_238 : List eg_I := .inl (238, 1, .aload 0, 0, 0) :: c_M_fitLine_239
def c_M_fitLine_237 : List eg_I := .inl (237, 1, .lreturn, 0, 0) :: []
def c_M_fitLine_234 : List eg_I := .inr (234, 1, 112, n_M_finding, 1, 12, 0, 0) :: c_M_fitLine_237
def c_M_fitLine_231 : List eg_I := .inl (231, 3, .sipush (-1000000000000000006), 138, 0) :: c_M_fitLine_234
def c_M_fitLine_230 : List eg_I := .inl (230, 1, .aload 0, 0, 0) :: c_M_fitLine_231
def c_M_fitLine_227 : List eg_I := .inl (227, 3, .ifCond .ne (11), 238, 0) :: c_M_fitLine_230
def c_M_fitLine_226 : List eg_I := .inl (226, 1, .iload 3, 0, 0) :: c_M_fitLine_227
def c_M_fitLine_223 : List eg_I := .inl (223, 3, .goto (-206), 17, 0) :: []
def c_M_fitLine_220 : List eg_I := .inl (220, 3, .iinc 10 (1), 0, 0) :: c_M_fitLine_223
def c_M_fitLine_217 : List eg_I := .inl (217, 3, .goto (-183), 34, 0) :: []
def c_M_fitLine_214 : List eg_I := .inl (214, 3, .iinc 11 (1), 0, 0) :: c_M_fitLine_217
def c_M_fitLine_212 : List eg_I := .inl (212, 2, .istore 9, 0, 0) :: c_M_fitLine_214
def c_M_fitLine_210 : List eg_I := .inl (210, 2, .iload 11, 0, 0) :: c_M_fitLine_212
def c_M_fitLine_208 : List eg_I := .inl (208, 2, .istore 8, 0, 0) :: c_M_fitLine_210
def c_M_fitLine_206 : List eg_I := .inl (206, 2, .iload 10, 0, 0) :: c_M_fitLine_208
def c_M_fitLine_204 : List eg_I := .inl (204, 2, .lstore 6, 0, 0) :: c_M_fitLine_206
def c_M_fitLine_202 : List eg_I := .inl (202, 2, .lload 18, 0, 0) :: c_M_fitLine_204
def c_M_fitLine_200 : List eg_I := .inl (200, 2, .lstore 4, 0, 0) :: c_M_fitLine_202
def c_M_fitLine_198 : List eg_I := .inl (198, 2, .lload 16, 0, 0) :: c_M_fitLine_200
def c_M_fitLine_197 : List eg_I := .inl (197, 1, .istore 3, 0, 0) :: c_M_fitLine_198
def c_M_fitLine_196 : List eg_I := .inl (196, 1, .iconst (1), 0, 0) :: c_M_fitLine_197
def c_M_fitLine_193 : List eg_I := .inl (193, 3, .ifCond .eq (21), 214, 0) :: c_M_fitLine_196
def c_M_fitLine_190 : List eg_I := .inr (190, 0, 192, n_M_isLess, 4, 12, 0, 0) :: c_M_fitLine_193
def c_M_fitLine_188 : List eg_I := .inl (188, 2, .lload 6, 0, 0) :: c_M_fitLine_190
def c_M_fitLine_186 : List eg_I := .inl (186, 2, .lload 4, 0, 0) :: c_M_fitLine_188
def c_M_fitLine_184 : List eg_I := .inl (184, 2, .lload 18, 0, 0) :: c_M_fitLine_186
def c_M_fitLine_182 : List eg_I := .inl (182, 2, .lload 16, 0, 0) :: c_M_fitLine_184
def c_M_fitLine_179 : List eg_I := .inl (179, 3, .ifCond .eq (17), 196, 0) :: c_M_fitLine_182
def c_M_fitLine_178 : List eg_I := .inl (178, 1, .iload 3, 0, 0) :: c_M_fitLine_179
def c_M_fitLine_176 : List eg_I := .inl (176, 2, .lstore 18, 0, 0) :: c_M_fitLine_178
def c_M_fitLine_175 : List eg_I := .inl (175, 1, .ladd, 0, 0) :: c_M_fitLine_176
def c_M_fitLine_174 : List eg_I := .inl (174, 1, .lmul, 0, 0) :: c_M_fitLine_175
def c_M_fitLine_172 : List eg_I := .inl (172, 2, .lload 14, 0, 0) :: c_M_fitLine_174
def c_M_fitLine_170 : List eg_I := .inl (170, 2, .lload 14, 0, 0) :: c_M_fitLine_172
def c_M_fitLine_169 : List eg_I := .inl (169, 1, .lmul, 0, 0) :: c_M_fitLine_170
def c_M_fitLine_167 : List eg_I := .inl (167, 2, .lload 12, 0, 0) :: c_M_fitLine_169
def c_M_fitLine_165 : List eg_I := .inl (165, 2, .lload 12, 0, 0) :: c_M_fitLine_167
def c_M_fitLine_163 : List eg_I := .inl (163, 2, .lstore 16, 0, 0) :: c_M_fitLine_165
def c_M_fitLine_162 : List eg_I := .inl (162, 1, .lmul, 0, 0) :: c_M_fitLine_163
def c_M_fitLine_161 : List eg_I := .inl (161, 1, .lsub, 0, 0) :: c_M_fitLine_162
def c_M_fitLine_158 : List eg_I := .inl (158, 3, .getfield 182, 12, 30) :: c_M_fitLine_161
def c_M_fitLine_157 : List eg_I := .inl (157, 1, .aload 0, 0, 0) :: c_M_fitLine_158
def c_M_fitLine_154 : List eg_I := .inl (154, 3, .getfield 179, 12, 29) :: c_M_fitLine_157
def c_M_fitLine_153 : List eg_I := .inl (153, 1, .aload 0, 0, 0) :: c_M_fitLine_154
def c_M_fitLine_152 : List eg_I := .inl (152, 1, .lsub, 0, 0) :: c_M_fitLine_153
def c_M_fitLine_149 : List eg_I := .inl (149, 3, .getfield 182, 12, 30) :: c_M_fitLine_152
def c_M_fitLine_148 : List eg_I := .inl (148, 1, .aload 0, 0, 0) :: c_M_fitLine_149
def c_M_fitLine_145 : List eg_I := .inl (145, 3, .getfield 179, 12, 29) :: c_M_fitLine_148
def c_M_fitLine_144 : List eg_I := .inl (144, 1, .aload 0, 0, 0) :: c_M_fitLine_145
def c_M_fitLine_141 : List eg_I := .inr (141, 1, 188, n_M_crosses, 5, 12, 0, 0) :: c_M_fitLine_144
def c_M_fitLine_140 : List eg_I := .inl (140, 1, .sipush (0), 0, 0) :: c_M_fitLine_141
def c_M_fitLine_138 : List eg_I := .inl (138, 2, .lload 12, 0, 0) :: c_M_fitLine_140
def c_M_fitLine_137 : List eg_I := .inl (137, 1, .lneg, 0, 0) :: c_M_fitLine_138
def c_M_fitLine_135 : List eg_I := .inl (135, 2, .lload 14, 0, 0) :: c_M_fitLine_137
def c_M_fitLine_133 : List eg_I := .inl (133, 2, .iload 10, 0, 0) :: c_M_fitLine_135
def c_M_fitLine_132 : List eg_I := .inl (132, 1, .iload 2, 0, 0) :: c_M_fitLine_133
def c_M_fitLine_131 : List eg_I := .inl (131, 1, .aload 0, 0, 0) :: c_M_fitLine_132
def c_M_fitLine_128 : List eg_I := .inl (128, 3, .ifCond .eq (86), 214, 0) :: c_M_fitLine_131
def c_M_fitLine_127 : List eg_I := .inl (127, 1, .lcmp, 0, 0) :: c_M_fitLine_128
def c_M_fitLine_126 : List eg_I := .inl (126, 1, .sipush (0), 0, 0) :: c_M_fitLine_127
def c_M_fitLine_124 : List eg_I := .inl (124, 2, .lload 14, 0, 0) :: c_M_fitLine_126
def c_M_fitLine_121 : List eg_I := .inl (121, 3, .ifCond .ne (10), 131, 0) :: c_M_fitLine_124
def c_M_fitLine_120 : List eg_I := .inl (120, 1, .lcmp, 0, 0) :: c_M_fitLine_121
def c_M_fitLine_119 : List eg_I := .inl (119, 1, .sipush (0), 0, 0) :: c_M_fitLine_120
def c_M_fitLine_117 : List eg_I := .inl (117, 2, .lload 12, 0, 0) :: c_M_fitLine_119
def c_M_fitLine_114 : List eg_I := .inl (114, 3, .ifCond .eq (100), 214, 0) :: c_M_fitLine_117
def c_M_fitLine_111 : List eg_I := .inr (111, 1, 185, n_M_isHere, 2, 12, 0, 0) :: c_M_fitLine_114
def c_M_fitLine_109 : List eg_I := .inl (109, 2, .iload 11, 0, 0) :: c_M_fitLine_111
def c_M_fitLine_108 : List eg_I := .inl (108, 1, .iload 2, 0, 0) :: c_M_fitLine_109
def c_M_fitLine_107 : List eg_I := .inl (107, 1, .aload 0, 0, 0) :: c_M_fitLine_108
def c_M_fitLine_104 : List eg_I := .inl (104, 3, .ifCond .eq (110), 214, 0) :: c_M_fitLine_107
def c_M_fitLine_101 : List eg_I := .inr (101, 1, 185, n_M_isHere, 2, 12, 0, 0) :: c_M_fitLine_104
def c_M_fitLine_99 : List eg_I := .inl (99, 2, .iload 10, 0, 0) :: c_M_fitLine_101
def c_M_fitLine_98 : List eg_I := .inl (98, 1, .iload 2, 0, 0) :: c_M_fitLine_99
def c_M_fitLine_97 : List eg_I := .inl (97, 1, .aload 0, 0, 0) :: c_M_fitLine_98
def c_M_fitLine_95 : List eg_I := .inl (95, 2, .lstore 14, 0, 0) :: c_M_fitLine_97
def c_M_fitLine_94 : List eg_I := .inl (94, 1, .i2l, 0, 0) :: c_M_fitLine_95
def c_M_fitLine_93 : List eg_I := .inl (93, 1, .isub, 0, 0) :: c_M_fitLine_94
def c_M_fitLine_92 : List eg_I := .inl (92, 1, .iaload, 0, 0) :: c_M_fitLine_93
def c_M_fitLine_89 : List eg_I := .inr (89, 0, 103, n_M_at_II, 2, 12, 0, 0) :: c_M_fitLine_92
def c_M_fitLine_87 : List eg_I := .inl (87, 2, .iload 10, 0, 0) :: c_M_fitLine_89
def c_M_fitLine_86 : List eg_I := .inl (86, 1, .iload 2, 0, 0) :: c_M_fitLine_87
def c_M_fitLine_83 : List eg_I := .inl (83, 3, .getfield 16, 12, 2) :: c_M_fitLine_86
def c_M_fitLine_82 : List eg_I := .inl (82, 1, .aload 0, 0, 0) :: c_M_fitLine_83
def c_M_fitLine_81 : List eg_I := .inl (81, 1, .iaload, 0, 0) :: c_M_fitLine_82
def c_M_fitLine_78 : List eg_I := .inr (78, 0, 103, n_M_at_II, 2, 12, 0, 0) :: c_M_fitLine_81
def c_M_fitLine_76 : List eg_I := .inl (76, 2, .iload 11, 0, 0) :: c_M_fitLine_78
def c_M_fitLine_75 : List eg_I := .inl (75, 1, .iload 2, 0, 0) :: c_M_fitLine_76
def c_M_fitLine_72 : List eg_I := .inl (72, 3, .getfield 16, 12, 2) :: c_M_fitLine_75
def c_M_fitLine_71 : List eg_I := .inl (71, 1, .aload 0, 0, 0) :: c_M_fitLine_72
def c_M_fitLine_69 : List eg_I := .inl (69, 2, .lstore 12, 0, 0) :: c_M_fitLine_71
def c_M_fitLine_68 : List eg_I := .inl (68, 1, .i2l, 0, 0) :: c_M_fitLine_69
def c_M_fitLine_67 : List eg_I := .inl (67, 1, .isub, 0, 0) :: c_M_fitLine_68
def c_M_fitLine_66 : List eg_I := .inl (66, 1, .iaload, 0, 0) :: c_M_fitLine_67
def c_M_fitLine_63 : List eg_I := .inr (63, 0, 103, n_M_at_II, 2, 12, 0, 0) :: c_M_fitLine_66
def c_M_fitLine_61 : List eg_I := .inl (61, 2, .iload 10, 0, 0) :: c_M_fitLine_63
def c_M_fitLine_60 : List eg_I := .inl (60, 1, .iload 2, 0, 0) :: c_M_fitLine_61
def c_M_fitLine_57 : List eg_I := .inl (57, 3, .getfield 13, 12, 1) :: c_M_fitLine_60
def c_M_fitLine_56 : List eg_I := .inl (56, 1, .aload 0, 0, 0) :: c_M_fitLine_57
def c_M_fitLine_55 : List eg_I := .inl (55, 1, .iaload, 0, 0) :: c_M_fitLine_56
def c_M_fitLine_52 : List eg_I := .inr (52, 0, 103, n_M_at_II, 2, 12, 0, 0) :: c_M_fitLine_55
def c_M_fitLine_50 : List eg_I := .inl (50, 2, .iload 11, 0, 0) :: c_M_fitLine_52
def c_M_fitLine_49 : List eg_I := .inl (49, 1, .iload 2, 0, 0) :: c_M_fitLine_50
def c_M_fitLine_46 : List eg_I := .inl (46, 3, .getfield 13, 12, 1) :: c_M_fitLine_49
def c_M_fitLine_45 : List eg_I := .inl (45, 1, .aload 0, 0, 0) :: c_M_fitLine_46
def c_M_fitLine_42 : List eg_I := .inl (42, 3, .if_icmp .ge (178), 220, 0) :: c_M_fitLine_45
def c_M_fitLine_41 : List eg_I := .inl (41, 1, .iaload, 0, 0) :: c_M_fitLine_42
def c_M_fitLine_40 : List eg_I := .inl (40, 1, .iload 2, 0, 0) :: c_M_fitLine_41
def c_M_fitLine_37 : List eg_I := .inl (37, 3, .getfield 9, 12, 0) :: c_M_fitLine_40
def c_M_fitLine_36 : List eg_I := .inl (36, 1, .aload 0, 0, 0) :: c_M_fitLine_37
def c_M_fitLine_34 : List eg_I := .inl (34, 2, .iload 11, 0, 0) :: c_M_fitLine_36
def c_M_fitLine_32 : List eg_I := .inl (32, 2, .istore 11, 0, 0) :: [.inl (34, 0, .nop, 0, 0)]
def c_M_fitLine_31 : List eg_I := .inl (31, 1, .iadd, 0, 0) :: c_M_fitLine_32
def c_M_fitLine_30 : List eg_I := .inl (30, 1, .iconst (1), 0, 0) :: c_M_fitLine_31
def c_M_fitLine_28 : List eg_I := .inl (28, 2, .iload 10, 0, 0) :: c_M_fitLine_30
def c_M_fitLine_25 : List eg_I := .inl (25, 3, .if_icmp .ge (201), 226, 0) :: c_M_fitLine_28
def c_M_fitLine_24 : List eg_I := .inl (24, 1, .iaload, 0, 0) :: c_M_fitLine_25
def c_M_fitLine_23 : List eg_I := .inl (23, 1, .iload 2, 0, 0) :: c_M_fitLine_24
def c_M_fitLine_20 : List eg_I := .inl (20, 3, .getfield 9, 12, 0) :: c_M_fitLine_23
def c_M_fitLine_19 : List eg_I := .inl (19, 1, .aload 0, 0, 0) :: c_M_fitLine_20
def c_M_fitLine_17 : List eg_I := .inl (17, 2, .iload 10, 0, 0) :: c_M_fitLine_19
def c_M_fitLine_15 : List eg_I := .inl (15, 2, .istore 10, 0, 0) :: [.inl (17, 0, .nop, 0, 0)]
def c_M_fitLine_14 : List eg_I := .inl (14, 1, .iconst (0), 0, 0) :: c_M_fitLine_15
def c_M_fitLine_12 : List eg_I := .inl (12, 2, .istore 9, 0, 0) :: c_M_fitLine_14
def c_M_fitLine_11 : List eg_I := .inl (11, 1, .iconst (0), 0, 0) :: c_M_fitLine_12
def c_M_fitLine_9 : List eg_I := .inl (9, 2, .istore 8, 0, 0) :: c_M_fitLine_11
def c_M_fitLine_8 : List eg_I := .inl (8, 1, .iconst (0), 0, 0) :: c_M_fitLine_9
def c_M_fitLine_6 : List eg_I := .inl (6, 2, .lstore 6, 0, 0) :: c_M_fitLine_8
def c_M_fitLine_5 : List eg_I := .inl (5, 1, .sipush (1), 0, 0) :: c_M_fitLine_6
def c_M_fitLine_3 : List eg_I := .inl (3, 2, .lstore 4, 0, 0) :: c_M_fitLine_5
def c_M_fitLine_2 : List eg_I := .inl (2, 1, .sipush (0), 0, 0) :: c_M_fitLine_3
def c_M_fitLine_1 : List eg_I := .inl (1, 1, .istore 3, 0, 0) :: c_M_fitLine_2
def c_M_fitLine_0 : List eg_I := .inl (0, 1, .iconst (0), 0, 0) :: c_M_fitLine_1
section
variable {rm : Room} {K : Nat → Nat → Nat → eg_Lo → List Value → List eg_E → Prop} {Q : Option Value → List eg_E → Prop} {kc ks : Nat} {loc : eg_Lo} {st : List Value} {h : List eg_E}
theorem s_M_fitLine_0  : wps rm K Q c_M_fitLine_0 kc ks loc (st) h = wps rm K Q c_M_fitLine_1 kc ks loc (.int (0) :: st) h := rfl
theorem s_M_fitLine_1 {x : Int32} : wps rm K Q c_M_fitLine_1 kc ks loc (.int x :: st) h = wps rm K Q c_M_fitLine_2 kc ks (eg_set1 loc 3 (.int x)) (st) h := rfl
theorem s_M_fitLine_2  : wps rm K Q c_M_fitLine_2 kc ks loc (st) h = wps rm K Q c_M_fitLine_3 kc ks loc (.long (0) :: st) h := rfl
theorem s_M_fitLine_3 {x : Int64} : wps rm K Q c_M_fitLine_3 kc ks loc (.long x :: st) h = wps rm K Q c_M_fitLine_5 kc ks (eg_set2 loc 4 (.long x)) (st) h := rfl
theorem s_M_fitLine_5  : wps rm K Q c_M_fitLine_5 kc ks loc (st) h = wps rm K Q c_M_fitLine_6 kc ks loc (.long (1) :: st) h := rfl
theorem s_M_fitLine_6 {x : Int64} : wps rm K Q c_M_fitLine_6 kc ks loc (.long x :: st) h = wps rm K Q c_M_fitLine_8 kc ks (eg_set2 loc 6 (.long x)) (st) h := rfl
theorem s_M_fitLine_8  : wps rm K Q c_M_fitLine_8 kc ks loc (st) h = wps rm K Q c_M_fitLine_9 kc ks loc (.int (0) :: st) h := rfl
theorem s_M_fitLine_9 {x : Int32} : wps rm K Q c_M_fitLine_9 kc ks loc (.int x :: st) h = wps rm K Q c_M_fitLine_11 kc ks (eg_set1 loc 8 (.int x)) (st) h := rfl
theorem s_M_fitLine_11  : wps rm K Q c_M_fitLine_11 kc ks loc (st) h = wps rm K Q c_M_fitLine_12 kc ks loc (.int (0) :: st) h := rfl
theorem s_M_fitLine_12 {x : Int32} : wps rm K Q c_M_fitLine_12 kc ks loc (.int x :: st) h = wps rm K Q c_M_fitLine_14 kc ks (eg_set1 loc 9 (.int x)) (st) h := rfl
theorem s_M_fitLine_14  : wps rm K Q c_M_fitLine_14 kc ks loc (st) h = wps rm K Q c_M_fitLine_15 kc ks loc (.int (0) :: st) h := rfl
theorem s_M_fitLine_15 {x : Int32} : wps rm K Q c_M_fitLine_15 kc ks loc (.int x :: st) h = K 17 kc ks (eg_set1 loc 10 (.int x)) (st) h := rfl
theorem s_M_fitLine_17 {x : Int32} {l0 l1 l2 l3 l4 l5 l6 l7 l8 l9 : Option Value} {l : eg_Lo} : wps rm K Q c_M_fitLine_17 kc ks (l0 :: l1 :: l2 :: l3 :: l4 :: l5 :: l6 :: l7 :: l8 :: l9 :: some (.int x) :: l) (st) h = wps rm K Q c_M_fitLine_19 kc ks (l0 :: l1 :: l2 :: l3 :: l4 :: l5 :: l6 :: l7 :: l8 :: l9 :: some (.int x) :: l) (.int x :: st) h := rfl
theorem s_M_fitLine_19 {x : Nat} {l : eg_Lo} : wps rm K Q c_M_fitLine_19 kc ks (some (.ref x) :: l) (st) h = wps rm K Q c_M_fitLine_20 kc ks (some (.ref x) :: l) (.ref x :: st) h := rfl
theorem s_M_fitLine_20 {x : Nat} : wps rm K Q c_M_fitLine_20 kc ks loc (.ref (x + 1) :: st) h = eg_gf h x 12 0 (fun v => wps rm K Q c_M_fitLine_23 kc ks loc (v :: st) h) := rfl
theorem s_M_fitLine_23 {x : Int32} {l0 l1 : Option Value} {l : eg_Lo} : wps rm K Q c_M_fitLine_23 kc ks (l0 :: l1 :: some (.int x) :: l) (st) h = wps rm K Q c_M_fitLine_24 kc ks (l0 :: l1 :: some (.int x) :: l) (.int x :: st) h := rfl
theorem s_M_fitLine_24 {x : Nat} {i : Int32} : wps rm K Q c_M_fitLine_24 kc ks loc (.int i :: .ref (x + 1) :: st) h = eg_ia h x i (fun v => wps rm K Q c_M_fitLine_25 kc ks loc (.int v :: st) h) := rfl
theorem s_M_fitLine_25 {x y : Int32} : wps rm K Q c_M_fitLine_25 kc ks loc (.int y :: .int x :: st) h = ((y ≤ x → K 226 kc ks loc st h) ∧ (¬ y ≤ x → wps rm K Q c_M_fitLine_28 kc ks loc (st) h)) := rfl
theorem s_M_fitLine_28 {x : Int32} {l0 l1 l2 l3 l4 l5 l6 l7 l8 l9 : Option Value} {l : eg_Lo} : wps rm K Q c_M_fitLine_28 kc ks (l0 :: l1 :: l2 :: l3 :: l4 :: l5 :: l6 :: l7 :: l8 :: l9 :: some (.int x) :: l) (st) h = wps rm K Q c_M_fitLine_30 kc ks (l0 :: l1 :: l2 :: l3 :: l4 :: l5 :: l6 :: l7 :: l8 :: l9 :: some (.int x) :: l) (.int x :: st) h := rfl
theorem s_M_fitLine_30  : wps rm K Q c_M_fitLine_30 kc ks loc (st) h = wps rm K Q c_M_fitLine_31 kc ks loc (.int (1) :: st) h := rfl
theorem s_M_fitLine_31 {x y : Int32} : wps rm K Q c_M_fitLine_31 kc ks loc (.int y :: .int x :: st) h = wps rm K Q c_M_fitLine_32 kc ks loc (.int (x + y) :: st) h := rfl
theorem s_M_fitLine_32 {x : Int32} : wps rm K Q c_M_fitLine_32 kc ks loc (.int x :: st) h = K 34 kc ks (eg_set1 loc 11 (.int x)) (st) h := rfl
theorem s_M_fitLine_34 {x : Int32} {l0 l1 l2 l3 l4 l5 l6 l7 l8 l9 l10 : Option Value} {l : eg_Lo} : wps rm K Q c_M_fitLine_34 kc ks (l0 :: l1 :: l2 :: l3 :: l4 :: l5 :: l6 :: l7 :: l8 :: l9 :: l10 :: some (.int x) :: l) (st) h = wps rm K Q c_M_fitLine_36 kc ks (l0 :: l1 :: l2 :: l3 :: l4 :: l5 :: l6 :: l7 :: l8 :: l9 :: l10 :: some (.int x) :: l) (.int x :: st) h := rfl
theorem s_M_fitLine_36 {x : Nat} {l : eg_Lo} : wps rm K Q c_M_fitLine_36 kc ks (some (.ref x) :: l) (st) h = wps rm K Q c_M_fitLine_37 kc ks (some (.ref x) :: l) (.ref x :: st) h := rfl
theorem s_M_fitLine_37 {x : Nat} : wps rm K Q c_M_fitLine_37 kc ks loc (.ref (x + 1) :: st) h = eg_gf h x 12 0 (fun v => wps rm K Q c_M_fitLine_40 kc ks loc (v :: st) h) := rfl
theorem s_M_fitLine_40 {x : Int32} {l0 l1 : Option Value} {l : eg_Lo} : wps rm K Q c_M_fitLine_40 kc ks (l0 :: l1 :: some (.int x) :: l) (st) h = wps rm K Q c_M_fitLine_41 kc ks (l0 :: l1 :: some (.int x) :: l) (.int x :: st) h := rfl
theorem s_M_fitLine_41 {x : Nat} {i : Int32} : wps rm K Q c_M_fitLine_41 kc ks loc (.int i :: .ref (x + 1) :: st) h = eg_ia h x i (fun v => wps rm K Q c_M_fitLine_42 kc ks loc (.int v :: st) h) := rfl
theorem s_M_fitLine_42 {x y : Int32} : wps rm K Q c_M_fitLine_42 kc ks loc (.int y :: .int x :: st) h = ((y ≤ x → K 220 kc ks loc st h) ∧ (¬ y ≤ x → wps rm K Q c_M_fitLine_45 kc ks loc (st) h)) := rfl
theorem s_M_fitLine_45 {x : Nat} {l : eg_Lo} : wps rm K Q c_M_fitLine_45 kc ks (some (.ref x) :: l) (st) h = wps rm K Q c_M_fitLine_46 kc ks (some (.ref x) :: l) (.ref x :: st) h := rfl
theorem s_M_fitLine_46 {x : Nat} : wps rm K Q c_M_fitLine_46 kc ks loc (.ref (x + 1) :: st) h = eg_gf h x 12 1 (fun v => wps rm K Q c_M_fitLine_49 kc ks loc (v :: st) h) := rfl
theorem s_M_fitLine_49 {x : Int32} {l0 l1 : Option Value} {l : eg_Lo} : wps rm K Q c_M_fitLine_49 kc ks (l0 :: l1 :: some (.int x) :: l) (st) h = wps rm K Q c_M_fitLine_50 kc ks (l0 :: l1 :: some (.int x) :: l) (.int x :: st) h := rfl
theorem s_M_fitLine_50 {x : Int32} {l0 l1 l2 l3 l4 l5 l6 l7 l8 l9 l10 : Option Value} {l : eg_Lo} : wps rm K Q c_M_fitLine_50 kc ks (l0 :: l1 :: l2 :: l3 :: l4 :: l5 :: l6 :: l7 :: l8 :: l9 :: l10 :: some (.int x) :: l) (st) h = wps rm K Q c_M_fitLine_52 kc ks (l0 :: l1 :: l2 :: l3 :: l4 :: l5 :: l6 :: l7 :: l8 :: l9 :: l10 :: some (.int x) :: l) (.int x :: st) h := rfl
theorem s_M_fitLine_52  {a1 : Value} {a2 : Value} : wps rm K Q c_M_fitLine_52 kc ks loc (a2 :: a1 :: st) h = (st.length ≤ 4 ∧ eg_Cs n_M_at_II [a1, a2] h (fun v h9 => wps rm K Q c_M_fitLine_55 kc ks loc (v.toList ++ st) h9)) := eg_c0_2
theorem s_M_fitLine_55 {x : Nat} {i : Int32} : wps rm K Q c_M_fitLine_55 kc ks loc (.int i :: .ref (x + 1) :: st) h = eg_ia h x i (fun v => wps rm K Q c_M_fitLine_56 kc ks loc (.int v :: st) h) := rfl
theorem s_M_fitLine_56 {x : Nat} {l : eg_Lo} : wps rm K Q c_M_fitLine_56 kc ks (some (.ref x) :: l) (st) h = wps rm K Q c_M_fitLine_57 kc ks (some (.ref x) :: l) (.ref x :: st) h := rfl
theorem s_M_fitLine_57 {x : Nat} : wps rm K Q c_M_fitLine_57 kc ks loc (.ref (x + 1) :: st) h = eg_gf h x 12 1 (fun v => wps rm K Q c_M_fitLine_60 kc ks loc (v :: st) h) := rfl
theorem s_M_fitLine_60 {x : Int32} {l0 l1 : Option Value} {l : eg_Lo} : wps rm K Q c_M_fitLine_60 kc ks (l0 :: l1 :: some (.int x) :: l) (st) h = wps rm K Q c_M_fitLine_61 kc ks (l0 :: l1 :: some (.int x) :: l) (.int x :: st) h := rfl
theorem s_M_fitLine_61 {x : Int32} {l0 l1 l2 l3 l4 l5 l6 l7 l8 l9 : Option Value} {l : eg_Lo} : wps rm K Q c_M_fitLine_61 kc ks (l0 :: l1 :: l2 :: l3 :: l4 :: l5 :: l6 :: l7 :: l8 :: l9 :: some (.int x) :: l) (st) h = wps rm K Q c_M_fitLine_63 kc ks (l0 :: l1 :: l2 :: l3 :: l4 :: l5 :: l6 :: l7 :: l8 :: l9 :: some (.int x) :: l) (.int x :: st) h := rfl
theorem s_M_fitLine_63  {a1 : Value} {a2 : Value} : wps rm K Q c_M_fitLine_63 kc ks loc (a2 :: a1 :: st) h = (st.length ≤ 4 ∧ eg_Cs n_M_at_II [a1, a2] h (fun v h9 => wps rm K Q c_M_fitLine_66 kc ks loc (v.toList ++ st) h9)) := eg_c0_2
theorem s_M_fitLine_66 {x : Nat} {i : Int32} : wps rm K Q c_M_fitLine_66 kc ks loc (.int i :: .ref (x + 1) :: st) h = eg_ia h x i (fun v => wps rm K Q c_M_fitLine_67 kc ks loc (.int v :: st) h) := rfl
theorem s_M_fitLine_67 {x y : Int32} : wps rm K Q c_M_fitLine_67 kc ks loc (.int y :: .int x :: st) h = wps rm K Q c_M_fitLine_68 kc ks loc (.int (x - y) :: st) h := rfl
theorem s_M_fitLine_68 {x : Int32} : wps rm K Q c_M_fitLine_68 kc ks loc (.int x :: st) h = wps rm K Q c_M_fitLine_69 kc ks loc (.long (x.toInt64) :: st) h := rfl
theorem s_M_fitLine_69 {x : Int64} : wps rm K Q c_M_fitLine_69 kc ks loc (.long x :: st) h = wps rm K Q c_M_fitLine_71 kc ks (eg_set2 loc 12 (.long x)) (st) h := rfl
theorem s_M_fitLine_71 {x : Nat} {l : eg_Lo} : wps rm K Q c_M_fitLine_71 kc ks (some (.ref x) :: l) (st) h = wps rm K Q c_M_fitLine_72 kc ks (some (.ref x) :: l) (.ref x :: st) h := rfl
theorem s_M_fitLine_72 {x : Nat} : wps rm K Q c_M_fitLine_72 kc ks loc (.ref (x + 1) :: st) h = eg_gf h x 12 2 (fun v => wps rm K Q c_M_fitLine_75 kc ks loc (v :: st) h) := rfl
theorem s_M_fitLine_75 {x : Int32} {l0 l1 : Option Value} {l : eg_Lo} : wps rm K Q c_M_fitLine_75 kc ks (l0 :: l1 :: some (.int x) :: l) (st) h = wps rm K Q c_M_fitLine_76 kc ks (l0 :: l1 :: some (.int x) :: l) (.int x :: st) h := rfl
theorem s_M_fitLine_76 {x : Int32} {l0 l1 l2 l3 l4 l5 l6 l7 l8 l9 l10 : Option Value} {l : eg_Lo} : wps rm K Q c_M_fitLine_76 kc ks (l0 :: l1 :: l2 :: l3 :: l4 :: l5 :: l6 :: l7 :: l8 :: l9 :: l10 :: some (.int x) :: l) (st) h = wps rm K Q c_M_fitLine_78 kc ks (l0 :: l1 :: l2 :: l3 :: l4 :: l5 :: l6 :: l7 :: l8 :: l9 :: l10 :: some (.int x) :: l) (.int x :: st) h := rfl
theorem s_M_fitLine_78  {a1 : Value} {a2 : Value} : wps rm K Q c_M_fitLine_78 kc ks loc (a2 :: a1 :: st) h = (st.length ≤ 4 ∧ eg_Cs n_M_at_II [a1, a2] h (fun v h9 => wps rm K Q c_M_fitLine_81 kc ks loc (v.toList ++ st) h9)) := eg_c0_2
theorem s_M_fitLine_81 {x : Nat} {i : Int32} : wps rm K Q c_M_fitLine_81 kc ks loc (.int i :: .ref (x + 1) :: st) h = eg_ia h x i (fun v => wps rm K Q c_M_fitLine_82 kc ks loc (.int v :: st) h) := rfl
theorem s_M_fitLine_82 {x : Nat} {l : eg_Lo} : wps rm K Q c_M_fitLine_82 kc ks (some (.ref x) :: l) (st) h = wps rm K Q c_M_fitLine_83 kc ks (some (.ref x) :: l) (.ref x :: st) h := rfl
theorem s_M_fitLine_83 {x : Nat} : wps rm K Q c_M_fitLine_83 kc ks loc (.ref (x + 1) :: st) h = eg_gf h x 12 2 (fun v => wps rm K Q c_M_fitLine_86 kc ks loc (v :: st) h) := rfl
theorem s_M_fitLine_86 {x : Int32} {l0 l1 : Option Value} {l : eg_Lo} : wps rm K Q c_M_fitLine_86 kc ks (l0 :: l1 :: some (.int x) :: l) (st) h = wps rm K Q c_M_fitLine_87 kc ks (l0 :: l1 :: some (.int x) :: l) (.int x :: st) h := rfl
theorem s_M_fitLine_87 {x : Int32} {l0 l1 l2 l3 l4 l5 l6 l7 l8 l9 : Option Value} {l : eg_Lo} : wps rm K Q c_M_fitLine_87 kc ks (l0 :: l1 :: l2 :: l3 :: l4 :: l5 :: l6 :: l7 :: l8 :: l9 :: some (.int x) :: l) (st) h = wps rm K Q c_M_fitLine_89 kc ks (l0 :: l1 :: l2 :: l3 :: l4 :: l5 :: l6 :: l7 :: l8 :: l9 :: some (.int x) :: l) (.int x :: st) h := rfl
theorem s_M_fitLine_89  {a1 : Value} {a2 : Value} : wps rm K Q c_M_fitLine_89 kc ks loc (a2 :: a1 :: st) h = (st.length ≤ 4 ∧ eg_Cs n_M_at_II [a1, a2] h (fun v h9 => wps rm K Q c_M_fitLine_92 kc ks loc (v.toList ++ st) h9)) := eg_c0_2
theorem s_M_fitLine_92 {x : Nat} {i : Int32} : wps rm K Q c_M_fitLine_92 kc ks loc (.int i :: .ref (x + 1) :: st) h = eg_ia h x i (fun v => wps rm K Q c_M_fitLine_93 kc ks loc (.int v :: st) h) := rfl
theorem s_M_fitLine_93 {x y : Int32} : wps rm K Q c_M_fitLine_93 kc ks loc (.int y :: .int x :: st) h = wps rm K Q c_M_fitLine_94 kc ks loc (.int (x - y) :: st) h := rfl
theorem s_M_fitLine_94 {x : Int32} : wps rm K Q c_M_fitLine_94 kc ks loc (.int x :: st) h = wps rm K Q c_M_fitLine_95 kc ks loc (.long (x.toInt64) :: st) h := rfl
theorem s_M_fitLine_95 {x : Int64} : wps rm K Q c_M_fitLine_95 kc ks loc (.long x :: st) h = wps rm K Q c_M_fitLine_97 kc ks (eg_set2 loc 14 (.long x)) (st) h := rfl
theorem s_M_fitLine_97 {x : Nat} {l : eg_Lo} : wps rm K Q c_M_fitLine_97 kc ks (some (.ref x) :: l) (st) h = wps rm K Q c_M_fitLine_98 kc ks (some (.ref x) :: l) (.ref x :: st) h := rfl
theorem s_M_fitLine_98 {x : Int32} {l0 l1 : Option Value} {l : eg_Lo} : wps rm K Q c_M_fitLine_98 kc ks (l0 :: l1 :: some (.int x) :: l) (st) h = wps rm K Q c_M_fitLine_99 kc ks (l0 :: l1 :: some (.int x) :: l) (.int x :: st) h := rfl
theorem s_M_fitLine_99 {x : Int32} {l0 l1 l2 l3 l4 l5 l6 l7 l8 l9 : Option Value} {l : eg_Lo} : wps rm K Q c_M_fitLine_99 kc ks (l0 :: l1 :: l2 :: l3 :: l4 :: l5 :: l6 :: l7 :: l8 :: l9 :: some (.int x) :: l) (st) h = wps rm K Q c_M_fitLine_101 kc ks (l0 :: l1 :: l2 :: l3 :: l4 :: l5 :: l6 :: l7 :: l8 :: l9 :: some (.int x) :: l) (.int x :: st) h := rfl
theorem s_M_fitLine_101  {a1 : Value} {a2 : Value} {x : Nat} : wps rm K Q c_M_fitLine_101 kc ks loc (a2 :: a1 :: .ref (x + 1) :: st) h = (eg_cls h x 12 ∧ st.length ≤ 4 ∧ eg_Cs n_M_isHere (.ref (x + 1) :: [a1, a2]) h (fun v h9 => wps rm K Q c_M_fitLine_104 kc ks loc (v.toList ++ st) h9)) := eg_c1_2
theorem s_M_fitLine_104 {x : Int32} : wps rm K Q c_M_fitLine_104 kc ks loc (.int x :: st) h = ((x = 0 → K 214 kc ks loc st h) ∧ (¬ x = 0 → wps rm K Q c_M_fitLine_107 kc ks loc (st) h)) := rfl
theorem s_M_fitLine_107 {x : Nat} {l : eg_Lo} : wps rm K Q c_M_fitLine_107 kc ks (some (.ref x) :: l) (st) h = wps rm K Q c_M_fitLine_108 kc ks (some (.ref x) :: l) (.ref x :: st) h := rfl
theorem s_M_fitLine_108 {x : Int32} {l0 l1 : Option Value} {l : eg_Lo} : wps rm K Q c_M_fitLine_108 kc ks (l0 :: l1 :: some (.int x) :: l) (st) h = wps rm K Q c_M_fitLine_109 kc ks (l0 :: l1 :: some (.int x) :: l) (.int x :: st) h := rfl
theorem s_M_fitLine_109 {x : Int32} {l0 l1 l2 l3 l4 l5 l6 l7 l8 l9 l10 : Option Value} {l : eg_Lo} : wps rm K Q c_M_fitLine_109 kc ks (l0 :: l1 :: l2 :: l3 :: l4 :: l5 :: l6 :: l7 :: l8 :: l9 :: l10 :: some (.int x) :: l) (st) h = wps rm K Q c_M_fitLine_111 kc ks (l0 :: l1 :: l2 :: l3 :: l4 :: l5 :: l6 :: l7 :: l8 :: l9 :: l10 :: some (.int x) :: l) (.int x :: st) h := rfl
theorem s_M_fitLine_111  {a1 : Value} {a2 : Value} {x : Nat} : wps rm K Q c_M_fitLine_111 kc ks loc (a2 :: a1 :: .ref (x + 1) :: st) h = (eg_cls h x 12 ∧ st.length ≤ 4 ∧ eg_Cs n_M_isHere (.ref (x + 1) :: [a1, a2]) h (fun v h9 => wps rm K Q c_M_fitLine_114 kc ks loc (v.toList ++ st) h9)) := eg_c1_2
theorem s_M_fitLine_114 {x : Int32} : wps rm K Q c_M_fitLine_114 kc ks loc (.int x :: st) h = ((x = 0 → K 214 kc ks loc st h) ∧ (¬ x = 0 → wps rm K Q c_M_fitLine_117 kc ks loc (st) h)) := rfl
theorem s_M_fitLine_117 {x : Int64} {l0 l1 l2 l3 l4 l5 l6 l7 l8 l9 l10 l11 : Option Value} {l : eg_Lo} : wps rm K Q c_M_fitLine_117 kc ks (l0 :: l1 :: l2 :: l3 :: l4 :: l5 :: l6 :: l7 :: l8 :: l9 :: l10 :: l11 :: some (.long x) :: l) (st) h = wps rm K Q c_M_fitLine_119 kc ks (l0 :: l1 :: l2 :: l3 :: l4 :: l5 :: l6 :: l7 :: l8 :: l9 :: l10 :: l11 :: some (.long x) :: l) (.long x :: st) h := rfl
theorem s_M_fitLine_119  : wps rm K Q c_M_fitLine_119 kc ks loc (st) h = wps rm K Q c_M_fitLine_120 kc ks loc (.long (0) :: st) h := rfl
theorem s_M_fitLine_120 {x y : Int64} : wps rm K Q c_M_fitLine_120 kc ks loc (.long y :: .long x :: st) h = wps rm K Q c_M_fitLine_121 kc ks loc (.int (lg_cmp x y) :: st) h := rfl
theorem s_M_fitLine_121 {x : Int32} : wps rm K Q c_M_fitLine_121 kc ks loc (.int x :: st) h = ((¬ x = 0 → K 131 kc ks loc st h) ∧ (x = 0 → wps rm K Q c_M_fitLine_124 kc ks loc (st) h)) := rfl
theorem s_M_fitLine_124 {x : Int64} {l0 l1 l2 l3 l4 l5 l6 l7 l8 l9 l10 l11 l12 l13 : Option Value} {l : eg_Lo} : wps rm K Q c_M_fitLine_124 kc ks (l0 :: l1 :: l2 :: l3 :: l4 :: l5 :: l6 :: l7 :: l8 :: l9 :: l10 :: l11 :: l12 :: l13 :: some (.long x) :: l) (st) h = wps rm K Q c_M_fitLine_126 kc ks (l0 :: l1 :: l2 :: l3 :: l4 :: l5 :: l6 :: l7 :: l8 :: l9 :: l10 :: l11 :: l12 :: l13 :: some (.long x) :: l) (.long x :: st) h := rfl
theorem s_M_fitLine_126  : wps rm K Q c_M_fitLine_126 kc ks loc (st) h = wps rm K Q c_M_fitLine_127 kc ks loc (.long (0) :: st) h := rfl
theorem s_M_fitLine_127 {x y : Int64} : wps rm K Q c_M_fitLine_127 kc ks loc (.long y :: .long x :: st) h = wps rm K Q c_M_fitLine_128 kc ks loc (.int (lg_cmp x y) :: st) h := rfl
theorem s_M_fitLine_128 {x : Int32} : wps rm K Q c_M_fitLine_128 kc ks loc (.int x :: st) h = ((x = 0 → K 214 kc ks loc st h) ∧ (¬ x = 0 → wps rm K Q c_M_fitLine_131 kc ks loc (st) h)) := rfl
theorem s_M_fitLine_131 {x : Nat} {l : eg_Lo} : wps rm K Q c_M_fitLine_131 kc ks (some (.ref x) :: l) (st) h = wps rm K Q c_M_fitLine_132 kc ks (some (.ref x) :: l) (.ref x :: st) h := rfl
theorem s_M_fitLine_132 {x : Int32} {l0 l1 : Option Value} {l : eg_Lo} : wps rm K Q c_M_fitLine_132 kc ks (l0 :: l1 :: some (.int x) :: l) (st) h = wps rm K Q c_M_fitLine_133 kc ks (l0 :: l1 :: some (.int x) :: l) (.int x :: st) h := rfl
theorem s_M_fitLine_133 {x : Int32} {l0 l1 l2 l3 l4 l5 l6 l7 l8 l9 : Option Value} {l : eg_Lo} : wps rm K Q c_M_fitLine_133 kc ks (l0 :: l1 :: l2 :: l3 :: l4 :: l5 :: l6 :: l7 :: l8 :: l9 :: some (.int x) :: l) (st) h = wps rm K Q c_M_fitLine_135 kc ks (l0 :: l1 :: l2 :: l3 :: l4 :: l5 :: l6 :: l7 :: l8 :: l9 :: some (.int x) :: l) (.int x :: st) h := rfl
theorem s_M_fitLine_135 {x : Int64} {l0 l1 l2 l3 l4 l5 l6 l7 l8 l9 l10 l11 l12 l13 : Option Value} {l : eg_Lo} : wps rm K Q c_M_fitLine_135 kc ks (l0 :: l1 :: l2 :: l3 :: l4 :: l5 :: l6 :: l7 :: l8 :: l9 :: l10 :: l11 :: l12 :: l13 :: some (.long x) :: l) (st) h = wps rm K Q c_M_fitLine_137 kc ks (l0 :: l1 :: l2 :: l3 :: l4 :: l5 :: l6 :: l7 :: l8 :: l9 :: l10 :: l11 :: l12 :: l13 :: some (.long x) :: l) (.long x :: st) h := rfl
theorem s_M_fitLine_137 {x : Int64} : wps rm K Q c_M_fitLine_137 kc ks loc (.long x :: st) h = wps rm K Q c_M_fitLine_138 kc ks loc (.long (-x) :: st) h := rfl
theorem s_M_fitLine_138 {x : Int64} {l0 l1 l2 l3 l4 l5 l6 l7 l8 l9 l10 l11 : Option Value} {l : eg_Lo} : wps rm K Q c_M_fitLine_138 kc ks (l0 :: l1 :: l2 :: l3 :: l4 :: l5 :: l6 :: l7 :: l8 :: l9 :: l10 :: l11 :: some (.long x) :: l) (st) h = wps rm K Q c_M_fitLine_140 kc ks (l0 :: l1 :: l2 :: l3 :: l4 :: l5 :: l6 :: l7 :: l8 :: l9 :: l10 :: l11 :: some (.long x) :: l) (.long x :: st) h := rfl
theorem s_M_fitLine_140  : wps rm K Q c_M_fitLine_140 kc ks loc (st) h = wps rm K Q c_M_fitLine_141 kc ks loc (.long (0) :: st) h := rfl
theorem s_M_fitLine_141  {a1 : Value} {a2 : Value} {a3 : Value} {a4 : Value} {a5 : Value} {x : Nat} : wps rm K Q c_M_fitLine_141 kc ks loc (a5 :: a4 :: a3 :: a2 :: a1 :: .ref (x + 1) :: st) h = (eg_cls h x 12 ∧ st.length ≤ 4 ∧ eg_Cs n_M_crosses (.ref (x + 1) :: [a1, a2, a3, a4, a5]) h (fun v h9 => wps rm K Q c_M_fitLine_144 kc ks loc (v.toList ++ st) h9)) := eg_c1_5
theorem s_M_fitLine_144 {x : Nat} {l : eg_Lo} : wps rm K Q c_M_fitLine_144 kc ks (some (.ref x) :: l) (st) h = wps rm K Q c_M_fitLine_145 kc ks (some (.ref x) :: l) (.ref x :: st) h := rfl
theorem s_M_fitLine_145 {x : Nat} : wps rm K Q c_M_fitLine_145 kc ks loc (.ref (x + 1) :: st) h = eg_gf h x 12 29 (fun v => wps rm K Q c_M_fitLine_148 kc ks loc (v :: st) h) := rfl
theorem s_M_fitLine_148 {x : Nat} {l : eg_Lo} : wps rm K Q c_M_fitLine_148 kc ks (some (.ref x) :: l) (st) h = wps rm K Q c_M_fitLine_149 kc ks (some (.ref x) :: l) (.ref x :: st) h := rfl
theorem s_M_fitLine_149 {x : Nat} : wps rm K Q c_M_fitLine_149 kc ks loc (.ref (x + 1) :: st) h = eg_gf h x 12 30 (fun v => wps rm K Q c_M_fitLine_152 kc ks loc (v :: st) h) := rfl
theorem s_M_fitLine_152 {x y : Int64} : wps rm K Q c_M_fitLine_152 kc ks loc (.long y :: .long x :: st) h = wps rm K Q c_M_fitLine_153 kc ks loc (.long (x - y) :: st) h := rfl
theorem s_M_fitLine_153 {x : Nat} {l : eg_Lo} : wps rm K Q c_M_fitLine_153 kc ks (some (.ref x) :: l) (st) h = wps rm K Q c_M_fitLine_154 kc ks (some (.ref x) :: l) (.ref x :: st) h := rfl
theorem s_M_fitLine_154 {x : Nat} : wps rm K Q c_M_fitLine_154 kc ks loc (.ref (x + 1) :: st) h = eg_gf h x 12 29 (fun v => wps rm K Q c_M_fitLine_157 kc ks loc (v :: st) h) := rfl
theorem s_M_fitLine_157 {x : Nat} {l : eg_Lo} : wps rm K Q c_M_fitLine_157 kc ks (some (.ref x) :: l) (st) h = wps rm K Q c_M_fitLine_158 kc ks (some (.ref x) :: l) (.ref x :: st) h := rfl
theorem s_M_fitLine_158 {x : Nat} : wps rm K Q c_M_fitLine_158 kc ks loc (.ref (x + 1) :: st) h = eg_gf h x 12 30 (fun v => wps rm K Q c_M_fitLine_161 kc ks loc (v :: st) h) := rfl
theorem s_M_fitLine_161 {x y : Int64} : wps rm K Q c_M_fitLine_161 kc ks loc (.long y :: .long x :: st) h = wps rm K Q c_M_fitLine_162 kc ks loc (.long (x - y) :: st) h := rfl
theorem s_M_fitLine_162 {x y : Int64} : wps rm K Q c_M_fitLine_162 kc ks loc (.long y :: .long x :: st) h = wps rm K Q c_M_fitLine_163 kc ks loc (.long (x * y) :: st) h := rfl
theorem s_M_fitLine_163 {x : Int64} : wps rm K Q c_M_fitLine_163 kc ks loc (.long x :: st) h = wps rm K Q c_M_fitLine_165 kc ks (eg_set2 loc 16 (.long x)) (st) h := rfl
theorem s_M_fitLine_165 {x : Int64} {l0 l1 l2 l3 l4 l5 l6 l7 l8 l9 l10 l11 : Option Value} {l : eg_Lo} : wps rm K Q c_M_fitLine_165 kc ks (l0 :: l1 :: l2 :: l3 :: l4 :: l5 :: l6 :: l7 :: l8 :: l9 :: l10 :: l11 :: some (.long x) :: l) (st) h = wps rm K Q c_M_fitLine_167 kc ks (l0 :: l1 :: l2 :: l3 :: l4 :: l5 :: l6 :: l7 :: l8 :: l9 :: l10 :: l11 :: some (.long x) :: l) (.long x :: st) h := rfl
theorem s_M_fitLine_167 {x : Int64} {l0 l1 l2 l3 l4 l5 l6 l7 l8 l9 l10 l11 : Option Value} {l : eg_Lo} : wps rm K Q c_M_fitLine_167 kc ks (l0 :: l1 :: l2 :: l3 :: l4 :: l5 :: l6 :: l7 :: l8 :: l9 :: l10 :: l11 :: some (.long x) :: l) (st) h = wps rm K Q c_M_fitLine_169 kc ks (l0 :: l1 :: l2 :: l3 :: l4 :: l5 :: l6 :: l7 :: l8 :: l9 :: l10 :: l11 :: some (.long x) :: l) (.long x :: st) h := rfl
theorem s_M_fitLine_169 {x y : Int64} : wps rm K Q c_M_fitLine_169 kc ks loc (.long y :: .long x :: st) h = wps rm K Q c_M_fitLine_170 kc ks loc (.long (x * y) :: st) h := rfl
theorem s_M_fitLine_170 {x : Int64} {l0 l1 l2 l3 l4 l5 l6 l7 l8 l9 l10 l11 l12 l13 : Option Value} {l : eg_Lo} : wps rm K Q c_M_fitLine_170 kc ks (l0 :: l1 :: l2 :: l3 :: l4 :: l5 :: l6 :: l7 :: l8 :: l9 :: l10 :: l11 :: l12 :: l13 :: some (.long x) :: l) (st) h = wps rm K Q c_M_fitLine_172 kc ks (l0 :: l1 :: l2 :: l3 :: l4 :: l5 :: l6 :: l7 :: l8 :: l9 :: l10 :: l11 :: l12 :: l13 :: some (.long x) :: l) (.long x :: st) h := rfl
theorem s_M_fitLine_172 {x : Int64} {l0 l1 l2 l3 l4 l5 l6 l7 l8 l9 l10 l11 l12 l13 : Option Value} {l : eg_Lo} : wps rm K Q c_M_fitLine_172 kc ks (l0 :: l1 :: l2 :: l3 :: l4 :: l5 :: l6 :: l7 :: l8 :: l9 :: l10 :: l11 :: l12 :: l13 :: some (.long x) :: l) (st) h = wps rm K Q c_M_fitLine_174 kc ks (l0 :: l1 :: l2 :: l3 :: l4 :: l5 :: l6 :: l7 :: l8 :: l9 :: l10 :: l11 :: l12 :: l13 :: some (.long x) :: l) (.long x :: st) h := rfl
theorem s_M_fitLine_174 {x y : Int64} : wps rm K Q c_M_fitLine_174 kc ks loc (.long y :: .long x :: st) h = wps rm K Q c_M_fitLine_175 kc ks loc (.long (x * y) :: st) h := rfl
theorem s_M_fitLine_175 {x y : Int64} : wps rm K Q c_M_fitLine_175 kc ks loc (.long y :: .long x :: st) h = wps rm K Q c_M_fitLine_176 kc ks loc (.long (x + y) :: st) h := rfl
theorem s_M_fitLine_176 {x : Int64} : wps rm K Q c_M_fitLine_176 kc ks loc (.long x :: st) h = wps rm K Q c_M_fitLine_178 kc ks (eg_set2 loc 18 (.long x)) (st) h := rfl
theorem s_M_fitLine_178 {x : Int32} {l0 l1 l2 : Option Value} {l : eg_Lo} : wps rm K Q c_M_fitLine_178 kc ks (l0 :: l1 :: l2 :: some (.int x) :: l) (st) h = wps rm K Q c_M_fitLine_179 kc ks (l0 :: l1 :: l2 :: some (.int x) :: l) (.int x :: st) h := rfl
theorem s_M_fitLine_179 {x : Int32} : wps rm K Q c_M_fitLine_179 kc ks loc (.int x :: st) h = ((x = 0 → K 196 kc ks loc st h) ∧ (¬ x = 0 → wps rm K Q c_M_fitLine_182 kc ks loc (st) h)) := rfl
theorem s_M_fitLine_182 {x : Int64} {l0 l1 l2 l3 l4 l5 l6 l7 l8 l9 l10 l11 l12 l13 l14 l15 : Option Value} {l : eg_Lo} : wps rm K Q c_M_fitLine_182 kc ks (l0 :: l1 :: l2 :: l3 :: l4 :: l5 :: l6 :: l7 :: l8 :: l9 :: l10 :: l11 :: l12 :: l13 :: l14 :: l15 :: some (.long x) :: l) (st) h = wps rm K Q c_M_fitLine_184 kc ks (l0 :: l1 :: l2 :: l3 :: l4 :: l5 :: l6 :: l7 :: l8 :: l9 :: l10 :: l11 :: l12 :: l13 :: l14 :: l15 :: some (.long x) :: l) (.long x :: st) h := rfl
theorem s_M_fitLine_184 {x : Int64} {l0 l1 l2 l3 l4 l5 l6 l7 l8 l9 l10 l11 l12 l13 l14 l15 l16 l17 : Option Value} {l : eg_Lo} : wps rm K Q c_M_fitLine_184 kc ks (l0 :: l1 :: l2 :: l3 :: l4 :: l5 :: l6 :: l7 :: l8 :: l9 :: l10 :: l11 :: l12 :: l13 :: l14 :: l15 :: l16 :: l17 :: some (.long x) :: l) (st) h = wps rm K Q c_M_fitLine_186 kc ks (l0 :: l1 :: l2 :: l3 :: l4 :: l5 :: l6 :: l7 :: l8 :: l9 :: l10 :: l11 :: l12 :: l13 :: l14 :: l15 :: l16 :: l17 :: some (.long x) :: l) (.long x :: st) h := rfl
theorem s_M_fitLine_186 {x : Int64} {l0 l1 l2 l3 : Option Value} {l : eg_Lo} : wps rm K Q c_M_fitLine_186 kc ks (l0 :: l1 :: l2 :: l3 :: some (.long x) :: l) (st) h = wps rm K Q c_M_fitLine_188 kc ks (l0 :: l1 :: l2 :: l3 :: some (.long x) :: l) (.long x :: st) h := rfl
theorem s_M_fitLine_188 {x : Int64} {l0 l1 l2 l3 l4 l5 : Option Value} {l : eg_Lo} : wps rm K Q c_M_fitLine_188 kc ks (l0 :: l1 :: l2 :: l3 :: l4 :: l5 :: some (.long x) :: l) (st) h = wps rm K Q c_M_fitLine_190 kc ks (l0 :: l1 :: l2 :: l3 :: l4 :: l5 :: some (.long x) :: l) (.long x :: st) h := rfl
theorem s_M_fitLine_190  {a1 : Value} {a2 : Value} {a3 : Value} {a4 : Value} : wps rm K Q c_M_fitLine_190 kc ks loc (a4 :: a3 :: a2 :: a1 :: st) h = (st.length ≤ 4 ∧ eg_Cs n_M_isLess [a1, a2, a3, a4] h (fun v h9 => wps rm K Q c_M_fitLine_193 kc ks loc (v.toList ++ st) h9)) := eg_c0_4
theorem s_M_fitLine_193 {x : Int32} : wps rm K Q c_M_fitLine_193 kc ks loc (.int x :: st) h = ((x = 0 → K 214 kc ks loc st h) ∧ (¬ x = 0 → wps rm K Q c_M_fitLine_196 kc ks loc (st) h)) := rfl
theorem s_M_fitLine_196  : wps rm K Q c_M_fitLine_196 kc ks loc (st) h = wps rm K Q c_M_fitLine_197 kc ks loc (.int (1) :: st) h := rfl
theorem s_M_fitLine_197 {x : Int32} : wps rm K Q c_M_fitLine_197 kc ks loc (.int x :: st) h = wps rm K Q c_M_fitLine_198 kc ks (eg_set1 loc 3 (.int x)) (st) h := rfl
theorem s_M_fitLine_198 {x : Int64} {l0 l1 l2 l3 l4 l5 l6 l7 l8 l9 l10 l11 l12 l13 l14 l15 : Option Value} {l : eg_Lo} : wps rm K Q c_M_fitLine_198 kc ks (l0 :: l1 :: l2 :: l3 :: l4 :: l5 :: l6 :: l7 :: l8 :: l9 :: l10 :: l11 :: l12 :: l13 :: l14 :: l15 :: some (.long x) :: l) (st) h = wps rm K Q c_M_fitLine_200 kc ks (l0 :: l1 :: l2 :: l3 :: l4 :: l5 :: l6 :: l7 :: l8 :: l9 :: l10 :: l11 :: l12 :: l13 :: l14 :: l15 :: some (.long x) :: l) (.long x :: st) h := rfl
theorem s_M_fitLine_200 {x : Int64} : wps rm K Q c_M_fitLine_200 kc ks loc (.long x :: st) h = wps rm K Q c_M_fitLine_202 kc ks (eg_set2 loc 4 (.long x)) (st) h := rfl
theorem s_M_fitLine_202 {x : Int64} {l0 l1 l2 l3 l4 l5 l6 l7 l8 l9 l10 l11 l12 l13 l14 l15 l16 l17 : Option Value} {l : eg_Lo} : wps rm K Q c_M_fitLine_202 kc ks (l0 :: l1 :: l2 :: l3 :: l4 :: l5 :: l6 :: l7 :: l8 :: l9 :: l10 :: l11 :: l12 :: l13 :: l14 :: l15 :: l16 :: l17 :: some (.long x) :: l) (st) h = wps rm K Q c_M_fitLine_204 kc ks (l0 :: l1 :: l2 :: l3 :: l4 :: l5 :: l6 :: l7 :: l8 :: l9 :: l10 :: l11 :: l12 :: l13 :: l14 :: l15 :: l16 :: l17 :: some (.long x) :: l) (.long x :: st) h := rfl
theorem s_M_fitLine_204 {x : Int64} : wps rm K Q c_M_fitLine_204 kc ks loc (.long x :: st) h = wps rm K Q c_M_fitLine_206 kc ks (eg_set2 loc 6 (.long x)) (st) h := rfl
theorem s_M_fitLine_206 {x : Int32} {l0 l1 l2 l3 l4 l5 l6 l7 l8 l9 : Option Value} {l : eg_Lo} : wps rm K Q c_M_fitLine_206 kc ks (l0 :: l1 :: l2 :: l3 :: l4 :: l5 :: l6 :: l7 :: l8 :: l9 :: some (.int x) :: l) (st) h = wps rm K Q c_M_fitLine_208 kc ks (l0 :: l1 :: l2 :: l3 :: l4 :: l5 :: l6 :: l7 :: l8 :: l9 :: some (.int x) :: l) (.int x :: st) h := rfl
theorem s_M_fitLine_208 {x : Int32} : wps rm K Q c_M_fitLine_208 kc ks loc (.int x :: st) h = wps rm K Q c_M_fitLine_210 kc ks (eg_set1 loc 8 (.int x)) (st) h := rfl
theorem s_M_fitLine_210 {x : Int32} {l0 l1 l2 l3 l4 l5 l6 l7 l8 l9 l10 : Option Value} {l : eg_Lo} : wps rm K Q c_M_fitLine_210 kc ks (l0 :: l1 :: l2 :: l3 :: l4 :: l5 :: l6 :: l7 :: l8 :: l9 :: l10 :: some (.int x) :: l) (st) h = wps rm K Q c_M_fitLine_212 kc ks (l0 :: l1 :: l2 :: l3 :: l4 :: l5 :: l6 :: l7 :: l8 :: l9 :: l10 :: some (.int x) :: l) (.int x :: st) h := rfl
theorem s_M_fitLine_212 {x : Int32} : wps rm K Q c_M_fitLine_212 kc ks loc (.int x :: st) h = wps rm K Q c_M_fitLine_214 kc ks (eg_set1 loc 9 (.int x)) (st) h := rfl
theorem s_M_fitLine_214 {x : Int32} {l0 l1 l2 l3 l4 l5 l6 l7 l8 l9 l10 : Option Value} {l9 : eg_Lo} : wps rm K Q c_M_fitLine_214 kc ks (l0 :: l1 :: l2 :: l3 :: l4 :: l5 :: l6 :: l7 :: l8 :: l9 :: l10 :: some (.int x) :: l9) (st) h = wps rm K Q c_M_fitLine_217 kc ks (eg_set1 (l0 :: l1 :: l2 :: l3 :: l4 :: l5 :: l6 :: l7 :: l8 :: l9 :: l10 :: some (.int x) :: l9) 11 (.int (x + (1)))) (st) h := rfl
theorem s_M_fitLine_217  : wps rm K Q c_M_fitLine_217 kc ks loc (st) h = K 34 kc ks loc st h := rfl
theorem s_M_fitLine_220 {x : Int32} {l0 l1 l2 l3 l4 l5 l6 l7 l8 l9 : Option Value} {l9 : eg_Lo} : wps rm K Q c_M_fitLine_220 kc ks (l0 :: l1 :: l2 :: l3 :: l4 :: l5 :: l6 :: l7 :: l8 :: l9 :: some (.int x) :: l9) (st) h = wps rm K Q c_M_fitLine_223 kc ks (eg_set1 (l0 :: l1 :: l2 :: l3 :: l4 :: l5 :: l6 :: l7 :: l8 :: l9 :: some (.int x) :: l9) 10 (.int (x + (1)))) (st) h := rfl
theorem s_M_fitLine_223  : wps rm K Q c_M_fitLine_223 kc ks loc (st) h = K 17 kc ks loc st h := rfl
theorem s_M_fitLine_226 {x : Int32} {l0 l1 l2 : Option Value} {l : eg_Lo} : wps rm K Q c_M_fitLine_226 kc ks (l0 :: l1 :: l2 :: some (.int x) :: l) (st) h = wps rm K Q c_M_fitLine_227 kc ks (l0 :: l1 :: l2 :: some (.int x) :: l) (.int x :: st) h := rfl
theorem s_M_fitLine_227 {x : Int32} : wps rm K Q c_M_fitLine_227 kc ks loc (.int x :: st) h = ((¬ x = 0 → K 238 kc ks loc st h) ∧ (x = 0 → wps rm K Q c_M_fitLine_230 kc ks loc (st) h)) := rfl
theorem s_M_fitLine_230 {x : Nat} {l : eg_Lo} : wps rm K Q c_M_fitLine_230 kc ks (some (.ref x) :: l) (st) h = wps rm K Q c_M_fitLine_231 kc ks (some (.ref x) :: l) (.ref x :: st) h := rfl
theorem s_M_fitLine_231  : wps rm K Q c_M_fitLine_231 kc ks loc (st) h = wps rm K Q c_M_fitLine_234 kc ks loc (.long (-1000000000000000006) :: st) h := rfl
theorem s_M_fitLine_234  {a1 : Value} {x : Nat} : wps rm K Q c_M_fitLine_234 kc ks loc (a1 :: .ref (x + 1) :: st) h = (eg_cls h x 12 ∧ st.length ≤ 4 ∧ eg_Cs n_M_finding (.ref (x + 1) :: [a1]) h (fun v h9 => wps rm K Q c_M_fitLine_237 kc ks loc (v.toList ++ st) h9)) := eg_c1_1
theorem s_M_fitLine_237 {x : Int64} : wps rm K Q c_M_fitLine_237 kc ks loc ([.long x]) h = (kc = rm.cells ∧ Q (some (.long x)) h) := rfl
theorem s_M_fitLine_238 {x : Nat} {l : eg_Lo} : wps rm K Q c_M_fitLine_238 kc ks (some (.ref x) :: l) (st) h = wps rm K Q c_M_fitLine_239 kc ks (some (.ref x) :: l) (.ref x :: st) h := rfl
theorem s_M_fitLine_239 {x : Nat} : wps rm K Q c_M_fitLine_239 kc ks loc (.ref (x + 1) :: st) h = eg_gf h x 12 1 (fun v => wps rm K Q c_M_fitLine_242 kc ks loc (v :: st) h) := rfl
theorem s_M_fitLine_242 {x : Int32} {l0 l1 : Option Value} {l : eg_Lo} : wps rm K Q c_M_fitLine_242 kc ks (l0 :: l1 :: some (.int x) :: l) (st) h = wps rm K Q c_M_fitLine_243 kc ks (l0 :: l1 :: some (.int x) :: l) (.int x :: st) h := rfl
theorem s_M_fitLine_243 {x : Int32} {l0 l1 l2 l3 l4 l5 l6 l7 l8 : Option Value} {l : eg_Lo} : wps rm K Q c_M_fitLine_243 kc ks (l0 :: l1 :: l2 :: l3 :: l4 :: l5 :: l6 :: l7 :: l8 :: some (.int x) :: l) (st) h = wps rm K Q c_M_fitLine_245 kc ks (l0 :: l1 :: l2 :: l3 :: l4 :: l5 :: l6 :: l7 :: l8 :: some (.int x) :: l) (.int x :: st) h := rfl
theorem s_M_fitLine_245  {a1 : Value} {a2 : Value} : wps rm K Q c_M_fitLine_245 kc ks loc (a2 :: a1 :: st) h = (st.length ≤ 4 ∧ eg_Cs n_M_at_II [a1, a2] h (fun v h9 => wps rm K Q c_M_fitLine_248 kc ks loc (v.toList ++ st) h9)) := eg_c0_2
theorem s_M_fitLine_248 {x : Nat} {i : Int32} : wps rm K Q c_M_fitLine_248 kc ks loc (.int i :: .ref (x + 1) :: st) h = eg_ia h x i (fun v => wps rm K Q c_M_fitLine_249 kc ks loc (.int v :: st) h) := rfl
theorem s_M_fitLine_249 {x : Nat} {l : eg_Lo} : wps rm K Q c_M_fitLine_249 kc ks (some (.ref x) :: l) (st) h = wps rm K Q c_M_fitLine_250 kc ks (some (.ref x) :: l) (.ref x :: st) h := rfl
theorem s_M_fitLine_250 {x : Nat} : wps rm K Q c_M_fitLine_250 kc ks loc (.ref (x + 1) :: st) h = eg_gf h x 12 1 (fun v => wps rm K Q c_M_fitLine_253 kc ks loc (v :: st) h) := rfl
theorem s_M_fitLine_253 {x : Int32} {l0 l1 : Option Value} {l : eg_Lo} : wps rm K Q c_M_fitLine_253 kc ks (l0 :: l1 :: some (.int x) :: l) (st) h = wps rm K Q c_M_fitLine_254 kc ks (l0 :: l1 :: some (.int x) :: l) (.int x :: st) h := rfl
theorem s_M_fitLine_254 {x : Int32} {l0 l1 l2 l3 l4 l5 l6 l7 : Option Value} {l : eg_Lo} : wps rm K Q c_M_fitLine_254 kc ks (l0 :: l1 :: l2 :: l3 :: l4 :: l5 :: l6 :: l7 :: some (.int x) :: l) (st) h = wps rm K Q c_M_fitLine_256 kc ks (l0 :: l1 :: l2 :: l3 :: l4 :: l5 :: l6 :: l7 :: some (.int x) :: l) (.int x :: st) h := rfl
theorem s_M_fitLine_256  {a1 : Value} {a2 : Value} : wps rm K Q c_M_fitLine_256 kc ks loc (a2 :: a1 :: st) h = (st.length ≤ 4 ∧ eg_Cs n_M_at_II [a1, a2] h (fun v h9 => wps rm K Q c_M_fitLine_259 kc ks loc (v.toList ++ st) h9)) := eg_c0_2
theorem s_M_fitLine_259 {x : Nat} {i : Int32} : wps rm K Q c_M_fitLine_259 kc ks loc (.int i :: .ref (x + 1) :: st) h = eg_ia h x i (fun v => wps rm K Q c_M_fitLine_260 kc ks loc (.int v :: st) h) := rfl
theorem s_M_fitLine_260 {x y : Int32} : wps rm K Q c_M_fitLine_260 kc ks loc (.int y :: .int x :: st) h = wps rm K Q c_M_fitLine_261 kc ks loc (.int (x - y) :: st) h := rfl
theorem s_M_fitLine_261 {x : Int32} : wps rm K Q c_M_fitLine_261 kc ks loc (.int x :: st) h = wps rm K Q c_M_fitLine_262 kc ks loc (.long (x.toInt64) :: st) h := rfl
theorem s_M_fitLine_262 {x : Int64} : wps rm K Q c_M_fitLine_262 kc ks loc (.long x :: st) h = wps rm K Q c_M_fitLine_264 kc ks (eg_set2 loc 10 (.long x)) (st) h := rfl
theorem s_M_fitLine_264 {x : Nat} {l : eg_Lo} : wps rm K Q c_M_fitLine_264 kc ks (some (.ref x) :: l) (st) h = wps rm K Q c_M_fitLine_265 kc ks (some (.ref x) :: l) (.ref x :: st) h := rfl
theorem s_M_fitLine_265 {x : Nat} : wps rm K Q c_M_fitLine_265 kc ks loc (.ref (x + 1) :: st) h = eg_gf h x 12 2 (fun v => wps rm K Q c_M_fitLine_268 kc ks loc (v :: st) h) := rfl
theorem s_M_fitLine_268 {x : Int32} {l0 l1 : Option Value} {l : eg_Lo} : wps rm K Q c_M_fitLine_268 kc ks (l0 :: l1 :: some (.int x) :: l) (st) h = wps rm K Q c_M_fitLine_269 kc ks (l0 :: l1 :: some (.int x) :: l) (.int x :: st) h := rfl
theorem s_M_fitLine_269 {x : Int32} {l0 l1 l2 l3 l4 l5 l6 l7 l8 : Option Value} {l : eg_Lo} : wps rm K Q c_M_fitLine_269 kc ks (l0 :: l1 :: l2 :: l3 :: l4 :: l5 :: l6 :: l7 :: l8 :: some (.int x) :: l) (st) h = wps rm K Q c_M_fitLine_271 kc ks (l0 :: l1 :: l2 :: l3 :: l4 :: l5 :: l6 :: l7 :: l8 :: some (.int x) :: l) (.int x :: st) h := rfl
theorem s_M_fitLine_271  {a1 : Value} {a2 : Value} : wps rm K Q c_M_fitLine_271 kc ks loc (a2 :: a1 :: st) h = (st.length ≤ 4 ∧ eg_Cs n_M_at_II [a1, a2] h (fun v h9 => wps rm K Q c_M_fitLine_274 kc ks loc (v.toList ++ st) h9)) := eg_c0_2
theorem s_M_fitLine_274 {x : Nat} {i : Int32} : wps rm K Q c_M_fitLine_274 kc ks loc (.int i :: .ref (x + 1) :: st) h = eg_ia h x i (fun v => wps rm K Q c_M_fitLine_275 kc ks loc (.int v :: st) h) := rfl
theorem s_M_fitLine_275 {x : Nat} {l : eg_Lo} : wps rm K Q c_M_fitLine_275 kc ks (some (.ref x) :: l) (st) h = wps rm K Q c_M_fitLine_276 kc ks (some (.ref x) :: l) (.ref x :: st) h := rfl
theorem s_M_fitLine_276 {x : Nat} : wps rm K Q c_M_fitLine_276 kc ks loc (.ref (x + 1) :: st) h = eg_gf h x 12 2 (fun v => wps rm K Q c_M_fitLine_279 kc ks loc (v :: st) h) := rfl
theorem s_M_fitLine_279 {x : Int32} {l0 l1 : Option Value} {l : eg_Lo} : wps rm K Q c_M_fitLine_279 kc ks (l0 :: l1 :: some (.int x) :: l) (st) h = wps rm K Q c_M_fitLine_280 kc ks (l0 :: l1 :: some (.int x) :: l) (.int x :: st) h := rfl
theorem s_M_fitLine_280 {x : Int32} {l0 l1 l2 l3 l4 l5 l6 l7 : Option Value} {l : eg_Lo} : wps rm K Q c_M_fitLine_280 kc ks (l0 :: l1 :: l2 :: l3 :: l4 :: l5 :: l6 :: l7 :: some (.int x) :: l) (st) h = wps rm K Q c_M_fitLine_282 kc ks (l0 :: l1 :: l2 :: l3 :: l4 :: l5 :: l6 :: l7 :: some (.int x) :: l) (.int x :: st) h := rfl
theorem s_M_fitLine_282  {a1 : Value} {a2 : Value} : wps rm K Q c_M_fitLine_282 kc ks loc (a2 :: a1 :: st) h = (st.length ≤ 4 ∧ eg_Cs n_M_at_II [a1, a2] h (fun v h9 => wps rm K Q c_M_fitLine_285 kc ks loc (v.toList ++ st) h9)) := eg_c0_2
theorem s_M_fitLine_285 {x : Nat} {i : Int32} : wps rm K Q c_M_fitLine_285 kc ks loc (.int i :: .ref (x + 1) :: st) h = eg_ia h x i (fun v => wps rm K Q c_M_fitLine_286 kc ks loc (.int v :: st) h) := rfl
theorem s_M_fitLine_286 {x y : Int32} : wps rm K Q c_M_fitLine_286 kc ks loc (.int y :: .int x :: st) h = wps rm K Q c_M_fitLine_287 kc ks loc (.int (x - y) :: st) h := rfl
theorem s_M_fitLine_287 {x : Int32} : wps rm K Q c_M_fitLine_287 kc ks loc (.int x :: st) h = wps rm K Q c_M_fitLine_288 kc ks loc (.long (x.toInt64) :: st) h := rfl
theorem s_M_fitLine_288 {x : Int64} : wps rm K Q c_M_fitLine_288 kc ks loc (.long x :: st) h = wps rm K Q c_M_fitLine_290 kc ks (eg_set2 loc 12 (.long x)) (st) h := rfl
theorem s_M_fitLine_290 {x : Nat} {l : eg_Lo} : wps rm K Q c_M_fitLine_290 kc ks (some (.ref x) :: l) (st) h = wps rm K Q c_M_fitLine_291 kc ks (some (.ref x) :: l) (.ref x :: st) h := rfl
theorem s_M_fitLine_291 {x : Int32} {l0 l1 : Option Value} {l : eg_Lo} : wps rm K Q c_M_fitLine_291 kc ks (l0 :: l1 :: some (.int x) :: l) (st) h = wps rm K Q c_M_fitLine_292 kc ks (l0 :: l1 :: some (.int x) :: l) (.int x :: st) h := rfl
theorem s_M_fitLine_292 {x : Int32} {l0 l1 l2 l3 l4 l5 l6 l7 : Option Value} {l : eg_Lo} : wps rm K Q c_M_fitLine_292 kc ks (l0 :: l1 :: l2 :: l3 :: l4 :: l5 :: l6 :: l7 :: some (.int x) :: l) (st) h = wps rm K Q c_M_fitLine_294 kc ks (l0 :: l1 :: l2 :: l3 :: l4 :: l5 :: l6 :: l7 :: some (.int x) :: l) (.int x :: st) h := rfl
theorem s_M_fitLine_294 {x : Int64} {l0 l1 l2 l3 l4 l5 l6 l7 l8 l9 l10 l11 : Option Value} {l : eg_Lo} : wps rm K Q c_M_fitLine_294 kc ks (l0 :: l1 :: l2 :: l3 :: l4 :: l5 :: l6 :: l7 :: l8 :: l9 :: l10 :: l11 :: some (.long x) :: l) (st) h = wps rm K Q c_M_fitLine_296 kc ks (l0 :: l1 :: l2 :: l3 :: l4 :: l5 :: l6 :: l7 :: l8 :: l9 :: l10 :: l11 :: some (.long x) :: l) (.long x :: st) h := rfl
theorem s_M_fitLine_296 {x : Int64} : wps rm K Q c_M_fitLine_296 kc ks loc (.long x :: st) h = wps rm K Q c_M_fitLine_297 kc ks loc (.long (-x) :: st) h := rfl
theorem s_M_fitLine_297 {x : Int64} {l0 l1 l2 l3 l4 l5 l6 l7 l8 l9 : Option Value} {l : eg_Lo} : wps rm K Q c_M_fitLine_297 kc ks (l0 :: l1 :: l2 :: l3 :: l4 :: l5 :: l6 :: l7 :: l8 :: l9 :: some (.long x) :: l) (st) h = wps rm K Q c_M_fitLine_299 kc ks (l0 :: l1 :: l2 :: l3 :: l4 :: l5 :: l6 :: l7 :: l8 :: l9 :: some (.long x) :: l) (.long x :: st) h := rfl
theorem s_M_fitLine_299  : wps rm K Q c_M_fitLine_299 kc ks loc (st) h = wps rm K Q c_M_fitLine_300 kc ks loc (.long (0) :: st) h := rfl
theorem s_M_fitLine_300  {a1 : Value} {a2 : Value} {a3 : Value} {a4 : Value} {a5 : Value} {x : Nat} : wps rm K Q c_M_fitLine_300 kc ks loc (a5 :: a4 :: a3 :: a2 :: a1 :: .ref (x + 1) :: st) h = (eg_cls h x 12 ∧ st.length ≤ 4 ∧ eg_Cs n_M_crosses (.ref (x + 1) :: [a1, a2, a3, a4, a5]) h (fun v h9 => wps rm K Q c_M_fitLine_303 kc ks loc (v.toList ++ st) h9)) := eg_c1_5
theorem s_M_fitLine_303 {x : Nat} {l : eg_Lo} : wps rm K Q c_M_fitLine_303 kc ks (some (.ref x) :: l) (st) h = wps rm K Q c_M_fitLine_304 kc ks (some (.ref x) :: l) (.ref x :: st) h := rfl
theorem s_M_fitLine_304 {x : Nat} : wps rm K Q c_M_fitLine_304 kc ks loc (.ref (x + 1) :: st) h = eg_gf h x 12 7 (fun v => wps rm K Q c_M_fitLine_307 kc ks loc (v :: st) h) := rfl
theorem s_M_fitLine_307 {x : Int32} {l0 : Option Value} {l : eg_Lo} : wps rm K Q c_M_fitLine_307 kc ks (l0 :: some (.int x) :: l) (st) h = wps rm K Q c_M_fitLine_308 kc ks (l0 :: some (.int x) :: l) (.int x :: st) h := rfl
theorem s_M_fitLine_308  : wps rm K Q c_M_fitLine_308 kc ks loc (st) h = wps rm K Q c_M_fitLine_309 kc ks loc (.int (2) :: st) h := rfl
theorem s_M_fitLine_309 {x : Nat} {i : Int32} {v : Int32} : wps rm K Q c_M_fitLine_309 kc ks loc (.int v :: .int i :: .ref (x + 1) :: st) h = eg_is h x i v (fun h9 => wps rm K Q c_M_fitLine_310 kc ks loc (st) h9) := rfl
theorem s_M_fitLine_310 {x : Nat} {l : eg_Lo} : wps rm K Q c_M_fitLine_310 kc ks (some (.ref x) :: l) (st) h = wps rm K Q c_M_fitLine_311 kc ks (some (.ref x) :: l) (.ref x :: st) h := rfl
theorem s_M_fitLine_311 {x : Nat} : wps rm K Q c_M_fitLine_311 kc ks loc (.ref (x + 1) :: st) h = eg_gf h x 12 8 (fun v => wps rm K Q c_M_fitLine_314 kc ks loc (v :: st) h) := rfl
theorem s_M_fitLine_314 {x : Int32} {l0 : Option Value} {l : eg_Lo} : wps rm K Q c_M_fitLine_314 kc ks (l0 :: some (.int x) :: l) (st) h = wps rm K Q c_M_fitLine_315 kc ks (l0 :: some (.int x) :: l) (.int x :: st) h := rfl
theorem s_M_fitLine_315  : wps rm K Q c_M_fitLine_315 kc ks loc (st) h = wps rm K Q c_M_fitLine_316 kc ks loc (.int (4) :: st) h := rfl
theorem s_M_fitLine_316 {x : Nat} {i : Int32} {v : Int32} : wps rm K Q c_M_fitLine_316 kc ks loc (.int v :: .int i :: .ref (x + 1) :: st) h = eg_is h x i v (fun h9 => wps rm K Q c_M_fitLine_317 kc ks loc (st) h9) := rfl
theorem s_M_fitLine_317 {x : Nat} {l : eg_Lo} : wps rm K Q c_M_fitLine_317 kc ks (some (.ref x) :: l) (st) h = wps rm K Q c_M_fitLine_318 kc ks (some (.ref x) :: l) (.ref x :: st) h := rfl
theorem s_M_fitLine_318 {x : Nat} : wps rm K Q c_M_fitLine_318 kc ks loc (.ref (x + 1) :: st) h = eg_gf h x 12 9 (fun v => wps rm K Q c_M_fitLine_321 kc ks loc (v :: st) h) := rfl
theorem s_M_fitLine_321  : wps rm K Q c_M_fitLine_321 kc ks loc (st) h = wps rm K Q c_M_fitLine_323 kc ks loc (.int (6) :: st) h := rfl
theorem s_M_fitLine_323 {x : Int32} {l0 : Option Value} {l : eg_Lo} : wps rm K Q c_M_fitLine_323 kc ks (l0 :: some (.int x) :: l) (st) h = wps rm K Q c_M_fitLine_324 kc ks (l0 :: some (.int x) :: l) (.int x :: st) h := rfl
theorem s_M_fitLine_324 {x y : Int32} : wps rm K Q c_M_fitLine_324 kc ks loc (.int y :: .int x :: st) h = wps rm K Q c_M_fitLine_325 kc ks loc (.int (x * y) :: st) h := rfl
theorem s_M_fitLine_325 {x : Int32} {l0 l1 l2 l3 l4 l5 l6 l7 : Option Value} {l : eg_Lo} : wps rm K Q c_M_fitLine_325 kc ks (l0 :: l1 :: l2 :: l3 :: l4 :: l5 :: l6 :: l7 :: some (.int x) :: l) (st) h = wps rm K Q c_M_fitLine_327 kc ks (l0 :: l1 :: l2 :: l3 :: l4 :: l5 :: l6 :: l7 :: some (.int x) :: l) (.int x :: st) h := rfl
theorem s_M_fitLine_327 {x : Nat} {i : Int32} {v : Int32} : wps rm K Q c_M_fitLine_327 kc ks loc (.int v :: .int i :: .ref (x + 1) :: st) h = eg_is h x i v (fun h9 => wps rm K Q c_M_fitLine_328 kc ks loc (st) h9) := rfl
theorem s_M_fitLine_328 {x : Nat} {l : eg_Lo} : wps rm K Q c_M_fitLine_328 kc ks (some (.ref x) :: l) (st) h = wps rm K Q c_M_fitLine_329 kc ks (some (.ref x) :: l) (.ref x :: st) h := rfl
theorem s_M_fitLine_329 {x : Nat} : wps rm K Q c_M_fitLine_329 kc ks loc (.ref (x + 1) :: st) h = eg_gf h x 12 9 (fun v => wps rm K Q c_M_fitLine_332 kc ks loc (v :: st) h) := rfl
theorem s_M_fitLine_332  : wps rm K Q c_M_fitLine_332 kc ks loc (st) h = wps rm K Q c_M_fitLine_334 kc ks loc (.int (6) :: st) h := rfl
theorem s_M_fitLine_334 {x : Int32} {l0 : Option Value} {l : eg_Lo} : wps rm K Q c_M_fitLine_334 kc ks (l0 :: some (.int x) :: l) (st) h = wps rm K Q c_M_fitLine_335 kc ks (l0 :: some (.int x) :: l) (.int x :: st) h := rfl
theorem s_M_fitLine_335 {x y : Int32} : wps rm K Q c_M_fitLine_335 kc ks loc (.int y :: .int x :: st) h = wps rm K Q c_M_fitLine_336 kc ks loc (.int (x * y) :: st) h := rfl
theorem s_M_fitLine_336  : wps rm K Q c_M_fitLine_336 kc ks loc (st) h = wps rm K Q c_M_fitLine_337 kc ks loc (.int (1) :: st) h := rfl
theorem s_M_fitLine_337 {x y : Int32} : wps rm K Q c_M_fitLine_337 kc ks loc (.int y :: .int x :: st) h = wps rm K Q c_M_fitLine_338 kc ks loc (.int (x + y) :: st) h := rfl
theorem s_M_fitLine_338 {x : Int32} {l0 l1 l2 l3 l4 l5 l6 l7 l8 : Option Value} {l : eg_Lo} : wps rm K Q c_M_fitLine_338 kc ks (l0 :: l1 :: l2 :: l3 :: l4 :: l5 :: l6 :: l7 :: l8 :: some (.int x) :: l) (st) h = wps rm K Q c_M_fitLine_340 kc ks (l0 :: l1 :: l2 :: l3 :: l4 :: l5 :: l6 :: l7 :: l8 :: some (.int x) :: l) (.int x :: st) h := rfl
theorem s_M_fitLine_340 {x : Nat} {i : Int32} {v : Int32} : wps rm K Q c_M_fitLine_340 kc ks loc (.int v :: .int i :: .ref (x + 1) :: st) h = eg_is h x i v (fun h9 => wps rm K Q c_M_fitLine_341 kc ks loc (st) h9) := rfl
theorem s_M_fitLine_341 {x : Nat} {l : eg_Lo} : wps rm K Q c_M_fitLine_341 kc ks (some (.ref x) :: l) (st) h = wps rm K Q c_M_fitLine_342 kc ks (some (.ref x) :: l) (.ref x :: st) h := rfl
theorem s_M_fitLine_342 {x : Nat} : wps rm K Q c_M_fitLine_342 kc ks loc (.ref (x + 1) :: st) h = eg_gf h x 12 9 (fun v => wps rm K Q c_M_fitLine_345 kc ks loc (v :: st) h) := rfl
theorem s_M_fitLine_345  : wps rm K Q c_M_fitLine_345 kc ks loc (st) h = wps rm K Q c_M_fitLine_347 kc ks loc (.int (6) :: st) h := rfl
theorem s_M_fitLine_347 {x : Int32} {l0 : Option Value} {l : eg_Lo} : wps rm K Q c_M_fitLine_347 kc ks (l0 :: some (.int x) :: l) (st) h = wps rm K Q c_M_fitLine_348 kc ks (l0 :: some (.int x) :: l) (.int x :: st) h := rfl
theorem s_M_fitLine_348 {x y : Int32} : wps rm K Q c_M_fitLine_348 kc ks loc (.int y :: .int x :: st) h = wps rm K Q c_M_fitLine_349 kc ks loc (.int (x * y) :: st) h := rfl
theorem s_M_fitLine_349  : wps rm K Q c_M_fitLine_349 kc ks loc (st) h = wps rm K Q c_M_fitLine_350 kc ks loc (.int (2) :: st) h := rfl
theorem s_M_fitLine_350 {x y : Int32} : wps rm K Q c_M_fitLine_350 kc ks loc (.int y :: .int x :: st) h = wps rm K Q c_M_fitLine_351 kc ks loc (.int (x + y) :: st) h := rfl
theorem s_M_fitLine_351 {x : Nat} {l : eg_Lo} : wps rm K Q c_M_fitLine_351 kc ks (some (.ref x) :: l) (st) h = wps rm K Q c_M_fitLine_352 kc ks (some (.ref x) :: l) (.ref x :: st) h := rfl
theorem s_M_fitLine_352 {x : Nat} : wps rm K Q c_M_fitLine_352 kc ks loc (.ref (x + 1) :: st) h = eg_gf h x 12 31 (fun v => wps rm K Q c_M_fitLine_355 kc ks loc (v :: st) h) := rfl
theorem s_M_fitLine_355 {x : Nat} {i : Int32} {v : Int32} : wps rm K Q c_M_fitLine_355 kc ks loc (.int v :: .int i :: .ref (x + 1) :: st) h = eg_is h x i v (fun h9 => wps rm K Q c_M_fitLine_356 kc ks loc (st) h9) := rfl
theorem s_M_fitLine_356 {x : Nat} {l : eg_Lo} : wps rm K Q c_M_fitLine_356 kc ks (some (.ref x) :: l) (st) h = wps rm K Q c_M_fitLine_357 kc ks (some (.ref x) :: l) (.ref x :: st) h := rfl
theorem s_M_fitLine_357 {x : Nat} : wps rm K Q c_M_fitLine_357 kc ks loc (.ref (x + 1) :: st) h = eg_gf h x 12 9 (fun v => wps rm K Q c_M_fitLine_360 kc ks loc (v :: st) h) := rfl
theorem s_M_fitLine_360  : wps rm K Q c_M_fitLine_360 kc ks loc (st) h = wps rm K Q c_M_fitLine_362 kc ks loc (.int (6) :: st) h := rfl
theorem s_M_fitLine_362 {x : Int32} {l0 : Option Value} {l : eg_Lo} : wps rm K Q c_M_fitLine_362 kc ks (l0 :: some (.int x) :: l) (st) h = wps rm K Q c_M_fitLine_363 kc ks (l0 :: some (.int x) :: l) (.int x :: st) h := rfl
theorem s_M_fitLine_363 {x y : Int32} : wps rm K Q c_M_fitLine_363 kc ks loc (.int y :: .int x :: st) h = wps rm K Q c_M_fitLine_364 kc ks loc (.int (x * y) :: st) h := rfl
theorem s_M_fitLine_364  : wps rm K Q c_M_fitLine_364 kc ks loc (st) h = wps rm K Q c_M_fitLine_365 kc ks loc (.int (3) :: st) h := rfl
theorem s_M_fitLine_365 {x y : Int32} : wps rm K Q c_M_fitLine_365 kc ks loc (.int y :: .int x :: st) h = wps rm K Q c_M_fitLine_366 kc ks loc (.int (x + y) :: st) h := rfl
theorem s_M_fitLine_366 {x : Nat} {l : eg_Lo} : wps rm K Q c_M_fitLine_366 kc ks (some (.ref x) :: l) (st) h = wps rm K Q c_M_fitLine_367 kc ks (some (.ref x) :: l) (.ref x :: st) h := rfl
theorem s_M_fitLine_367 {x : Nat} : wps rm K Q c_M_fitLine_367 kc ks loc (.ref (x + 1) :: st) h = eg_gf h x 12 32 (fun v => wps rm K Q c_M_fitLine_370 kc ks loc (v :: st) h) := rfl
theorem s_M_fitLine_370 {x : Nat} {i : Int32} {v : Int32} : wps rm K Q c_M_fitLine_370 kc ks loc (.int v :: .int i :: .ref (x + 1) :: st) h = eg_is h x i v (fun h9 => wps rm K Q c_M_fitLine_371 kc ks loc (st) h9) := rfl
theorem s_M_fitLine_371 {x : Nat} {l : eg_Lo} : wps rm K Q c_M_fitLine_371 kc ks (some (.ref x) :: l) (st) h = wps rm K Q c_M_fitLine_372 kc ks (some (.ref x) :: l) (.ref x :: st) h := rfl
theorem s_M_fitLine_372 {x : Int32} {l0 : Option Value} {l : eg_Lo} : wps rm K Q c_M_fitLine_372 kc ks (l0 :: some (.int x) :: l) (st) h = wps rm K Q c_M_fitLine_373 kc ks (l0 :: some (.int x) :: l) (.int x :: st) h := rfl
theorem s_M_fitLine_373 {x : Int64} {l0 l1 l2 l3 : Option Value} {l : eg_Lo} : wps rm K Q c_M_fitLine_373 kc ks (l0 :: l1 :: l2 :: l3 :: some (.long x) :: l) (st) h = wps rm K Q c_M_fitLine_375 kc ks (l0 :: l1 :: l2 :: l3 :: some (.long x) :: l) (.long x :: st) h := rfl
theorem s_M_fitLine_375 {x : Int64} {l0 l1 l2 l3 l4 l5 : Option Value} {l : eg_Lo} : wps rm K Q c_M_fitLine_375 kc ks (l0 :: l1 :: l2 :: l3 :: l4 :: l5 :: some (.long x) :: l) (st) h = wps rm K Q c_M_fitLine_377 kc ks (l0 :: l1 :: l2 :: l3 :: l4 :: l5 :: some (.long x) :: l) (.long x :: st) h := rfl
theorem s_M_fitLine_377  {a1 : Value} {a2 : Value} {a3 : Value} {x : Nat} : wps rm K Q c_M_fitLine_377 kc ks loc (a3 :: a2 :: a1 :: .ref (x + 1) :: st) h = (eg_cls h x 12 ∧ st.length ≤ 4 ∧ eg_Cs n_M_keepMiss (.ref (x + 1) :: [a1, a2, a3]) h (fun v h9 => wps rm K Q c_M_fitLine_380 kc ks loc (v.toList ++ st) h9)) := eg_c1_3
theorem s_M_fitLine_380 {x : Int64} {l0 l1 l2 l3 l4 l5 l6 l7 l8 l9 : Option Value} {l : eg_Lo} : wps rm K Q c_M_fitLine_380 kc ks (l0 :: l1 :: l2 :: l3 :: l4 :: l5 :: l6 :: l7 :: l8 :: l9 :: some (.long x) :: l) (st) h = wps rm K Q c_M_fitLine_382 kc ks (l0 :: l1 :: l2 :: l3 :: l4 :: l5 :: l6 :: l7 :: l8 :: l9 :: some (.long x) :: l) (.long x :: st) h := rfl
theorem s_M_fitLine_382 {x : Int64} {l0 l1 l2 l3 l4 l5 l6 l7 l8 l9 l10 l11 : Option Value} {l : eg_Lo} : wps rm K Q c_M_fitLine_382 kc ks (l0 :: l1 :: l2 :: l3 :: l4 :: l5 :: l6 :: l7 :: l8 :: l9 :: l10 :: l11 :: some (.long x) :: l) (st) h = wps rm K Q c_M_fitLine_384 kc ks (l0 :: l1 :: l2 :: l3 :: l4 :: l5 :: l6 :: l7 :: l8 :: l9 :: l10 :: l11 :: some (.long x) :: l) (.long x :: st) h := rfl
theorem s_M_fitLine_384  : wps rm K Q c_M_fitLine_384 kc ks loc (st) h = wps rm K Q c_M_fitLine_385 kc ks loc (.long (0) :: st) h := rfl
theorem s_M_fitLine_385 {x : Nat} {l : eg_Lo} : wps rm K Q c_M_fitLine_385 kc ks (some (.ref x) :: l) (st) h = wps rm K Q c_M_fitLine_386 kc ks (some (.ref x) :: l) (.ref x :: st) h := rfl
theorem s_M_fitLine_386 {x : Nat} : wps rm K Q c_M_fitLine_386 kc ks loc (.ref (x + 1) :: st) h = eg_gf h x 12 12 (fun v => wps rm K Q c_M_fitLine_389 kc ks loc (v :: st) h) := rfl
theorem s_M_fitLine_389  : wps rm K Q c_M_fitLine_389 kc ks loc (st) h = wps rm K Q c_M_fitLine_390 kc ks loc (.int (3) :: st) h := rfl
theorem s_M_fitLine_390 {x : Int32} {l0 : Option Value} {l : eg_Lo} : wps rm K Q c_M_fitLine_390 kc ks (l0 :: some (.int x) :: l) (st) h = wps rm K Q c_M_fitLine_391 kc ks (l0 :: some (.int x) :: l) (.int x :: st) h := rfl
theorem s_M_fitLine_391 {x y : Int32} : wps rm K Q c_M_fitLine_391 kc ks loc (.int y :: .int x :: st) h = wps rm K Q c_M_fitLine_392 kc ks loc (.int (x * y) :: st) h := rfl
theorem s_M_fitLine_392  : wps rm K Q c_M_fitLine_392 kc ks loc (st) h = wps rm K Q c_M_fitLine_393 kc ks loc (.int (1) :: st) h := rfl
theorem s_M_fitLine_393  {a1 : Value} {a2 : Value} {a3 : Value} {a4 : Value} {a5 : Value} {a6 : Value} : wps rm K Q c_M_fitLine_393 kc ks loc (a6 :: a5 :: a4 :: a3 :: a2 :: a1 :: st) h = (st.length ≤ 4 ∧ eg_Cs n_M_lowest [a1, a2, a3, a4, a5, a6] h (fun v h9 => wps rm K Q c_M_fitLine_396 kc ks loc (v.toList ++ st) h9)) := eg_c0_6
theorem s_M_fitLine_396  : wps rm K Q c_M_fitLine_396 kc ks loc (st) h = wps rm K Q c_M_fitLine_399 kc ks loc (.long (4) :: st) h := rfl
theorem s_M_fitLine_399 {x : Int64} : wps rm K Q c_M_fitLine_399 kc ks loc ([.long x]) h = (kc = rm.cells ∧ Q (some (.long x)) h) := rfl
def T_M_fitLine : List (Nat × List eg_I) := [(131, c_M_fitLine_131), (196, c_M_fitLine_196), (214, c_M_fitLine_214), (220, c_M_fitLine_220), (226, c_M_fitLine_226), (238, c_M_fitLine_238)]
theorem j_M_fitLine_131 {R : Nat → Nat → Nat → eg_Lo → List Value → List eg_E → Prop} {f pc0 : Nat} : eg_run rm R Q T_M_fitLine (f + 1) 131 kc ks loc st h = wps rm (eg_run rm R Q T_M_fitLine f) Q c_M_fitLine_131 kc ks loc st h := rfl
theorem j_M_fitLine_196 {R : Nat → Nat → Nat → eg_Lo → List Value → List eg_E → Prop} {f pc0 : Nat} : eg_run rm R Q T_M_fitLine (f + 1) 196 kc ks loc st h = wps rm (eg_run rm R Q T_M_fitLine f) Q c_M_fitLine_196 kc ks loc st h := rfl
theorem j_M_fitLine_214 {R : Nat → Nat → Nat → eg_Lo → List Value → List eg_E → Prop} {f pc0 : Nat} : eg_run rm R Q T_M_fitLine (f + 1) 214 kc ks loc st h = wps rm (eg_run rm R Q T_M_fitLine f) Q c_M_fitLine_214 kc ks loc st h := rfl
theorem j_M_fitLine_220 {R : Nat → Nat → Nat → eg_Lo → List Value → List eg_E → Prop} {f pc0 : Nat} : eg_run rm R Q T_M_fitLine (f + 1) 220 kc ks loc st h = wps rm (eg_run rm R Q T_M_fitLine f) Q c_M_fitLine_220 kc ks loc st h := rfl
theorem j_M_fitLine_226 {R : Nat → Nat → Nat → eg_Lo → List Value → List eg_E → Prop} {f pc0 : Nat} : eg_run rm R Q T_M_fitLine (f + 1) 226 kc ks loc st h = wps rm (eg_run rm R Q T_M_fitLine f) Q c_M_fitLine_226 kc ks loc st h := rfl
theorem j_M_fitLine_238 {R : Nat → Nat → Nat → eg_Lo → List Value → List eg_E → Prop} {f pc0 : Nat} : eg_run rm R Q T_M_fitLine (f + 1) 238 kc ks loc st h = wps rm (eg_run rm R Q T_M_fitLine f) Q c_M_fitLine_238 kc ks loc st h := rfl
theorem j_M_fitLine_17 {R : Nat → Nat → Nat → eg_Lo → List Value → List eg_E → Prop} {f pc0 : Nat} : eg_run rm R Q T_M_fitLine (f + 1) 17 kc ks loc st h = R 17 kc ks loc st h := rfl
theorem j_M_fitLine_34 {R : Nat → Nat → Nat → eg_Lo → List Value → List eg_E → Prop} {f pc0 : Nat} : eg_run rm R Q T_M_fitLine (f + 1) 34 kc ks loc st h = R 34 kc ks loc st h := rfl
end
theorem q_M_fitLine : (T_M_fitLine.all fun q => eg_seq m_M_fitLine q.1 q.2) = true := by decide +kernel
theorem b_M_fitLine {as : List Value} {h : List eg_E} {Q : Option Value → List eg_E → Prop} (hf : (eg_fl as).length ≤ 20) (hw : wps (eg_rm m_M_fitLine) (eg_run (eg_rm m_M_fitLine) (eg_R m_M_fitLine Q (h.length + 0)) Q T_M_fitLine 8) Q c_M_fitLine_0 0 0 (eg_entry 20 as) [] h) : eg_Runs n_M_fitLine as h Q := eg_begin (d := m_M_fitLine) rfl (by decide) (by decide +kernel) q_M_fitLine hf hw
theorem p_M_fitLine_17 {Q : Option Value → List eg_E → Prop} {n0 kc ks : Nat} {loc : eg_Lo} {st : List Value} {h : List eg_E} (hw : wps (eg_rm m_M_fitLine) (eg_run (eg_rm m_M_fitLine) (eg_R m_M_fitLine Q n0) Q T_M_fitLine 8) Q c_M_fitLine_17 kc ks loc st h) : eg_R m_M_fitLine Q n0 17 kc ks loc st h := eg_go (by decide +kernel) q_M_fitLine hw
theorem p_M_fitLine_34 {Q : Option Value → List eg_E → Prop} {n0 kc ks : Nat} {loc : eg_Lo} {st : List Value} {h : List eg_E} (hw : wps (eg_rm m_M_fitLine) (eg_run (eg_rm m_M_fitLine) (eg_R m_M_fitLine Q n0) Q T_M_fitLine 8) Q c_M_fitLine_34 kc ks loc st h) : eg_R m_M_fitLine Q n0 34 kc ks loc st h := eg_go (by decide +kernel) q_M_fitLine hw
/-! ===== M_tellNormal ===== -/
def c_M_tellNormal_189 : List eg_I := .inl (189, 1, .return_, 0, 0) :: []
def c_M_tellNormal_188 : List eg_I := .inl (188, 1, .lastore, 0, 0) :: c_M_tellNormal_189
def c_M_tellNormal_187 : List eg_I := .inl (187, 1, .lsub, 0, 0) :: c_M_tellNormal_188
def c_M_tellNormal_186 : List eg_I := .inl (186, 1, .lmul, 0, 0) :: c_M_tellNormal_187
def c_M_tellNormal_184 : List eg_I := .inl (184, 2, .lload 16, 0, 0) :: c_M_tellNormal_186
def c_M_tellNormal_182 : List eg_I := .inl (182, 2, .lload 12, 0, 0) :: c_M_tellNormal_184
def c_M_tellNormal_181 : List eg_I := .inl (181, 1, .lmul, 0, 0) :: c_M_tellNormal_182
def c_M_tellNormal_179 : List eg_I := .inl (179, 2, .lload 18, 0, 0) :: c_M_tellNormal_181
def c_M_tellNormal_177 : List eg_I := .inl (177, 2, .lload 10, 0, 0) :: c_M_tellNormal_179
def c_M_tellNormal_176 : List eg_I := .inl (176, 1, .iconst (2), 0, 0) :: c_M_tellNormal_177
def c_M_tellNormal_173 : List eg_I := .inl (173, 3, .getfield 88, 12, 33) :: c_M_tellNormal_176
def c_M_tellNormal_172 : List eg_I := .inl (172, 1, .aload 0, 0, 0) :: c_M_tellNormal_173
def c_M_tellNormal_171 : List eg_I := .inl (171, 1, .lastore, 0, 0) :: c_M_tellNormal_172
def c_M_tellNormal_170 : List eg_I := .inl (170, 1, .lsub, 0, 0) :: c_M_tellNormal_171
def c_M_tellNormal_169 : List eg_I := .inl (169, 1, .lmul, 0, 0) :: c_M_tellNormal_170
def c_M_tellNormal_167 : List eg_I := .inl (167, 2, .lload 20, 0, 0) :: c_M_tellNormal_169
def c_M_tellNormal_165 : List eg_I := .inl (165, 2, .lload 10, 0, 0) :: c_M_tellNormal_167
def c_M_tellNormal_164 : List eg_I := .inl (164, 1, .lmul, 0, 0) :: c_M_tellNormal_165
def c_M_tellNormal_162 : List eg_I := .inl (162, 2, .lload 16, 0, 0) :: c_M_tellNormal_164
def c_M_tellNormal_160 : List eg_I := .inl (160, 2, .lload 14, 0, 0) :: c_M_tellNormal_162
def c_M_tellNormal_159 : List eg_I := .inl (159, 1, .iconst (1), 0, 0) :: c_M_tellNormal_160
def c_M_tellNormal_156 : List eg_I := .inl (156, 3, .getfield 88, 12, 33) :: c_M_tellNormal_159
def c_M_tellNormal_155 : List eg_I := .inl (155, 1, .aload 0, 0, 0) :: c_M_tellNormal_156
def c_M_tellNormal_154 : List eg_I := .inl (154, 1, .lastore, 0, 0) :: c_M_tellNormal_155
def c_M_tellNormal_153 : List eg_I := .inl (153, 1, .lsub, 0, 0) :: c_M_tellNormal_154
def c_M_tellNormal_152 : List eg_I := .inl (152, 1, .lmul, 0, 0) :: c_M_tellNormal_153
def c_M_tellNormal_150 : List eg_I := .inl (150, 2, .lload 18, 0, 0) :: c_M_tellNormal_152
def c_M_tellNormal_148 : List eg_I := .inl (148, 2, .lload 14, 0, 0) :: c_M_tellNormal_150
def c_M_tellNormal_147 : List eg_I := .inl (147, 1, .lmul, 0, 0) :: c_M_tellNormal_148
def c_M_tellNormal_145 : List eg_I := .inl (145, 2, .lload 20, 0, 0) :: c_M_tellNormal_147
def c_M_tellNormal_143 : List eg_I := .inl (143, 2, .lload 12, 0, 0) :: c_M_tellNormal_145
def c_M_tellNormal_142 : List eg_I := .inl (142, 1, .iconst (0), 0, 0) :: c_M_tellNormal_143
def c_M_tellNormal_139 : List eg_I := .inl (139, 3, .getfield 88, 12, 33) :: c_M_tellNormal_142
def c_M_tellNormal_138 : List eg_I := .inl (138, 1, .aload 0, 0, 0) :: c_M_tellNormal_139
def c_M_tellNormal_136 : List eg_I := .inl (136, 2, .lstore 20, 0, 0) :: c_M_tellNormal_138
def c_M_tellNormal_135 : List eg_I := .inl (135, 1, .i2l, 0, 0) :: c_M_tellNormal_136
def c_M_tellNormal_134 : List eg_I := .inl (134, 1, .isub, 0, 0) :: c_M_tellNormal_135
def c_M_tellNormal_133 : List eg_I := .inl (133, 1, .iaload, 0, 0) :: c_M_tellNormal_134
def c_M_tellNormal_131 : List eg_I := .inl (131, 2, .iload 8, 0, 0) :: c_M_tellNormal_133
def c_M_tellNormal_128 : List eg_I := .inl (128, 3, .getfield 19, 12, 3) :: c_M_tellNormal_131
def c_M_tellNormal_127 : List eg_I := .inl (127, 1, .aload 0, 0, 0) :: c_M_tellNormal_128
def c_M_tellNormal_126 : List eg_I := .inl (126, 1, .iaload, 0, 0) :: c_M_tellNormal_127
def c_M_tellNormal_124 : List eg_I := .inl (124, 2, .iload 9, 0, 0) :: c_M_tellNormal_126
def c_M_tellNormal_121 : List eg_I := .inl (121, 3, .getfield 19, 12, 3) :: c_M_tellNormal_124
def c_M_tellNormal_120 : List eg_I := .inl (120, 1, .aload 0, 0, 0) :: c_M_tellNormal_121
def c_M_tellNormal_118 : List eg_I := .inl (118, 2, .lstore 18, 0, 0) :: c_M_tellNormal_120
def c_M_tellNormal_117 : List eg_I := .inl (117, 1, .i2l, 0, 0) :: c_M_tellNormal_118
def c_M_tellNormal_116 : List eg_I := .inl (116, 1, .isub, 0, 0) :: c_M_tellNormal_117
def c_M_tellNormal_115 : List eg_I := .inl (115, 1, .iaload, 0, 0) :: c_M_tellNormal_116
def c_M_tellNormal_113 : List eg_I := .inl (113, 2, .iload 8, 0, 0) :: c_M_tellNormal_115
def c_M_tellNormal_110 : List eg_I := .inl (110, 3, .getfield 16, 12, 2) :: c_M_tellNormal_113
def c_M_tellNormal_109 : List eg_I := .inl (109, 1, .aload 0, 0, 0) :: c_M_tellNormal_110
def c_M_tellNormal_108 : List eg_I := .inl (108, 1, .iaload, 0, 0) :: c_M_tellNormal_109
def c_M_tellNormal_106 : List eg_I := .inl (106, 2, .iload 9, 0, 0) :: c_M_tellNormal_108
def c_M_tellNormal_103 : List eg_I := .inl (103, 3, .getfield 16, 12, 2) :: c_M_tellNormal_106
def c_M_tellNormal_102 : List eg_I := .inl (102, 1, .aload 0, 0, 0) :: c_M_tellNormal_103
def c_M_tellNormal_100 : List eg_I := .inl (100, 2, .lstore 16, 0, 0) :: c_M_tellNormal_102
def c_M_tellNormal_99 : List eg_I := .inl (99, 1, .i2l, 0, 0) :: c_M_tellNormal_100
def c_M_tellNormal_98 : List eg_I := .inl (98, 1, .isub, 0, 0) :: c_M_tellNormal_99
def c_M_tellNormal_97 : List eg_I := .inl (97, 1, .iaload, 0, 0) :: c_M_tellNormal_98
def c_M_tellNormal_95 : List eg_I := .inl (95, 2, .iload 8, 0, 0) :: c_M_tellNormal_97
def c_M_tellNormal_92 : List eg_I := .inl (92, 3, .getfield 13, 12, 1) :: c_M_tellNormal_95
def c_M_tellNormal_91 : List eg_I := .inl (91, 1, .aload 0, 0, 0) :: c_M_tellNormal_92
def c_M_tellNormal_90 : List eg_I := .inl (90, 1, .iaload, 0, 0) :: c_M_tellNormal_91
def c_M_tellNormal_88 : List eg_I := .inl (88, 2, .iload 9, 0, 0) :: c_M_tellNormal_90
def c_M_tellNormal_85 : List eg_I := .inl (85, 3, .getfield 13, 12, 1) :: c_M_tellNormal_88
def c_M_tellNormal_84 : List eg_I := .inl (84, 1, .aload 0, 0, 0) :: c_M_tellNormal_85
def c_M_tellNormal_82 : List eg_I := .inl (82, 2, .lstore 14, 0, 0) :: c_M_tellNormal_84
def c_M_tellNormal_81 : List eg_I := .inl (81, 1, .i2l, 0, 0) :: c_M_tellNormal_82
def c_M_tellNormal_80 : List eg_I := .inl (80, 1, .isub, 0, 0) :: c_M_tellNormal_81
def c_M_tellNormal_79 : List eg_I := .inl (79, 1, .iaload, 0, 0) :: c_M_tellNormal_80
def c_M_tellNormal_77 : List eg_I := .inl (77, 2, .iload 6, 0, 0) :: c_M_tellNormal_79
def c_M_tellNormal_74 : List eg_I := .inl (74, 3, .getfield 19, 12, 3) :: c_M_tellNormal_77
def c_M_tellNormal_73 : List eg_I := .inl (73, 1, .aload 0, 0, 0) :: c_M_tellNormal_74
def c_M_tellNormal_72 : List eg_I := .inl (72, 1, .iaload, 0, 0) :: c_M_tellNormal_73
def c_M_tellNormal_70 : List eg_I := .inl (70, 2, .iload 7, 0, 0) :: c_M_tellNormal_72
def c_M_tellNormal_67 : List eg_I := .inl (67, 3, .getfield 19, 12, 3) :: c_M_tellNormal_70
def c_M_tellNormal_66 : List eg_I := .inl (66, 1, .aload 0, 0, 0) :: c_M_tellNormal_67
def c_M_tellNormal_64 : List eg_I := .inl (64, 2, .lstore 12, 0, 0) :: c_M_tellNormal_66
def c_M_tellNormal_63 : List eg_I := .inl (63, 1, .i2l, 0, 0) :: c_M_tellNormal_64
def c_M_tellNormal_62 : List eg_I := .inl (62, 1, .isub, 0, 0) :: c_M_tellNormal_63
def c_M_tellNormal_61 : List eg_I := .inl (61, 1, .iaload, 0, 0) :: c_M_tellNormal_62
def c_M_tellNormal_59 : List eg_I := .inl (59, 2, .iload 6, 0, 0) :: c_M_tellNormal_61
def c_M_tellNormal_56 : List eg_I := .inl (56, 3, .getfield 16, 12, 2) :: c_M_tellNormal_59
def c_M_tellNormal_55 : List eg_I := .inl (55, 1, .aload 0, 0, 0) :: c_M_tellNormal_56
def c_M_tellNormal_54 : List eg_I := .inl (54, 1, .iaload, 0, 0) :: c_M_tellNormal_55
def c_M_tellNormal_52 : List eg_I := .inl (52, 2, .iload 7, 0, 0) :: c_M_tellNormal_54
def c_M_tellNormal_49 : List eg_I := .inl (49, 3, .getfield 16, 12, 2) :: c_M_tellNormal_52
def c_M_tellNormal_48 : List eg_I := .inl (48, 1, .aload 0, 0, 0) :: c_M_tellNormal_49
def c_M_tellNormal_46 : List eg_I := .inl (46, 2, .lstore 10, 0, 0) :: c_M_tellNormal_48
def c_M_tellNormal_45 : List eg_I := .inl (45, 1, .i2l, 0, 0) :: c_M_tellNormal_46
def c_M_tellNormal_44 : List eg_I := .inl (44, 1, .isub, 0, 0) :: c_M_tellNormal_45
def c_M_tellNormal_43 : List eg_I := .inl (43, 1, .iaload, 0, 0) :: c_M_tellNormal_44
def c_M_tellNormal_41 : List eg_I := .inl (41, 2, .iload 6, 0, 0) :: c_M_tellNormal_43
def c_M_tellNormal_38 : List eg_I := .inl (38, 3, .getfield 13, 12, 1) :: c_M_tellNormal_41
def c_M_tellNormal_37 : List eg_I := .inl (37, 1, .aload 0, 0, 0) :: c_M_tellNormal_38
def c_M_tellNormal_36 : List eg_I := .inl (36, 1, .iaload, 0, 0) :: c_M_tellNormal_37
def c_M_tellNormal_34 : List eg_I := .inl (34, 2, .iload 7, 0, 0) :: c_M_tellNormal_36
def c_M_tellNormal_31 : List eg_I := .inl (31, 3, .getfield 13, 12, 1) :: c_M_tellNormal_34
def c_M_tellNormal_30 : List eg_I := .inl (30, 1, .aload 0, 0, 0) :: c_M_tellNormal_31
def c_M_tellNormal_28 : List eg_I := .inl (28, 2, .istore 9, 0, 0) :: c_M_tellNormal_30
def c_M_tellNormal_25 : List eg_I := .inr (25, 0, 103, n_M_at_II, 2, 12, 0, 0) :: c_M_tellNormal_28
def c_M_tellNormal_23 : List eg_I := .inl (23, 2, .iload 5, 0, 0) :: c_M_tellNormal_25
def c_M_tellNormal_22 : List eg_I := .inl (22, 1, .iload 1, 0, 0) :: c_M_tellNormal_23
def c_M_tellNormal_20 : List eg_I := .inl (20, 2, .istore 8, 0, 0) :: c_M_tellNormal_22
def c_M_tellNormal_17 : List eg_I := .inr (17, 0, 103, n_M_at_II, 2, 12, 0, 0) :: c_M_tellNormal_20
def c_M_tellNormal_15 : List eg_I := .inl (15, 2, .iload 4, 0, 0) :: c_M_tellNormal_17
def c_M_tellNormal_14 : List eg_I := .inl (14, 1, .iload 1, 0, 0) :: c_M_tellNormal_15
def c_M_tellNormal_12 : List eg_I := .inl (12, 2, .istore 7, 0, 0) :: c_M_tellNormal_14
def c_M_tellNormal_9 : List eg_I := .inr (9, 0, 103, n_M_at_II, 2, 12, 0, 0) :: c_M_tellNormal_12
def c_M_tellNormal_8 : List eg_I := .inl (8, 1, .iload 3, 0, 0) :: c_M_tellNormal_9
def c_M_tellNormal_7 : List eg_I := .inl (7, 1, .iload 1, 0, 0) :: c_M_tellNormal_8
def c_M_tellNormal_5 : List eg_I := .inl (5, 2, .istore 6, 0, 0) :: c_M_tellNormal_7
def c_M_tellNormal_2 : List eg_I := .inr (2, 0, 103, n_M_at_II, 2, 12, 0, 0) :: c_M_tellNormal_5
def c_M_tellNormal_1 : List eg_I := .inl (1, 1, .iload 2, 0, 0) :: c_M_tellNormal_2
def c_M_tellNormal_0 : List eg_I := .inl (0, 1, .iload 1, 0, 0) :: c_M_tellNormal_1
section
variable {rm : Room} {K : Nat → Nat → Nat → eg_Lo → List Value → List eg_E → Prop} {Q : Option Value → List eg_E → Prop} {kc ks : Nat} {loc : eg_Lo} {st : List Value} {h : List eg_E}
theorem s_M_tellNormal_0 {x : Int32} {l0 : Option Value} {l : eg_Lo} : wps rm K Q c_M_tellNormal_0 kc ks (l0 :: some (.int x) :: l) (st) h = wps rm K Q c_M_tellNormal_1 kc ks (l0 :: some (.int x) :: l) (.int x :: st) h := rfl
theorem s_M_tellNormal_1 {x : Int32} {l0 l1 : Option Value} {l : eg_Lo} : wps rm K Q c_M_tellNormal_1 kc ks (l0 :: l1 :: some (.int x) :: l) (st) h = wps rm K Q c_M_tellNormal_2 kc ks (l0 :: l1 :: some (.int x) :: l) (.int x :: st) h := rfl
theorem s_M_tellNormal_2  {a1 : Value} {a2 : Value} : wps rm K Q c_M_tellNormal_2 kc ks loc (a2 :: a1 :: st) h = (st.length ≤ 4 ∧ eg_Cs n_M_at_II [a1, a2] h (fun v h9 => wps rm K Q c_M_tellNormal_5 kc ks loc (v.toList ++ st) h9)) := eg_c0_2
theorem s_M_tellNormal_5 {x : Int32} : wps rm K Q c_M_tellNormal_5 kc ks loc (.int x :: st) h = wps rm K Q c_M_tellNormal_7 kc ks (eg_set1 loc 6 (.int x)) (st) h := rfl
theorem s_M_tellNormal_7 {x : Int32} {l0 : Option Value} {l : eg_Lo} : wps rm K Q c_M_tellNormal_7 kc ks (l0 :: some (.int x) :: l) (st) h = wps rm K Q c_M_tellNormal_8 kc ks (l0 :: some (.int x) :: l) (.int x :: st) h := rfl
theorem s_M_tellNormal_8 {x : Int32} {l0 l1 l2 : Option Value} {l : eg_Lo} : wps rm K Q c_M_tellNormal_8 kc ks (l0 :: l1 :: l2 :: some (.int x) :: l) (st) h = wps rm K Q c_M_tellNormal_9 kc ks (l0 :: l1 :: l2 :: some (.int x) :: l) (.int x :: st) h := rfl
theorem s_M_tellNormal_9  {a1 : Value} {a2 : Value} : wps rm K Q c_M_tellNormal_9 kc ks loc (a2 :: a1 :: st) h = (st.length ≤ 4 ∧ eg_Cs n_M_at_II [a1, a2] h (fun v h9 => wps rm K Q c_M_tellNormal_12 kc ks loc (v.toList ++ st) h9)) := eg_c0_2
theorem s_M_tellNormal_12 {x : Int32} : wps rm K Q c_M_tellNormal_12 kc ks loc (.int x :: st) h = wps rm K Q c_M_tellNormal_14 kc ks (eg_set1 loc 7 (.int x)) (st) h := rfl
theorem s_M_tellNormal_14 {x : Int32} {l0 : Option Value} {l : eg_Lo} : wps rm K Q c_M_tellNormal_14 kc ks (l0 :: some (.int x) :: l) (st) h = wps rm K Q c_M_tellNormal_15 kc ks (l0 :: some (.int x) :: l) (.int x :: st) h := rfl
theorem s_M_tellNormal_15 {x : Int32} {l0 l1 l2 l3 : Option Value} {l : eg_Lo} : wps rm K Q c_M_tellNormal_15 kc ks (l0 :: l1 :: l2 :: l3 :: some (.int x) :: l) (st) h = wps rm K Q c_M_tellNormal_17 kc ks (l0 :: l1 :: l2 :: l3 :: some (.int x) :: l) (.int x :: st) h := rfl
theorem s_M_tellNormal_17  {a1 : Value} {a2 : Value} : wps rm K Q c_M_tellNormal_17 kc ks loc (a2 :: a1 :: st) h = (st.length ≤ 4 ∧ eg_Cs n_M_at_II [a1, a2] h (fun v h9 => wps rm K Q c_M_tellNormal_20 kc ks loc (v.toList ++ st) h9)) := eg_c0_2
theorem s_M_tellNormal_20 {x : Int32} : wps rm K Q c_M_tellNormal_20 kc ks loc (.int x :: st) h = wps rm K Q c_M_tellNormal_22 kc ks (eg_set1 loc 8 (.int x)) (st) h := rfl
theorem s_M_tellNormal_22 {x : Int32} {l0 : Option Value} {l : eg_Lo} : wps rm K Q c_M_tellNormal_22 kc ks (l0 :: some (.int x) :: l) (st) h = wps rm K Q c_M_tellNormal_23 kc ks (l0 :: some (.int x) :: l) (.int x :: st) h := rfl
theorem s_M_tellNormal_23 {x : Int32} {l0 l1 l2 l3 l4 : Option Value} {l : eg_Lo} : wps rm K Q c_M_tellNormal_23 kc ks (l0 :: l1 :: l2 :: l3 :: l4 :: some (.int x) :: l) (st) h = wps rm K Q c_M_tellNormal_25 kc ks (l0 :: l1 :: l2 :: l3 :: l4 :: some (.int x) :: l) (.int x :: st) h := rfl
theorem s_M_tellNormal_25  {a1 : Value} {a2 : Value} : wps rm K Q c_M_tellNormal_25 kc ks loc (a2 :: a1 :: st) h = (st.length ≤ 4 ∧ eg_Cs n_M_at_II [a1, a2] h (fun v h9 => wps rm K Q c_M_tellNormal_28 kc ks loc (v.toList ++ st) h9)) := eg_c0_2
theorem s_M_tellNormal_28 {x : Int32} : wps rm K Q c_M_tellNormal_28 kc ks loc (.int x :: st) h = wps rm K Q c_M_tellNormal_30 kc ks (eg_set1 loc 9 (.int x)) (st) h := rfl
theorem s_M_tellNormal_30 {x : Nat} {l : eg_Lo} : wps rm K Q c_M_tellNormal_30 kc ks (some (.ref x) :: l) (st) h = wps rm K Q c_M_tellNormal_31 kc ks (some (.ref x) :: l) (.ref x :: st) h := rfl
theorem s_M_tellNormal_31 {x : Nat} : wps rm K Q c_M_tellNormal_31 kc ks loc (.ref (x + 1) :: st) h = eg_gf h x 12 1 (fun v => wps rm K Q c_M_tellNormal_34 kc ks loc (v :: st) h) := rfl
theorem s_M_tellNormal_34 {x : Int32} {l0 l1 l2 l3 l4 l5 l6 : Option Value} {l : eg_Lo} : wps rm K Q c_M_tellNormal_34 kc ks (l0 :: l1 :: l2 :: l3 :: l4 :: l5 :: l6 :: some (.int x) :: l) (st) h = wps rm K Q c_M_tellNormal_36 kc ks (l0 :: l1 :: l2 :: l3 :: l4 :: l5 :: l6 :: some (.int x) :: l) (.int x :: st) h := rfl
theorem s_M_tellNormal_36 {x : Nat} {i : Int32} : wps rm K Q c_M_tellNormal_36 kc ks loc (.int i :: .ref (x + 1) :: st) h = eg_ia h x i (fun v => wps rm K Q c_M_tellNormal_37 kc ks loc (.int v :: st) h) := rfl
theorem s_M_tellNormal_37 {x : Nat} {l : eg_Lo} : wps rm K Q c_M_tellNormal_37 kc ks (some (.ref x) :: l) (st) h = wps rm K Q c_M_tellNormal_38 kc ks (some (.ref x) :: l) (.ref x :: st) h := rfl
theorem s_M_tellNormal_38 {x : Nat} : wps rm K Q c_M_tellNormal_38 kc ks loc (.ref (x + 1) :: st) h = eg_gf h x 12 1 (fun v => wps rm K Q c_M_tellNormal_41 kc ks loc (v :: st) h) := rfl
theorem s_M_tellNormal_41 {x : Int32} {l0 l1 l2 l3 l4 l5 : Option Value} {l : eg_Lo} : wps rm K Q c_M_tellNormal_41 kc ks (l0 :: l1 :: l2 :: l3 :: l4 :: l5 :: some (.int x) :: l) (st) h = wps rm K Q c_M_tellNormal_43 kc ks (l0 :: l1 :: l2 :: l3 :: l4 :: l5 :: some (.int x) :: l) (.int x :: st) h := rfl
theorem s_M_tellNormal_43 {x : Nat} {i : Int32} : wps rm K Q c_M_tellNormal_43 kc ks loc (.int i :: .ref (x + 1) :: st) h = eg_ia h x i (fun v => wps rm K Q c_M_tellNormal_44 kc ks loc (.int v :: st) h) := rfl
theorem s_M_tellNormal_44 {x y : Int32} : wps rm K Q c_M_tellNormal_44 kc ks loc (.int y :: .int x :: st) h = wps rm K Q c_M_tellNormal_45 kc ks loc (.int (x - y) :: st) h := rfl
theorem s_M_tellNormal_45 {x : Int32} : wps rm K Q c_M_tellNormal_45 kc ks loc (.int x :: st) h = wps rm K Q c_M_tellNormal_46 kc ks loc (.long (x.toInt64) :: st) h := rfl
theorem s_M_tellNormal_46 {x : Int64} : wps rm K Q c_M_tellNormal_46 kc ks loc (.long x :: st) h = wps rm K Q c_M_tellNormal_48 kc ks (eg_set2 loc 10 (.long x)) (st) h := rfl
theorem s_M_tellNormal_48 {x : Nat} {l : eg_Lo} : wps rm K Q c_M_tellNormal_48 kc ks (some (.ref x) :: l) (st) h = wps rm K Q c_M_tellNormal_49 kc ks (some (.ref x) :: l) (.ref x :: st) h := rfl
theorem s_M_tellNormal_49 {x : Nat} : wps rm K Q c_M_tellNormal_49 kc ks loc (.ref (x + 1) :: st) h = eg_gf h x 12 2 (fun v => wps rm K Q c_M_tellNormal_52 kc ks loc (v :: st) h) := rfl
theorem s_M_tellNormal_52 {x : Int32} {l0 l1 l2 l3 l4 l5 l6 : Option Value} {l : eg_Lo} : wps rm K Q c_M_tellNormal_52 kc ks (l0 :: l1 :: l2 :: l3 :: l4 :: l5 :: l6 :: some (.int x) :: l) (st) h = wps rm K Q c_M_tellNormal_54 kc ks (l0 :: l1 :: l2 :: l3 :: l4 :: l5 :: l6 :: some (.int x) :: l) (.int x :: st) h := rfl
theorem s_M_tellNormal_54 {x : Nat} {i : Int32} : wps rm K Q c_M_tellNormal_54 kc ks loc (.int i :: .ref (x + 1) :: st) h = eg_ia h x i (fun v => wps rm K Q c_M_tellNormal_55 kc ks loc (.int v :: st) h) := rfl
theorem s_M_tellNormal_55 {x : Nat} {l : eg_Lo} : wps rm K Q c_M_tellNormal_55 kc ks (some (.ref x) :: l) (st) h = wps rm K Q c_M_tellNormal_56 kc ks (some (.ref x) :: l) (.ref x :: st) h := rfl
theorem s_M_tellNormal_56 {x : Nat} : wps rm K Q c_M_tellNormal_56 kc ks loc (.ref (x + 1) :: st) h = eg_gf h x 12 2 (fun v => wps rm K Q c_M_tellNormal_59 kc ks loc (v :: st) h) := rfl
theorem s_M_tellNormal_59 {x : Int32} {l0 l1 l2 l3 l4 l5 : Option Value} {l : eg_Lo} : wps rm K Q c_M_tellNormal_59 kc ks (l0 :: l1 :: l2 :: l3 :: l4 :: l5 :: some (.int x) :: l) (st) h = wps rm K Q c_M_tellNormal_61 kc ks (l0 :: l1 :: l2 :: l3 :: l4 :: l5 :: some (.int x) :: l) (.int x :: st) h := rfl
theorem s_M_tellNormal_61 {x : Nat} {i : Int32} : wps rm K Q c_M_tellNormal_61 kc ks loc (.int i :: .ref (x + 1) :: st) h = eg_ia h x i (fun v => wps rm K Q c_M_tellNormal_62 kc ks loc (.int v :: st) h) := rfl
theorem s_M_tellNormal_62 {x y : Int32} : wps rm K Q c_M_tellNormal_62 kc ks loc (.int y :: .int x :: st) h = wps rm K Q c_M_tellNormal_63 kc ks loc (.int (x - y) :: st) h := rfl
theorem s_M_tellNormal_63 {x : Int32} : wps rm K Q c_M_tellNormal_63 kc ks loc (.int x :: st) h = wps rm K Q c_M_tellNormal_64 kc ks loc (.long (x.toInt64) :: st) h := rfl
theorem s_M_tellNormal_64 {x : Int64} : wps rm K Q c_M_tellNormal_64 kc ks loc (.long x :: st) h = wps rm K Q c_M_tellNormal_66 kc ks (eg_set2 loc 12 (.long x)) (st) h := rfl
theorem s_M_tellNormal_66 {x : Nat} {l : eg_Lo} : wps rm K Q c_M_tellNormal_66 kc ks (some (.ref x) :: l) (st) h = wps rm K Q c_M_tellNormal_67 kc ks (some (.ref x) :: l) (.ref x :: st) h := rfl
theorem s_M_tellNormal_67 {x : Nat} : wps rm K Q c_M_tellNormal_67 kc ks loc (.ref (x + 1) :: st) h = eg_gf h x 12 3 (fun v => wps rm K Q c_M_tellNormal_70 kc ks loc (v :: st) h) := rfl
theorem s_M_tellNormal_70 {x : Int32} {l0 l1 l2 l3 l4 l5 l6 : Option Value} {l : eg_Lo} : wps rm K Q c_M_tellNormal_70 kc ks (l0 :: l1 :: l2 :: l3 :: l4 :: l5 :: l6 :: some (.int x) :: l) (st) h = wps rm K Q c_M_tellNormal_72 kc ks (l0 :: l1 :: l2 :: l3 :: l4 :: l5 :: l6 :: some (.int x) :: l) (.int x :: st) h := rfl
theorem s_M_tellNormal_72 {x : Nat} {i : Int32} : wps rm K Q c_M_tellNormal_72 kc ks loc (.int i :: .ref (x + 1) :: st) h = eg_ia h x i (fun v => wps rm K Q c_M_tellNormal_73 kc ks loc (.int v :: st) h) := rfl
theorem s_M_tellNormal_73 {x : Nat} {l : eg_Lo} : wps rm K Q c_M_tellNormal_73 kc ks (some (.ref x) :: l) (st) h = wps rm K Q c_M_tellNormal_74 kc ks (some (.ref x) :: l) (.ref x :: st) h := rfl
theorem s_M_tellNormal_74 {x : Nat} : wps rm K Q c_M_tellNormal_74 kc ks loc (.ref (x + 1) :: st) h = eg_gf h x 12 3 (fun v => wps rm K Q c_M_tellNormal_77 kc ks loc (v :: st) h) := rfl
theorem s_M_tellNormal_77 {x : Int32} {l0 l1 l2 l3 l4 l5 : Option Value} {l : eg_Lo} : wps rm K Q c_M_tellNormal_77 kc ks (l0 :: l1 :: l2 :: l3 :: l4 :: l5 :: some (.int x) :: l) (st) h = wps rm K Q c_M_tellNormal_79 kc ks (l0 :: l1 :: l2 :: l3 :: l4 :: l5 :: some (.int x) :: l) (.int x :: st) h := rfl
theorem s_M_tellNormal_79 {x : Nat} {i : Int32} : wps rm K Q c_M_tellNormal_79 kc ks loc (.int i :: .ref (x + 1) :: st) h = eg_ia h x i (fun v => wps rm K Q c_M_tellNormal_80 kc ks loc (.int v :: st) h) := rfl
theorem s_M_tellNormal_80 {x y : Int32} : wps rm K Q c_M_tellNormal_80 kc ks loc (.int y :: .int x :: st) h = wps rm K Q c_M_tellNormal_81 kc ks loc (.int (x - y) :: st) h := rfl
theorem s_M_tellNormal_81 {x : Int32} : wps rm K Q c_M_tellNormal_81 kc ks loc (.int x :: st) h = wps rm K Q c_M_tellNormal_82 kc ks loc (.long (x.toInt64) :: st) h := rfl
theorem s_M_tellNormal_82 {x : Int64} : wps rm K Q c_M_tellNormal_82 kc ks loc (.long x :: st) h = wps rm K Q c_M_tellNormal_84 kc ks (eg_set2 loc 14 (.long x)) (st) h := rfl
theorem s_M_tellNormal_84 {x : Nat} {l : eg_Lo} : wps rm K Q c_M_tellNormal_84 kc ks (some (.ref x) :: l) (st) h = wps rm K Q c_M_tellNormal_85 kc ks (some (.ref x) :: l) (.ref x :: st) h := rfl
theorem s_M_tellNormal_85 {x : Nat} : wps rm K Q c_M_tellNormal_85 kc ks loc (.ref (x + 1) :: st) h = eg_gf h x 12 1 (fun v => wps rm K Q c_M_tellNormal_88 kc ks loc (v :: st) h) := rfl
theorem s_M_tellNormal_88 {x : Int32} {l0 l1 l2 l3 l4 l5 l6 l7 l8 : Option Value} {l : eg_Lo} : wps rm K Q c_M_tellNormal_88 kc ks (l0 :: l1 :: l2 :: l3 :: l4 :: l5 :: l6 :: l7 :: l8 :: some (.int x) :: l) (st) h = wps rm K Q c_M_tellNormal_90 kc ks (l0 :: l1 :: l2 :: l3 :: l4 :: l5 :: l6 :: l7 :: l8 :: some (.int x) :: l) (.int x :: st) h := rfl
theorem s_M_tellNormal_90 {x : Nat} {i : Int32} : wps rm K Q c_M_tellNormal_90 kc ks loc (.int i :: .ref (x + 1) :: st) h = eg_ia h x i (fun v => wps rm K Q c_M_tellNormal_91 kc ks loc (.int v :: st) h) := rfl
theorem s_M_tellNormal_91 {x : Nat} {l : eg_Lo} : wps rm K Q c_M_tellNormal_91 kc ks (some (.ref x) :: l) (st) h = wps rm K Q c_M_tellNormal_92 kc ks (some (.ref x) :: l) (.ref x :: st) h := rfl
theorem s_M_tellNormal_92 {x : Nat} : wps rm K Q c_M_tellNormal_92 kc ks loc (.ref (x + 1) :: st) h = eg_gf h x 12 1 (fun v => wps rm K Q c_M_tellNormal_95 kc ks loc (v :: st) h) := rfl
theorem s_M_tellNormal_95 {x : Int32} {l0 l1 l2 l3 l4 l5 l6 l7 : Option Value} {l : eg_Lo} : wps rm K Q c_M_tellNormal_95 kc ks (l0 :: l1 :: l2 :: l3 :: l4 :: l5 :: l6 :: l7 :: some (.int x) :: l) (st) h = wps rm K Q c_M_tellNormal_97 kc ks (l0 :: l1 :: l2 :: l3 :: l4 :: l5 :: l6 :: l7 :: some (.int x) :: l) (.int x :: st) h := rfl
theorem s_M_tellNormal_97 {x : Nat} {i : Int32} : wps rm K Q c_M_tellNormal_97 kc ks loc (.int i :: .ref (x + 1) :: st) h = eg_ia h x i (fun v => wps rm K Q c_M_tellNormal_98 kc ks loc (.int v :: st) h) := rfl
theorem s_M_tellNormal_98 {x y : Int32} : wps rm K Q c_M_tellNormal_98 kc ks loc (.int y :: .int x :: st) h = wps rm K Q c_M_tellNormal_99 kc ks loc (.int (x - y) :: st) h := rfl
theorem s_M_tellNormal_99 {x : Int32} : wps rm K Q c_M_tellNormal_99 kc ks loc (.int x :: st) h = wps rm K Q c_M_tellNormal_100 kc ks loc (.long (x.toInt64) :: st) h := rfl
theorem s_M_tellNormal_100 {x : Int64} : wps rm K Q c_M_tellNormal_100 kc ks loc (.long x :: st) h = wps rm K Q c_M_tellNormal_102 kc ks (eg_set2 loc 16 (.long x)) (st) h := rfl
theorem s_M_tellNormal_102 {x : Nat} {l : eg_Lo} : wps rm K Q c_M_tellNormal_102 kc ks (some (.ref x) :: l) (st) h = wps rm K Q c_M_tellNormal_103 kc ks (some (.ref x) :: l) (.ref x :: st) h := rfl
theorem s_M_tellNormal_103 {x : Nat} : wps rm K Q c_M_tellNormal_103 kc ks loc (.ref (x + 1) :: st) h = eg_gf h x 12 2 (fun v => wps rm K Q c_M_tellNormal_106 kc ks loc (v :: st) h) := rfl
theorem s_M_tellNormal_106 {x : Int32} {l0 l1 l2 l3 l4 l5 l6 l7 l8 : Option Value} {l : eg_Lo} : wps rm K Q c_M_tellNormal_106 kc ks (l0 :: l1 :: l2 :: l3 :: l4 :: l5 :: l6 :: l7 :: l8 :: some (.int x) :: l) (st) h = wps rm K Q c_M_tellNormal_108 kc ks (l0 :: l1 :: l2 :: l3 :: l4 :: l5 :: l6 :: l7 :: l8 :: some (.int x) :: l) (.int x :: st) h := rfl
theorem s_M_tellNormal_108 {x : Nat} {i : Int32} : wps rm K Q c_M_tellNormal_108 kc ks loc (.int i :: .ref (x + 1) :: st) h = eg_ia h x i (fun v => wps rm K Q c_M_tellNormal_109 kc ks loc (.int v :: st) h) := rfl
theorem s_M_tellNormal_109 {x : Nat} {l : eg_Lo} : wps rm K Q c_M_tellNormal_109 kc ks (some (.ref x) :: l) (st) h = wps rm K Q c_M_tellNormal_110 kc ks (some (.ref x) :: l) (.ref x :: st) h := rfl
theorem s_M_tellNormal_110 {x : Nat} : wps rm K Q c_M_tellNormal_110 kc ks loc (.ref (x + 1) :: st) h = eg_gf h x 12 2 (fun v => wps rm K Q c_M_tellNormal_113 kc ks loc (v :: st) h) := rfl
theorem s_M_tellNormal_113 {x : Int32} {l0 l1 l2 l3 l4 l5 l6 l7 : Option Value} {l : eg_Lo} : wps rm K Q c_M_tellNormal_113 kc ks (l0 :: l1 :: l2 :: l3 :: l4 :: l5 :: l6 :: l7 :: some (.int x) :: l) (st) h = wps rm K Q c_M_tellNormal_115 kc ks (l0 :: l1 :: l2 :: l3 :: l4 :: l5 :: l6 :: l7 :: some (.int x) :: l) (.int x :: st) h := rfl
theorem s_M_tellNormal_115 {x : Nat} {i : Int32} : wps rm K Q c_M_tellNormal_115 kc ks loc (.int i :: .ref (x + 1) :: st) h = eg_ia h x i (fun v => wps rm K Q c_M_tellNormal_116 kc ks loc (.int v :: st) h) := rfl
theorem s_M_tellNormal_116 {x y : Int32} : wps rm K Q c_M_tellNormal_116 kc ks loc (.int y :: .int x :: st) h = wps rm K Q c_M_tellNormal_117 kc ks loc (.int (x - y) :: st) h := rfl
theorem s_M_tellNormal_117 {x : Int32} : wps rm K Q c_M_tellNormal_117 kc ks loc (.int x :: st) h = wps rm K Q c_M_tellNormal_118 kc ks loc (.long (x.toInt64) :: st) h := rfl
theorem s_M_tellNormal_118 {x : Int64} : wps rm K Q c_M_tellNormal_118 kc ks loc (.long x :: st) h = wps rm K Q c_M_tellNormal_120 kc ks (eg_set2 loc 18 (.long x)) (st) h := rfl
theorem s_M_tellNormal_120 {x : Nat} {l : eg_Lo} : wps rm K Q c_M_tellNormal_120 kc ks (some (.ref x) :: l) (st) h = wps rm K Q c_M_tellNormal_121 kc ks (some (.ref x) :: l) (.ref x :: st) h := rfl
theorem s_M_tellNormal_121 {x : Nat} : wps rm K Q c_M_tellNormal_121 kc ks loc (.ref (x + 1) :: st) h = eg_gf h x 12 3 (fun v => wps rm K Q c_M_tellNormal_124 kc ks loc (v :: st) h) := rfl
theorem s_M_tellNormal_124 {x : Int32} {l0 l1 l2 l3 l4 l5 l6 l7 l8 : Option Value} {l : eg_Lo} : wps rm K Q c_M_tellNormal_124 kc ks (l0 :: l1 :: l2 :: l3 :: l4 :: l5 :: l6 :: l7 :: l8 :: some (.int x) :: l) (st) h = wps rm K Q c_M_tellNormal_126 kc ks (l0 :: l1 :: l2 :: l3 :: l4 :: l5 :: l6 :: l7 :: l8 :: some (.int x) :: l) (.int x :: st) h := rfl
theorem s_M_tellNormal_126 {x : Nat} {i : Int32} : wps rm K Q c_M_tellNormal_126 kc ks loc (.int i :: .ref (x + 1) :: st) h = eg_ia h x i (fun v => wps rm K Q c_M_tellNormal_127 kc ks loc (.int v :: st) h) := rfl
theorem s_M_tellNormal_127 {x : Nat} {l : eg_Lo} : wps rm K Q c_M_tellNormal_127 kc ks (some (.ref x) :: l) (st) h = wps rm K Q c_M_tellNormal_128 kc ks (some (.ref x) :: l) (.ref x :: st) h := rfl
theorem s_M_tellNormal_128 {x : Nat} : wps rm K Q c_M_tellNormal_128 kc ks loc (.ref (x + 1) :: st) h = eg_gf h x 12 3 (fun v => wps rm K Q c_M_tellNormal_131 kc ks loc (v :: st) h) := rfl
theorem s_M_tellNormal_131 {x : Int32} {l0 l1 l2 l3 l4 l5 l6 l7 : Option Value} {l : eg_Lo} : wps rm K Q c_M_tellNormal_131 kc ks (l0 :: l1 :: l2 :: l3 :: l4 :: l5 :: l6 :: l7 :: some (.int x) :: l) (st) h = wps rm K Q c_M_tellNormal_133 kc ks (l0 :: l1 :: l2 :: l3 :: l4 :: l5 :: l6 :: l7 :: some (.int x) :: l) (.int x :: st) h := rfl
theorem s_M_tellNormal_133 {x : Nat} {i : Int32} : wps rm K Q c_M_tellNormal_133 kc ks loc (.int i :: .ref (x + 1) :: st) h = eg_ia h x i (fun v => wps rm K Q c_M_tellNormal_134 kc ks loc (.int v :: st) h) := rfl
theorem s_M_tellNormal_134 {x y : Int32} : wps rm K Q c_M_tellNormal_134 kc ks loc (.int y :: .int x :: st) h = wps rm K Q c_M_tellNormal_135 kc ks loc (.int (x - y) :: st) h := rfl
theorem s_M_tellNormal_135 {x : Int32} : wps rm K Q c_M_tellNormal_135 kc ks loc (.int x :: st) h = wps rm K Q c_M_tellNormal_136 kc ks loc (.long (x.toInt64) :: st) h := rfl
theorem s_M_tellNormal_136 {x : Int64} : wps rm K Q c_M_tellNormal_136 kc ks loc (.long x :: st) h = wps rm K Q c_M_tellNormal_138 kc ks (eg_set2 loc 20 (.long x)) (st) h := rfl
theorem s_M_tellNormal_138 {x : Nat} {l : eg_Lo} : wps rm K Q c_M_tellNormal_138 kc ks (some (.ref x) :: l) (st) h = wps rm K Q c_M_tellNormal_139 kc ks (some (.ref x) :: l) (.ref x :: st) h := rfl
theorem s_M_tellNormal_139 {x : Nat} : wps rm K Q c_M_tellNormal_139 kc ks loc (.ref (x + 1) :: st) h = eg_gf h x 12 33 (fun v => wps rm K Q c_M_tellNormal_142 kc ks loc (v :: st) h) := rfl
theorem s_M_tellNormal_142  : wps rm K Q c_M_tellNormal_142 kc ks loc (st) h = wps rm K Q c_M_tellNormal_143 kc ks loc (.int (0) :: st) h := rfl
theorem s_M_tellNormal_143 {x : Int64} {l0 l1 l2 l3 l4 l5 l6 l7 l8 l9 l10 l11 : Option Value} {l : eg_Lo} : wps rm K Q c_M_tellNormal_143 kc ks (l0 :: l1 :: l2 :: l3 :: l4 :: l5 :: l6 :: l7 :: l8 :: l9 :: l10 :: l11 :: some (.long x) :: l) (st) h = wps rm K Q c_M_tellNormal_145 kc ks (l0 :: l1 :: l2 :: l3 :: l4 :: l5 :: l6 :: l7 :: l8 :: l9 :: l10 :: l11 :: some (.long x) :: l) (.long x :: st) h := rfl
theorem s_M_tellNormal_145 {x : Int64} {l0 l1 l2 l3 l4 l5 l6 l7 l8 l9 l10 l11 l12 l13 l14 l15 l16 l17 l18 l19 : Option Value} {l : eg_Lo} : wps rm K Q c_M_tellNormal_145 kc ks (l0 :: l1 :: l2 :: l3 :: l4 :: l5 :: l6 :: l7 :: l8 :: l9 :: l10 :: l11 :: l12 :: l13 :: l14 :: l15 :: l16 :: l17 :: l18 :: l19 :: some (.long x) :: l) (st) h = wps rm K Q c_M_tellNormal_147 kc ks (l0 :: l1 :: l2 :: l3 :: l4 :: l5 :: l6 :: l7 :: l8 :: l9 :: l10 :: l11 :: l12 :: l13 :: l14 :: l15 :: l16 :: l17 :: l18 :: l19 :: some (.long x) :: l) (.long x :: st) h := rfl
theorem s_M_tellNormal_147 {x y : Int64} : wps rm K Q c_M_tellNormal_147 kc ks loc (.long y :: .long x :: st) h = wps rm K Q c_M_tellNormal_148 kc ks loc (.long (x * y) :: st) h := rfl
theorem s_M_tellNormal_148 {x : Int64} {l0 l1 l2 l3 l4 l5 l6 l7 l8 l9 l10 l11 l12 l13 : Option Value} {l : eg_Lo} : wps rm K Q c_M_tellNormal_148 kc ks (l0 :: l1 :: l2 :: l3 :: l4 :: l5 :: l6 :: l7 :: l8 :: l9 :: l10 :: l11 :: l12 :: l13 :: some (.long x) :: l) (st) h = wps rm K Q c_M_tellNormal_150 kc ks (l0 :: l1 :: l2 :: l3 :: l4 :: l5 :: l6 :: l7 :: l8 :: l9 :: l10 :: l11 :: l12 :: l13 :: some (.long x) :: l) (.long x :: st) h := rfl
theorem s_M_tellNormal_150 {x : Int64} {l0 l1 l2 l3 l4 l5 l6 l7 l8 l9 l10 l11 l12 l13 l14 l15 l16 l17 : Option Value} {l : eg_Lo} : wps rm K Q c_M_tellNormal_150 kc ks (l0 :: l1 :: l2 :: l3 :: l4 :: l5 :: l6 :: l7 :: l8 :: l9 :: l10 :: l11 :: l12 :: l13 :: l14 :: l15 :: l16 :: l17 :: some (.long x) :: l) (st) h = wps rm K Q c_M_tellNormal_152 kc ks (l0 :: l1 :: l2 :: l3 :: l4 :: l5 :: l6 :: l7 :: l8 :: l9 :: l10 :: l11 :: l12 :: l13 :: l14 :: l15 :: l16 :: l17 :: some (.long x) :: l) (.long x :: st) h := rfl
theorem s_M_tellNormal_152 {x y : Int64} : wps rm K Q c_M_tellNormal_152 kc ks loc (.long y :: .long x :: st) h = wps rm K Q c_M_tellNormal_153 kc ks loc (.long (x * y) :: st) h := rfl
theorem s_M_tellNormal_153 {x y : Int64} : wps rm K Q c_M_tellNormal_153 kc ks loc (.long y :: .long x :: st) h = wps rm K Q c_M_tellNormal_154 kc ks loc (.long (x - y) :: st) h := rfl
theorem s_M_tellNormal_154 {x : Nat} {i : Int32} {v : Int64} : wps rm K Q c_M_tellNormal_154 kc ks loc (.long v :: .int i :: .ref (x + 1) :: st) h = eg_lst h x i v (fun h9 => wps rm K Q c_M_tellNormal_155 kc ks loc (st) h9) := rfl
theorem s_M_tellNormal_155 {x : Nat} {l : eg_Lo} : wps rm K Q c_M_tellNormal_155 kc ks (some (.ref x) :: l) (st) h = wps rm K Q c_M_tellNormal_156 kc ks (some (.ref x) :: l) (.ref x :: st) h := rfl
theorem s_M_tellNormal_156 {x : Nat} : wps rm K Q c_M_tellNormal_156 kc ks loc (.ref (x + 1) :: st) h = eg_gf h x 12 33 (fun v => wps rm K Q c_M_tellNormal_159 kc ks loc (v :: st) h) := rfl
theorem s_M_tellNormal_159  : wps rm K Q c_M_tellNormal_159 kc ks loc (st) h = wps rm K Q c_M_tellNormal_160 kc ks loc (.int (1) :: st) h := rfl
theorem s_M_tellNormal_160 {x : Int64} {l0 l1 l2 l3 l4 l5 l6 l7 l8 l9 l10 l11 l12 l13 : Option Value} {l : eg_Lo} : wps rm K Q c_M_tellNormal_160 kc ks (l0 :: l1 :: l2 :: l3 :: l4 :: l5 :: l6 :: l7 :: l8 :: l9 :: l10 :: l11 :: l12 :: l13 :: some (.long x) :: l) (st) h = wps rm K Q c_M_tellNormal_162 kc ks (l0 :: l1 :: l2 :: l3 :: l4 :: l5 :: l6 :: l7 :: l8 :: l9 :: l10 :: l11 :: l12 :: l13 :: some (.long x) :: l) (.long x :: st) h := rfl
theorem s_M_tellNormal_162 {x : Int64} {l0 l1 l2 l3 l4 l5 l6 l7 l8 l9 l10 l11 l12 l13 l14 l15 : Option Value} {l : eg_Lo} : wps rm K Q c_M_tellNormal_162 kc ks (l0 :: l1 :: l2 :: l3 :: l4 :: l5 :: l6 :: l7 :: l8 :: l9 :: l10 :: l11 :: l12 :: l13 :: l14 :: l15 :: some (.long x) :: l) (st) h = wps rm K Q c_M_tellNormal_164 kc ks (l0 :: l1 :: l2 :: l3 :: l4 :: l5 :: l6 :: l7 :: l8 :: l9 :: l10 :: l11 :: l12 :: l13 :: l14 :: l15 :: some (.long x) :: l) (.long x :: st) h := rfl
theorem s_M_tellNormal_164 {x y : Int64} : wps rm K Q c_M_tellNormal_164 kc ks loc (.long y :: .long x :: st) h = wps rm K Q c_M_tellNormal_165 kc ks loc (.long (x * y) :: st) h := rfl
theorem s_M_tellNormal_165 {x : Int64} {l0 l1 l2 l3 l4 l5 l6 l7 l8 l9 : Option Value} {l : eg_Lo} : wps rm K Q c_M_tellNormal_165 kc ks (l0 :: l1 :: l2 :: l3 :: l4 :: l5 :: l6 :: l7 :: l8 :: l9 :: some (.long x) :: l) (st) h = wps rm K Q c_M_tellNormal_167 kc ks (l0 :: l1 :: l2 :: l3 :: l4 :: l5 :: l6 :: l7 :: l8 :: l9 :: some (.long x) :: l) (.long x :: st) h := rfl
theorem s_M_tellNormal_167 {x : Int64} {l0 l1 l2 l3 l4 l5 l6 l7 l8 l9 l10 l11 l12 l13 l14 l15 l16 l17 l18 l19 : Option Value} {l : eg_Lo} : wps rm K Q c_M_tellNormal_167 kc ks (l0 :: l1 :: l2 :: l3 :: l4 :: l5 :: l6 :: l7 :: l8 :: l9 :: l10 :: l11 :: l12 :: l13 :: l14 :: l15 :: l16 :: l17 :: l18 :: l19 :: some (.long x) :: l) (st) h = wps rm K Q c_M_tellNormal_169 kc ks (l0 :: l1 :: l2 :: l3 :: l4 :: l5 :: l6 :: l7 :: l8 :: l9 :: l10 :: l11 :: l12 :: l13 :: l14 :: l15 :: l16 :: l17 :: l18 :: l19 :: some (.long x) :: l) (.long x :: st) h := rfl
theorem s_M_tellNormal_169 {x y : Int64} : wps rm K Q c_M_tellNormal_169 kc ks loc (.long y :: .long x :: st) h = wps rm K Q c_M_tellNormal_170 kc ks loc (.long (x * y) :: st) h := rfl
theorem s_M_tellNormal_170 {x y : Int64} : wps rm K Q c_M_tellNormal_170 kc ks loc (.long y :: .long x :: st) h = wps rm K Q c_M_tellNormal_171 kc ks loc (.long (x - y) :: st) h := rfl
theorem s_M_tellNormal_171 {x : Nat} {i : Int32} {v : Int64} : wps rm K Q c_M_tellNormal_171 kc ks loc (.long v :: .int i :: .ref (x + 1) :: st) h = eg_lst h x i v (fun h9 => wps rm K Q c_M_tellNormal_172 kc ks loc (st) h9) := rfl
theorem s_M_tellNormal_172 {x : Nat} {l : eg_Lo} : wps rm K Q c_M_tellNormal_172 kc ks (some (.ref x) :: l) (st) h = wps rm K Q c_M_tellNormal_173 kc ks (some (.ref x) :: l) (.ref x :: st) h := rfl
theorem s_M_tellNormal_173 {x : Nat} : wps rm K Q c_M_tellNormal_173 kc ks loc (.ref (x + 1) :: st) h = eg_gf h x 12 33 (fun v => wps rm K Q c_M_tellNormal_176 kc ks loc (v :: st) h) := rfl
theorem s_M_tellNormal_176  : wps rm K Q c_M_tellNormal_176 kc ks loc (st) h = wps rm K Q c_M_tellNormal_177 kc ks loc (.int (2) :: st) h := rfl
theorem s_M_tellNormal_177 {x : Int64} {l0 l1 l2 l3 l4 l5 l6 l7 l8 l9 : Option Value} {l : eg_Lo} : wps rm K Q c_M_tellNormal_177 kc ks (l0 :: l1 :: l2 :: l3 :: l4 :: l5 :: l6 :: l7 :: l8 :: l9 :: some (.long x) :: l) (st) h = wps rm K Q c_M_tellNormal_179 kc ks (l0 :: l1 :: l2 :: l3 :: l4 :: l5 :: l6 :: l7 :: l8 :: l9 :: some (.long x) :: l) (.long x :: st) h := rfl
theorem s_M_tellNormal_179 {x : Int64} {l0 l1 l2 l3 l4 l5 l6 l7 l8 l9 l10 l11 l12 l13 l14 l15 l16 l17 : Option Value} {l : eg_Lo} : wps rm K Q c_M_tellNormal_179 kc ks (l0 :: l1 :: l2 :: l3 :: l4 :: l5 :: l6 :: l7 :: l8 :: l9 :: l10 :: l11 :: l12 :: l13 :: l14 :: l15 :: l16 :: l17 :: some (.long x) :: l) (st) h = wps rm K Q c_M_tellNormal_181 kc ks (l0 :: l1 :: l2 :: l3 :: l4 :: l5 :: l6 :: l7 :: l8 :: l9 :: l10 :: l11 :: l12 :: l13 :: l14 :: l15 :: l16 :: l17 :: some (.long x) :: l) (.long x :: st) h := rfl
theorem s_M_tellNormal_181 {x y : Int64} : wps rm K Q c_M_tellNormal_181 kc ks loc (.long y :: .long x :: st) h = wps rm K Q c_M_tellNormal_182 kc ks loc (.long (x * y) :: st) h := rfl
theorem s_M_tellNormal_182 {x : Int64} {l0 l1 l2 l3 l4 l5 l6 l7 l8 l9 l10 l11 : Option Value} {l : eg_Lo} : wps rm K Q c_M_tellNormal_182 kc ks (l0 :: l1 :: l2 :: l3 :: l4 :: l5 :: l6 :: l7 :: l8 :: l9 :: l10 :: l11 :: some (.long x) :: l) (st) h = wps rm K Q c_M_tellNormal_184 kc ks (l0 :: l1 :: l2 :: l3 :: l4 :: l5 :: l6 :: l7 :: l8 :: l9 :: l10 :: l11 :: some (.long x) :: l) (.long x :: st) h := rfl
theorem s_M_tellNormal_184 {x : Int64} {l0 l1 l2 l3 l4 l5 l6 l7 l8 l9 l10 l11 l12 l13 l14 l15 : Option Value} {l : eg_Lo} : wps rm K Q c_M_tellNormal_184 kc ks (l0 :: l1 :: l2 :: l3 :: l4 :: l5 :: l6 :: l7 :: l8 :: l9 :: l10 :: l11 :: l12 :: l13 :: l14 :: l15 :: some (.long x) :: l) (st) h = wps rm K Q c_M_tellNormal_186 kc ks (l0 :: l1 :: l2 :: l3 :: l4 :: l5 :: l6 :: l7 :: l8 :: l9 :: l10 :: l11 :: l12 :: l13 :: l14 :: l15 :: some (.long x) :: l) (.long x :: st) h := rfl
theorem s_M_tellNormal_186 {x y : Int64} : wps rm K Q c_M_tellNormal_186 kc ks loc (.long y :: .long x :: st) h = wps rm K Q c_M_tellNormal_187 kc ks loc (.long (x * y) :: st) h := rfl
theorem s_M_tellNormal_187 {x y : Int64} : wps rm K Q c_M_tellNormal_187 kc ks loc (.long y :: .long x :: st) h = wps rm K Q c_M_tellNormal_188 kc ks loc (.long (x - y) :: st) h := rfl
theorem s_M_tellNormal_188 {x : Nat} {i : Int32} {v : Int64} : wps rm K Q c_M_tellNormal_188 kc ks loc (.long v :: .int i :: .ref (x + 1) :: st) h = eg_lst h x i v (fun h9 => wps rm K Q c_M_tellNormal_189 kc ks loc (st) h9) := rfl
theorem s_M_tellNormal_189  : wps rm K Q c_M_tellNormal_189 kc ks loc ([]) h = (kc = rm.cells ∧ Q none h) := rfl
def T_M_tellNormal : List (Nat × List eg_I) := []
end
theorem q_M_tellNormal : (T_M_tellNormal.all fun q => eg_seq m_M_tellNormal q.1 q.2) = true := by decide +kernel
theorem b_M_tellNormal {as : List Value} {h : List eg_E} {Q : Option Value → List eg_E → Prop} (hf : (eg_fl as).length ≤ 22) (hw : wps (eg_rm m_M_tellNormal) (eg_run (eg_rm m_M_tellNormal) (eg_R m_M_tellNormal Q (h.length + 0)) Q T_M_tellNormal 2) Q c_M_tellNormal_0 0 0 (eg_entry 22 as) [] h) : eg_Runs n_M_tellNormal as h Q := eg_begin (d := m_M_tellNormal) rfl (by decide) (by decide +kernel) q_M_tellNormal hf hw
/-! ===== M_squareOf ===== -/
def c_M_squareOf_41 : List eg_I := .inl (41, 1, .lreturn, 0, 0) :: []
def c_M_squareOf_40 : List eg_I := .inl (40, 1, .ladd, 0, 0) :: c_M_squareOf_41
def c_M_squareOf_39 : List eg_I := .inl (39, 1, .lmul, 0, 0) :: c_M_squareOf_40
def c_M_squareOf_38 : List eg_I := .inl (38, 1, .laload, 0, 0) :: c_M_squareOf_39
def c_M_squareOf_37 : List eg_I := .inl (37, 1, .iconst (2), 0, 0) :: c_M_squareOf_38
def c_M_squareOf_34 : List eg_I := .inl (34, 3, .getfield 88, 12, 33) :: c_M_squareOf_37
def c_M_squareOf_33 : List eg_I := .inl (33, 1, .aload 0, 0, 0) :: c_M_squareOf_34
def c_M_squareOf_32 : List eg_I := .inl (32, 1, .laload, 0, 0) :: c_M_squareOf_33
def c_M_squareOf_31 : List eg_I := .inl (31, 1, .iconst (2), 0, 0) :: c_M_squareOf_32
def c_M_squareOf_28 : List eg_I := .inl (28, 3, .getfield 88, 12, 33) :: c_M_squareOf_31
def c_M_squareOf_27 : List eg_I := .inl (27, 1, .aload 0, 0, 0) :: c_M_squareOf_28
def c_M_squareOf_26 : List eg_I := .inl (26, 1, .ladd, 0, 0) :: c_M_squareOf_27
def c_M_squareOf_25 : List eg_I := .inl (25, 1, .lmul, 0, 0) :: c_M_squareOf_26
def c_M_squareOf_24 : List eg_I := .inl (24, 1, .laload, 0, 0) :: c_M_squareOf_25
def c_M_squareOf_23 : List eg_I := .inl (23, 1, .iconst (1), 0, 0) :: c_M_squareOf_24
def c_M_squareOf_20 : List eg_I := .inl (20, 3, .getfield 88, 12, 33) :: c_M_squareOf_23
def c_M_squareOf_19 : List eg_I := .inl (19, 1, .aload 0, 0, 0) :: c_M_squareOf_20
def c_M_squareOf_18 : List eg_I := .inl (18, 1, .laload, 0, 0) :: c_M_squareOf_19
def c_M_squareOf_17 : List eg_I := .inl (17, 1, .iconst (1), 0, 0) :: c_M_squareOf_18
def c_M_squareOf_14 : List eg_I := .inl (14, 3, .getfield 88, 12, 33) :: c_M_squareOf_17
def c_M_squareOf_13 : List eg_I := .inl (13, 1, .aload 0, 0, 0) :: c_M_squareOf_14
def c_M_squareOf_12 : List eg_I := .inl (12, 1, .lmul, 0, 0) :: c_M_squareOf_13
def c_M_squareOf_11 : List eg_I := .inl (11, 1, .laload, 0, 0) :: c_M_squareOf_12
def c_M_squareOf_10 : List eg_I := .inl (10, 1, .iconst (0), 0, 0) :: c_M_squareOf_11
def c_M_squareOf_7 : List eg_I := .inl (7, 3, .getfield 88, 12, 33) :: c_M_squareOf_10
def c_M_squareOf_6 : List eg_I := .inl (6, 1, .aload 0, 0, 0) :: c_M_squareOf_7
def c_M_squareOf_5 : List eg_I := .inl (5, 1, .laload, 0, 0) :: c_M_squareOf_6
def c_M_squareOf_4 : List eg_I := .inl (4, 1, .iconst (0), 0, 0) :: c_M_squareOf_5
def c_M_squareOf_1 : List eg_I := .inl (1, 3, .getfield 88, 12, 33) :: c_M_squareOf_4
def c_M_squareOf_0 : List eg_I := .inl (0, 1, .aload 0, 0, 0) :: c_M_squareOf_1
section
variable {rm : Room} {K : Nat → Nat → Nat → eg_Lo → List Value → List eg_E → Prop} {Q : Option Value → List eg_E → Prop} {kc ks : Nat} {loc : eg_Lo} {st : List Value} {h : List eg_E}
theorem s_M_squareOf_0 {x : Nat} {l : eg_Lo} : wps rm K Q c_M_squareOf_0 kc ks (some (.ref x) :: l) (st) h = wps rm K Q c_M_squareOf_1 kc ks (some (.ref x) :: l) (.ref x :: st) h := rfl
theorem s_M_squareOf_1 {x : Nat} : wps rm K Q c_M_squareOf_1 kc ks loc (.ref (x + 1) :: st) h = eg_gf h x 12 33 (fun v => wps rm K Q c_M_squareOf_4 kc ks loc (v :: st) h) := rfl
theorem s_M_squareOf_4  : wps rm K Q c_M_squareOf_4 kc ks loc (st) h = wps rm K Q c_M_squareOf_5 kc ks loc (.int (0) :: st) h := rfl
theorem s_M_squareOf_5 {x : Nat} {i : Int32} : wps rm K Q c_M_squareOf_5 kc ks loc (.int i :: .ref (x + 1) :: st) h = eg_la h x i (fun v => wps rm K Q c_M_squareOf_6 kc ks loc (.long v :: st) h) := rfl
theorem s_M_squareOf_6 {x : Nat} {l : eg_Lo} : wps rm K Q c_M_squareOf_6 kc ks (some (.ref x) :: l) (st) h = wps rm K Q c_M_squareOf_7 kc ks (some (.ref x) :: l) (.ref x :: st) h := rfl
theorem s_M_squareOf_7 {x : Nat} : wps rm K Q c_M_squareOf_7 kc ks loc (.ref (x + 1) :: st) h = eg_gf h x 12 33 (fun v => wps rm K Q c_M_squareOf_10 kc ks loc (v :: st) h) := rfl
theorem s_M_squareOf_10  : wps rm K Q c_M_squareOf_10 kc ks loc (st) h = wps rm K Q c_M_squareOf_11 kc ks loc (.int (0) :: st) h := rfl
theorem s_M_squareOf_11 {x : Nat} {i : Int32} : wps rm K Q c_M_squareOf_11 kc ks loc (.int i :: .ref (x + 1) :: st) h = eg_la h x i (fun v => wps rm K Q c_M_squareOf_12 kc ks loc (.long v :: st) h) := rfl
theorem s_M_squareOf_12 {x y : Int64} : wps rm K Q c_M_squareOf_12 kc ks loc (.long y :: .long x :: st) h = wps rm K Q c_M_squareOf_13 kc ks loc (.long (x * y) :: st) h := rfl
theorem s_M_squareOf_13 {x : Nat} {l : eg_Lo} : wps rm K Q c_M_squareOf_13 kc ks (some (.ref x) :: l) (st) h = wps rm K Q c_M_squareOf_14 kc ks (some (.ref x) :: l) (.ref x :: st) h := rfl
theorem s_M_squareOf_14 {x : Nat} : wps rm K Q c_M_squareOf_14 kc ks loc (.ref (x + 1) :: st) h = eg_gf h x 12 33 (fun v => wps rm K Q c_M_squareOf_17 kc ks loc (v :: st) h) := rfl
theorem s_M_squareOf_17  : wps rm K Q c_M_squareOf_17 kc ks loc (st) h = wps rm K Q c_M_squareOf_18 kc ks loc (.int (1) :: st) h := rfl
theorem s_M_squareOf_18 {x : Nat} {i : Int32} : wps rm K Q c_M_squareOf_18 kc ks loc (.int i :: .ref (x + 1) :: st) h = eg_la h x i (fun v => wps rm K Q c_M_squareOf_19 kc ks loc (.long v :: st) h) := rfl
theorem s_M_squareOf_19 {x : Nat} {l : eg_Lo} : wps rm K Q c_M_squareOf_19 kc ks (some (.ref x) :: l) (st) h = wps rm K Q c_M_squareOf_20 kc ks (some (.ref x) :: l) (.ref x :: st) h := rfl
theorem s_M_squareOf_20 {x : Nat} : wps rm K Q c_M_squareOf_20 kc ks loc (.ref (x + 1) :: st) h = eg_gf h x 12 33 (fun v => wps rm K Q c_M_squareOf_23 kc ks loc (v :: st) h) := rfl
theorem s_M_squareOf_23  : wps rm K Q c_M_squareOf_23 kc ks loc (st) h = wps rm K Q c_M_squareOf_24 kc ks loc (.int (1) :: st) h := rfl
theorem s_M_squareOf_24 {x : Nat} {i : Int32} : wps rm K Q c_M_squareOf_24 kc ks loc (.int i :: .ref (x + 1) :: st) h = eg_la h x i (fun v => wps rm K Q c_M_squareOf_25 kc ks loc (.long v :: st) h) := rfl
theorem s_M_squareOf_25 {x y : Int64} : wps rm K Q c_M_squareOf_25 kc ks loc (.long y :: .long x :: st) h = wps rm K Q c_M_squareOf_26 kc ks loc (.long (x * y) :: st) h := rfl
theorem s_M_squareOf_26 {x y : Int64} : wps rm K Q c_M_squareOf_26 kc ks loc (.long y :: .long x :: st) h = wps rm K Q c_M_squareOf_27 kc ks loc (.long (x + y) :: st) h := rfl
theorem s_M_squareOf_27 {x : Nat} {l : eg_Lo} : wps rm K Q c_M_squareOf_27 kc ks (some (.ref x) :: l) (st) h = wps rm K Q c_M_squareOf_28 kc ks (some (.ref x) :: l) (.ref x :: st) h := rfl
theorem s_M_squareOf_28 {x : Nat} : wps rm K Q c_M_squareOf_28 kc ks loc (.ref (x + 1) :: st) h = eg_gf h x 12 33 (fun v => wps rm K Q c_M_squareOf_31 kc ks loc (v :: st) h) := rfl
theorem s_M_squareOf_31  : wps rm K Q c_M_squareOf_31 kc ks loc (st) h = wps rm K Q c_M_squareOf_32 kc ks loc (.int (2) :: st) h := rfl
theorem s_M_squareOf_32 {x : Nat} {i : Int32} : wps rm K Q c_M_squareOf_32 kc ks loc (.int i :: .ref (x + 1) :: st) h = eg_la h x i (fun v => wps rm K Q c_M_squareOf_33 kc ks loc (.long v :: st) h) := rfl
theorem s_M_squareOf_33 {x : Nat} {l : eg_Lo} : wps rm K Q c_M_squareOf_33 kc ks (some (.ref x) :: l) (st) h = wps rm K Q c_M_squareOf_34 kc ks (some (.ref x) :: l) (.ref x :: st) h := rfl
theorem s_M_squareOf_34 {x : Nat} : wps rm K Q c_M_squareOf_34 kc ks loc (.ref (x + 1) :: st) h = eg_gf h x 12 33 (fun v => wps rm K Q c_M_squareOf_37 kc ks loc (v :: st) h) := rfl
theorem s_M_squareOf_37  : wps rm K Q c_M_squareOf_37 kc ks loc (st) h = wps rm K Q c_M_squareOf_38 kc ks loc (.int (2) :: st) h := rfl
theorem s_M_squareOf_38 {x : Nat} {i : Int32} : wps rm K Q c_M_squareOf_38 kc ks loc (.int i :: .ref (x + 1) :: st) h = eg_la h x i (fun v => wps rm K Q c_M_squareOf_39 kc ks loc (.long v :: st) h) := rfl
theorem s_M_squareOf_39 {x y : Int64} : wps rm K Q c_M_squareOf_39 kc ks loc (.long y :: .long x :: st) h = wps rm K Q c_M_squareOf_40 kc ks loc (.long (x * y) :: st) h := rfl
theorem s_M_squareOf_40 {x y : Int64} : wps rm K Q c_M_squareOf_40 kc ks loc (.long y :: .long x :: st) h = wps rm K Q c_M_squareOf_41 kc ks loc (.long (x + y) :: st) h := rfl
theorem s_M_squareOf_41 {x : Int64} : wps rm K Q c_M_squareOf_41 kc ks loc ([.long x]) h = (kc = rm.cells ∧ Q (some (.long x)) h) := rfl
def T_M_squareOf : List (Nat × List eg_I) := []
end
theorem q_M_squareOf : (T_M_squareOf.all fun q => eg_seq m_M_squareOf q.1 q.2) = true := by decide +kernel
theorem b_M_squareOf {as : List Value} {h : List eg_E} {Q : Option Value → List eg_E → Prop} (hf : (eg_fl as).length ≤ 1) (hw : wps (eg_rm m_M_squareOf) (eg_run (eg_rm m_M_squareOf) (eg_R m_M_squareOf Q (h.length + 0)) Q T_M_squareOf 2) Q c_M_squareOf_0 0 0 (eg_entry 1 as) [] h) : eg_Runs n_M_squareOf as h Q := eg_begin (d := m_M_squareOf) rfl (by decide) (by decide +kernel) q_M_squareOf hf hw
/-! ===== M_fitPlane ===== -/
def c_M_fitPlane_455 : List eg_I := .inl (455, 1, .lreturn, 0, 0) :: []
def c_M_fitPlane_452 : List eg_I := .inl (452, 3, .sipush (6), 214, 0) :: c_M_fitPlane_455
def c_M_fitPlane_449 : List eg_I := .inr (449, 0, 200, n_M_lowest, 6, 12, 0, 0) :: c_M_fitPlane_452
def c_M_fitPlane_448 : List eg_I := .inl (448, 1, .iconst (1), 0, 0) :: c_M_fitPlane_449
def c_M_fitPlane_447 : List eg_I := .inl (447, 1, .imul, 0, 0) :: c_M_fitPlane_448
def c_M_fitPlane_446 : List eg_I := .inl (446, 1, .iload 1, 0, 0) :: c_M_fitPlane_447
def c_M_fitPlane_445 : List eg_I := .inl (445, 1, .iconst (3), 0, 0) :: c_M_fitPlane_446
def c_M_fitPlane_442 : List eg_I := .inl (442, 3, .getfield 48, 12, 12) :: c_M_fitPlane_445
def c_M_fitPlane_441 : List eg_I := .inl (441, 1, .aload 0, 0, 0) :: c_M_fitPlane_442
def c_M_fitPlane_440 : List eg_I := .inl (440, 1, .laload, 0, 0) :: c_M_fitPlane_441
def c_M_fitPlane_439 : List eg_I := .inl (439, 1, .iconst (2), 0, 0) :: c_M_fitPlane_440
def c_M_fitPlane_436 : List eg_I := .inl (436, 3, .getfield 88, 12, 33) :: c_M_fitPlane_439
def c_M_fitPlane_435 : List eg_I := .inl (435, 1, .aload 0, 0, 0) :: c_M_fitPlane_436
def c_M_fitPlane_434 : List eg_I := .inl (434, 1, .laload, 0, 0) :: c_M_fitPlane_435
def c_M_fitPlane_433 : List eg_I := .inl (433, 1, .iconst (1), 0, 0) :: c_M_fitPlane_434
def c_M_fitPlane_430 : List eg_I := .inl (430, 3, .getfield 88, 12, 33) :: c_M_fitPlane_433
def c_M_fitPlane_429 : List eg_I := .inl (429, 1, .aload 0, 0, 0) :: c_M_fitPlane_430
def c_M_fitPlane_428 : List eg_I := .inl (428, 1, .laload, 0, 0) :: c_M_fitPlane_429
def c_M_fitPlane_427 : List eg_I := .inl (427, 1, .iconst (0), 0, 0) :: c_M_fitPlane_428
def c_M_fitPlane_424 : List eg_I := .inl (424, 3, .getfield 88, 12, 33) :: c_M_fitPlane_427
def c_M_fitPlane_423 : List eg_I := .inl (423, 1, .aload 0, 0, 0) :: c_M_fitPlane_424
def c_M_fitPlane_420 : List eg_I := .inr (420, 1, 196, n_M_keepMiss, 3, 12, 0, 0) :: c_M_fitPlane_423
def c_M_fitPlane_418 : List eg_I := .inl (418, 2, .lload 6, 0, 0) :: c_M_fitPlane_420
def c_M_fitPlane_416 : List eg_I := .inl (416, 2, .lload 4, 0, 0) :: c_M_fitPlane_418
def c_M_fitPlane_415 : List eg_I := .inl (415, 1, .iload 1, 0, 0) :: c_M_fitPlane_416
def c_M_fitPlane_414 : List eg_I := .inl (414, 1, .aload 0, 0, 0) :: c_M_fitPlane_415
def c_M_fitPlane_413 : List eg_I := .inl (413, 1, .iastore, 0, 0) :: c_M_fitPlane_414
def c_M_fitPlane_410 : List eg_I := .inl (410, 3, .getfield 176, 12, 32) :: c_M_fitPlane_413
def c_M_fitPlane_409 : List eg_I := .inl (409, 1, .aload 0, 0, 0) :: c_M_fitPlane_410
def c_M_fitPlane_408 : List eg_I := .inl (408, 1, .iadd, 0, 0) :: c_M_fitPlane_409
def c_M_fitPlane_407 : List eg_I := .inl (407, 1, .iconst (5), 0, 0) :: c_M_fitPlane_408
def c_M_fitPlane_406 : List eg_I := .inl (406, 1, .imul, 0, 0) :: c_M_fitPlane_407
def c_M_fitPlane_405 : List eg_I := .inl (405, 1, .iload 1, 0, 0) :: c_M_fitPlane_406
def c_M_fitPlane_403 : List eg_I := .inl (403, 2, .iconst (6), 0, 0) :: c_M_fitPlane_405
def c_M_fitPlane_400 : List eg_I := .inl (400, 3, .getfield 38, 12, 9) :: c_M_fitPlane_403
def c_M_fitPlane_399 : List eg_I := .inl (399, 1, .aload 0, 0, 0) :: c_M_fitPlane_400
def c_M_fitPlane_398 : List eg_I := .inl (398, 1, .iastore, 0, 0) :: c_M_fitPlane_399
def c_M_fitPlane_395 : List eg_I := .inl (395, 3, .getfield 172, 12, 31) :: c_M_fitPlane_398
def c_M_fitPlane_394 : List eg_I := .inl (394, 1, .aload 0, 0, 0) :: c_M_fitPlane_395
def c_M_fitPlane_393 : List eg_I := .inl (393, 1, .iadd, 0, 0) :: c_M_fitPlane_394
def c_M_fitPlane_392 : List eg_I := .inl (392, 1, .iconst (4), 0, 0) :: c_M_fitPlane_393
def c_M_fitPlane_391 : List eg_I := .inl (391, 1, .imul, 0, 0) :: c_M_fitPlane_392
def c_M_fitPlane_390 : List eg_I := .inl (390, 1, .iload 1, 0, 0) :: c_M_fitPlane_391
def c_M_fitPlane_388 : List eg_I := .inl (388, 2, .iconst (6), 0, 0) :: c_M_fitPlane_390
def c_M_fitPlane_385 : List eg_I := .inl (385, 3, .getfield 38, 12, 9) :: c_M_fitPlane_388
def c_M_fitPlane_384 : List eg_I := .inl (384, 1, .aload 0, 0, 0) :: c_M_fitPlane_385
def c_M_fitPlane_383 : List eg_I := .inl (383, 1, .iastore, 0, 0) :: c_M_fitPlane_384
def c_M_fitPlane_381 : List eg_I := .inl (381, 2, .iload 11, 0, 0) :: c_M_fitPlane_383
def c_M_fitPlane_380 : List eg_I := .inl (380, 1, .iadd, 0, 0) :: c_M_fitPlane_381
def c_M_fitPlane_379 : List eg_I := .inl (379, 1, .iconst (3), 0, 0) :: c_M_fitPlane_380
def c_M_fitPlane_378 : List eg_I := .inl (378, 1, .imul, 0, 0) :: c_M_fitPlane_379
def c_M_fitPlane_377 : List eg_I := .inl (377, 1, .iload 1, 0, 0) :: c_M_fitPlane_378
def c_M_fitPlane_375 : List eg_I := .inl (375, 2, .iconst (6), 0, 0) :: c_M_fitPlane_377
def c_M_fitPlane_372 : List eg_I := .inl (372, 3, .getfield 38, 12, 9) :: c_M_fitPlane_375
def c_M_fitPlane_371 : List eg_I := .inl (371, 1, .aload 0, 0, 0) :: c_M_fitPlane_372
def c_M_fitPlane_370 : List eg_I := .inl (370, 1, .iastore, 0, 0) :: c_M_fitPlane_371
def c_M_fitPlane_368 : List eg_I := .inl (368, 2, .iload 10, 0, 0) :: c_M_fitPlane_370
def c_M_fitPlane_367 : List eg_I := .inl (367, 1, .iadd, 0, 0) :: c_M_fitPlane_368
def c_M_fitPlane_366 : List eg_I := .inl (366, 1, .iconst (2), 0, 0) :: c_M_fitPlane_367
def c_M_fitPlane_365 : List eg_I := .inl (365, 1, .imul, 0, 0) :: c_M_fitPlane_366
def c_M_fitPlane_364 : List eg_I := .inl (364, 1, .iload 1, 0, 0) :: c_M_fitPlane_365
def c_M_fitPlane_362 : List eg_I := .inl (362, 2, .iconst (6), 0, 0) :: c_M_fitPlane_364
def c_M_fitPlane_359 : List eg_I := .inl (359, 3, .getfield 38, 12, 9) :: c_M_fitPlane_362
def c_M_fitPlane_358 : List eg_I := .inl (358, 1, .aload 0, 0, 0) :: c_M_fitPlane_359
def c_M_fitPlane_357 : List eg_I := .inl (357, 1, .iastore, 0, 0) :: c_M_fitPlane_358
def c_M_fitPlane_355 : List eg_I := .inl (355, 2, .iload 9, 0, 0) :: c_M_fitPlane_357
def c_M_fitPlane_354 : List eg_I := .inl (354, 1, .iadd, 0, 0) :: c_M_fitPlane_355
def c_M_fitPlane_353 : List eg_I := .inl (353, 1, .iconst (1), 0, 0) :: c_M_fitPlane_354
def c_M_fitPlane_352 : List eg_I := .inl (352, 1, .imul, 0, 0) :: c_M_fitPlane_353
def c_M_fitPlane_351 : List eg_I := .inl (351, 1, .iload 1, 0, 0) :: c_M_fitPlane_352
def c_M_fitPlane_349 : List eg_I := .inl (349, 2, .iconst (6), 0, 0) :: c_M_fitPlane_351
def c_M_fitPlane_346 : List eg_I := .inl (346, 3, .getfield 38, 12, 9) :: c_M_fitPlane_349
def c_M_fitPlane_345 : List eg_I := .inl (345, 1, .aload 0, 0, 0) :: c_M_fitPlane_346
def c_M_fitPlane_344 : List eg_I := .inl (344, 1, .iastore, 0, 0) :: c_M_fitPlane_345
def c_M_fitPlane_342 : List eg_I := .inl (342, 2, .iload 8, 0, 0) :: c_M_fitPlane_344
def c_M_fitPlane_341 : List eg_I := .inl (341, 1, .imul, 0, 0) :: c_M_fitPlane_342
def c_M_fitPlane_340 : List eg_I := .inl (340, 1, .iload 1, 0, 0) :: c_M_fitPlane_341
def c_M_fitPlane_338 : List eg_I := .inl (338, 2, .iconst (6), 0, 0) :: c_M_fitPlane_340
def c_M_fitPlane_335 : List eg_I := .inl (335, 3, .getfield 38, 12, 9) :: c_M_fitPlane_338
def c_M_fitPlane_334 : List eg_I := .inl (334, 1, .aload 0, 0, 0) :: c_M_fitPlane_335
def c_M_fitPlane_333 : List eg_I := .inl (333, 1, .iastore, 0, 0) :: c_M_fitPlane_334
def c_M_fitPlane_331 : List eg_I := .inl (331, 2, .iconst (6), 0, 0) :: c_M_fitPlane_333
def c_M_fitPlane_330 : List eg_I := .inl (330, 1, .iload 1, 0, 0) :: c_M_fitPlane_331
def c_M_fitPlane_327 : List eg_I := .inl (327, 3, .getfield 35, 12, 8) :: c_M_fitPlane_330
def c_M_fitPlane_326 : List eg_I := .inl (326, 1, .aload 0, 0, 0) :: c_M_fitPlane_327
def c_M_fitPlane_325 : List eg_I := .inl (325, 1, .iastore, 0, 0) :: c_M_fitPlane_326
def c_M_fitPlane_324 : List eg_I := .inl (324, 1, .iconst (3), 0, 0) :: c_M_fitPlane_325
def c_M_fitPlane_323 : List eg_I := .inl (323, 1, .iload 1, 0, 0) :: c_M_fitPlane_324
def c_M_fitPlane_320 : List eg_I := .inl (320, 3, .getfield 32, 12, 7) :: c_M_fitPlane_323
def c_M_fitPlane_319 : List eg_I := .inl (319, 1, .aload 0, 0, 0) :: c_M_fitPlane_320
def c_M_fitPlane_316 : List eg_I := .inr (316, 1, 188, n_M_crosses, 5, 12, 0, 0) :: c_M_fitPlane_319
def c_M_fitPlane_315 : List eg_I := .inl (315, 1, .laload, 0, 0) :: c_M_fitPlane_316
def c_M_fitPlane_314 : List eg_I := .inl (314, 1, .iconst (2), 0, 0) :: c_M_fitPlane_315
def c_M_fitPlane_311 : List eg_I := .inl (311, 3, .getfield 88, 12, 33) :: c_M_fitPlane_314
def c_M_fitPlane_310 : List eg_I := .inl (310, 1, .aload 0, 0, 0) :: c_M_fitPlane_311
def c_M_fitPlane_309 : List eg_I := .inl (309, 1, .laload, 0, 0) :: c_M_fitPlane_310
def c_M_fitPlane_308 : List eg_I := .inl (308, 1, .iconst (1), 0, 0) :: c_M_fitPlane_309
def c_M_fitPlane_305 : List eg_I := .inl (305, 3, .getfield 88, 12, 33) :: c_M_fitPlane_308
def c_M_fitPlane_304 : List eg_I := .inl (304, 1, .aload 0, 0, 0) :: c_M_fitPlane_305
def c_M_fitPlane_303 : List eg_I := .inl (303, 1, .laload, 0, 0) :: c_M_fitPlane_304
def c_M_fitPlane_302 : List eg_I := .inl (302, 1, .iconst (0), 0, 0) :: c_M_fitPlane_303
def c_M_fitPlane_299 : List eg_I := .inl (299, 3, .getfield 88, 12, 33) :: c_M_fitPlane_302
def c_M_fitPlane_298 : List eg_I := .inl (298, 1, .aload 0, 0, 0) :: c_M_fitPlane_299
def c_M_fitPlane_296 : List eg_I := .inl (296, 2, .iload 8, 0, 0) :: c_M_fitPlane_298
def c_M_fitPlane_295 : List eg_I := .inl (295, 1, .iload 2, 0, 0) :: c_M_fitPlane_296
def c_M_fitPlane_294 : List eg_I := .inl (294, 1, .aload 0, 0, 0) :: c_M_fitPlane_295
def c_M_fitPlane_291 : List eg_I := .inr (291, 1, 206, n_M_tellNormal, 5, 12, 0, 0) :: c_M_fitPlane_294
def c_M_fitPlane_289 : List eg_I := .inl (289, 2, .iload 11, 0, 0) :: c_M_fitPlane_291
def c_M_fitPlane_287 : List eg_I := .inl (287, 2, .iload 10, 0, 0) :: c_M_fitPlane_289
def c_M_fitPlane_285 : List eg_I := .inl (285, 2, .iload 9, 0, 0) :: c_M_fitPlane_287
def c_M_fitPlane_283 : List eg_I := .inl (283, 2, .iload 8, 0, 0) :: c_M_fitPlane_285
def c_M_fitPlane_282 : List eg_I := .inl (282, 1, .iload 2, 0, 0) :: c_M_fitPlane_283
def c_M_fitPlane_281 : List eg_I := .inl (281, 1, .aload 0, 0, 0) :: c_M_fitPlane_282
def c_M_fitPlane_280 : List eg_I := .inl (280, 1, .lreturn, 0, 0) :: []
def c_M_fitPlane_277 : List eg_I := .inr (277, 1, 112, n_M_finding, 1, 12, 0, 0) :: c_M_fitPlane_280
def c_M_fitPlane_274 : List eg_I := .inl (274, 3, .sipush (-1000000000000000006), 138, 0) :: c_M_fitPlane_277
def c_M_fitPlane_273 : List eg_I := .inl (273, 1, .aload 0, 0, 0) :: c_M_fitPlane_274
def c_M_fitPlane_270 : List eg_I := .inl (270, 3, .ifCond .ne (11), 281, 0) :: c_M_fitPlane_273
def c_M_fitPlane_269 : List eg_I := .inl (269, 1, .iload 3, 0, 0) :: c_M_fitPlane_270
def c_M_fitPlane_266 : List eg_I := .inl (266, 3, .goto (-235), 31, 0) :: []
def c_M_fitPlane_263 : List eg_I := .inl (263, 3, .iinc 13 (1), 0, 0) :: c_M_fitPlane_266
def c_M_fitPlane_260 : List eg_I := .inl (260, 3, .goto (-216), 44, 0) :: []
def c_M_fitPlane_257 : List eg_I := .inl (257, 3, .iinc 14 (1), 0, 0) :: c_M_fitPlane_260
def c_M_fitPlane_254 : List eg_I := .inl (254, 3, .goto (-189), 65, 0) :: []
def c_M_fitPlane_251 : List eg_I := .inl (251, 3, .iinc 15 (1), 0, 0) :: c_M_fitPlane_254
def c_M_fitPlane_248 : List eg_I := .inl (248, 3, .goto (-146), 102, 0) :: []
def c_M_fitPlane_245 : List eg_I := .inl (245, 3, .iinc 16 (1), 0, 0) :: c_M_fitPlane_248
def c_M_fitPlane_243 : List eg_I := .inl (243, 2, .istore 11, 0, 0) :: c_M_fitPlane_245
def c_M_fitPlane_241 : List eg_I := .inl (241, 2, .iload 16, 0, 0) :: c_M_fitPlane_243
def c_M_fitPlane_239 : List eg_I := .inl (239, 2, .istore 10, 0, 0) :: c_M_fitPlane_241
def c_M_fitPlane_237 : List eg_I := .inl (237, 2, .iload 15, 0, 0) :: c_M_fitPlane_239
def c_M_fitPlane_235 : List eg_I := .inl (235, 2, .istore 9, 0, 0) :: c_M_fitPlane_237
def c_M_fitPlane_233 : List eg_I := .inl (233, 2, .iload 14, 0, 0) :: c_M_fitPlane_235
def c_M_fitPlane_231 : List eg_I := .inl (231, 2, .istore 8, 0, 0) :: c_M_fitPlane_233
def c_M_fitPlane_229 : List eg_I := .inl (229, 2, .iload 13, 0, 0) :: c_M_fitPlane_231
def c_M_fitPlane_227 : List eg_I := .inl (227, 2, .lstore 6, 0, 0) :: c_M_fitPlane_229
def c_M_fitPlane_225 : List eg_I := .inl (225, 2, .lload 17, 0, 0) :: c_M_fitPlane_227
def c_M_fitPlane_223 : List eg_I := .inl (223, 2, .lstore 4, 0, 0) :: c_M_fitPlane_225
def c_M_fitPlane_221 : List eg_I := .inl (221, 2, .lload 19, 0, 0) :: c_M_fitPlane_223
def c_M_fitPlane_220 : List eg_I := .inl (220, 1, .istore 3, 0, 0) :: c_M_fitPlane_221
def c_M_fitPlane_219 : List eg_I := .inl (219, 1, .iconst (1), 0, 0) :: c_M_fitPlane_220
def c_M_fitPlane_216 : List eg_I := .inl (216, 3, .ifCond .eq (29), 245, 0) :: c_M_fitPlane_219
def c_M_fitPlane_213 : List eg_I := .inr (213, 0, 192, n_M_isLess, 4, 12, 0, 0) :: c_M_fitPlane_216
def c_M_fitPlane_211 : List eg_I := .inl (211, 2, .lload 6, 0, 0) :: c_M_fitPlane_213
def c_M_fitPlane_209 : List eg_I := .inl (209, 2, .lload 4, 0, 0) :: c_M_fitPlane_211
def c_M_fitPlane_207 : List eg_I := .inl (207, 2, .lload 17, 0, 0) :: c_M_fitPlane_209
def c_M_fitPlane_205 : List eg_I := .inl (205, 2, .lload 19, 0, 0) :: c_M_fitPlane_207
def c_M_fitPlane_202 : List eg_I := .inl (202, 3, .ifCond .eq (17), 219, 0) :: c_M_fitPlane_205
def c_M_fitPlane_201 : List eg_I := .inl (201, 1, .iload 3, 0, 0) :: c_M_fitPlane_202
def c_M_fitPlane_199 : List eg_I := .inl (199, 2, .lstore 19, 0, 0) :: c_M_fitPlane_201
def c_M_fitPlane_198 : List eg_I := .inl (198, 1, .lmul, 0, 0) :: c_M_fitPlane_199
def c_M_fitPlane_197 : List eg_I := .inl (197, 1, .lsub, 0, 0) :: c_M_fitPlane_198
def c_M_fitPlane_194 : List eg_I := .inl (194, 3, .getfield 182, 12, 30) :: c_M_fitPlane_197
def c_M_fitPlane_193 : List eg_I := .inl (193, 1, .aload 0, 0, 0) :: c_M_fitPlane_194
def c_M_fitPlane_190 : List eg_I := .inl (190, 3, .getfield 179, 12, 29) :: c_M_fitPlane_193
def c_M_fitPlane_189 : List eg_I := .inl (189, 1, .aload 0, 0, 0) :: c_M_fitPlane_190
def c_M_fitPlane_188 : List eg_I := .inl (188, 1, .lsub, 0, 0) :: c_M_fitPlane_189
def c_M_fitPlane_185 : List eg_I := .inl (185, 3, .getfield 182, 12, 30) :: c_M_fitPlane_188
def c_M_fitPlane_184 : List eg_I := .inl (184, 1, .aload 0, 0, 0) :: c_M_fitPlane_185
def c_M_fitPlane_181 : List eg_I := .inl (181, 3, .getfield 179, 12, 29) :: c_M_fitPlane_184
def c_M_fitPlane_180 : List eg_I := .inl (180, 1, .aload 0, 0, 0) :: c_M_fitPlane_181
def c_M_fitPlane_177 : List eg_I := .inr (177, 1, 188, n_M_crosses, 5, 12, 0, 0) :: c_M_fitPlane_180
def c_M_fitPlane_176 : List eg_I := .inl (176, 1, .laload, 0, 0) :: c_M_fitPlane_177
def c_M_fitPlane_175 : List eg_I := .inl (175, 1, .iconst (2), 0, 0) :: c_M_fitPlane_176
def c_M_fitPlane_172 : List eg_I := .inl (172, 3, .getfield 88, 12, 33) :: c_M_fitPlane_175
def c_M_fitPlane_171 : List eg_I := .inl (171, 1, .aload 0, 0, 0) :: c_M_fitPlane_172
def c_M_fitPlane_170 : List eg_I := .inl (170, 1, .laload, 0, 0) :: c_M_fitPlane_171
def c_M_fitPlane_169 : List eg_I := .inl (169, 1, .iconst (1), 0, 0) :: c_M_fitPlane_170
def c_M_fitPlane_166 : List eg_I := .inl (166, 3, .getfield 88, 12, 33) :: c_M_fitPlane_169
def c_M_fitPlane_165 : List eg_I := .inl (165, 1, .aload 0, 0, 0) :: c_M_fitPlane_166
def c_M_fitPlane_164 : List eg_I := .inl (164, 1, .laload, 0, 0) :: c_M_fitPlane_165
def c_M_fitPlane_163 : List eg_I := .inl (163, 1, .iconst (0), 0, 0) :: c_M_fitPlane_164
def c_M_fitPlane_160 : List eg_I := .inl (160, 3, .getfield 88, 12, 33) :: c_M_fitPlane_163
def c_M_fitPlane_159 : List eg_I := .inl (159, 1, .aload 0, 0, 0) :: c_M_fitPlane_160
def c_M_fitPlane_157 : List eg_I := .inl (157, 2, .iload 13, 0, 0) :: c_M_fitPlane_159
def c_M_fitPlane_156 : List eg_I := .inl (156, 1, .iload 2, 0, 0) :: c_M_fitPlane_157
def c_M_fitPlane_155 : List eg_I := .inl (155, 1, .aload 0, 0, 0) :: c_M_fitPlane_156
def c_M_fitPlane_152 : List eg_I := .inl (152, 3, .ifCond .le (93), 245, 0) :: c_M_fitPlane_155
def c_M_fitPlane_151 : List eg_I := .inl (151, 1, .lcmp, 0, 0) :: c_M_fitPlane_152
def c_M_fitPlane_150 : List eg_I := .inl (150, 1, .sipush (0), 0, 0) :: c_M_fitPlane_151
def c_M_fitPlane_148 : List eg_I := .inl (148, 2, .lload 17, 0, 0) :: c_M_fitPlane_150
def c_M_fitPlane_145 : List eg_I := .inl (145, 3, .ifCond .eq (100), 245, 0) :: c_M_fitPlane_148
def c_M_fitPlane_142 : List eg_I := .inr (142, 1, 185, n_M_isHere, 2, 12, 0, 0) :: c_M_fitPlane_145
def c_M_fitPlane_140 : List eg_I := .inl (140, 2, .iload 16, 0, 0) :: c_M_fitPlane_142
def c_M_fitPlane_139 : List eg_I := .inl (139, 1, .iload 2, 0, 0) :: c_M_fitPlane_140
def c_M_fitPlane_138 : List eg_I := .inl (138, 1, .aload 0, 0, 0) :: c_M_fitPlane_139
def c_M_fitPlane_136 : List eg_I := .inl (136, 2, .lstore 17, 0, 0) :: c_M_fitPlane_138
def c_M_fitPlane_133 : List eg_I := .inr (133, 1, 210, n_M_squareOf, 0, 12, 0, 0) :: c_M_fitPlane_136
def c_M_fitPlane_132 : List eg_I := .inl (132, 1, .aload 0, 0, 0) :: c_M_fitPlane_133
def c_M_fitPlane_129 : List eg_I := .inr (129, 1, 206, n_M_tellNormal, 5, 12, 0, 0) :: c_M_fitPlane_132
def c_M_fitPlane_127 : List eg_I := .inl (127, 2, .iload 16, 0, 0) :: c_M_fitPlane_129
def c_M_fitPlane_125 : List eg_I := .inl (125, 2, .iload 15, 0, 0) :: c_M_fitPlane_127
def c_M_fitPlane_123 : List eg_I := .inl (123, 2, .iload 14, 0, 0) :: c_M_fitPlane_125
def c_M_fitPlane_121 : List eg_I := .inl (121, 2, .iload 13, 0, 0) :: c_M_fitPlane_123
def c_M_fitPlane_120 : List eg_I := .inl (120, 1, .iload 2, 0, 0) :: c_M_fitPlane_121
def c_M_fitPlane_119 : List eg_I := .inl (119, 1, .aload 0, 0, 0) :: c_M_fitPlane_120
def c_M_fitPlane_116 : List eg_I := .inl (116, 3, .ifCond .eq (135), 251, 0) :: c_M_fitPlane_119
def c_M_fitPlane_113 : List eg_I := .inr (113, 1, 185, n_M_isHere, 2, 12, 0, 0) :: c_M_fitPlane_116
def c_M_fitPlane_111 : List eg_I := .inl (111, 2, .iload 15, 0, 0) :: c_M_fitPlane_113
def c_M_fitPlane_110 : List eg_I := .inl (110, 1, .iload 2, 0, 0) :: c_M_fitPlane_111
def c_M_fitPlane_109 : List eg_I := .inl (109, 1, .aload 0, 0, 0) :: c_M_fitPlane_110
def c_M_fitPlane_106 : List eg_I := .inl (106, 3, .if_icmp .ge (145), 251, 0) :: c_M_fitPlane_109
def c_M_fitPlane_104 : List eg_I := .inl (104, 2, .iload 12, 0, 0) :: c_M_fitPlane_106
def c_M_fitPlane_102 : List eg_I := .inl (102, 2, .iload 16, 0, 0) :: c_M_fitPlane_104
def c_M_fitPlane_100 : List eg_I := .inl (100, 2, .istore 16, 0, 0) :: [.inl (102, 0, .nop, 0, 0)]
def c_M_fitPlane_99 : List eg_I := .inl (99, 1, .iadd, 0, 0) :: c_M_fitPlane_100
def c_M_fitPlane_98 : List eg_I := .inl (98, 1, .iconst (1), 0, 0) :: c_M_fitPlane_99
def c_M_fitPlane_96 : List eg_I := .inl (96, 2, .iload 15, 0, 0) :: c_M_fitPlane_98
def c_M_fitPlane_93 : List eg_I := .inl (93, 3, .goto (7), 100, 0) :: []
def c_M_fitPlane_92 : List eg_I := .inl (92, 1, .iadd, 0, 0) :: c_M_fitPlane_93
def c_M_fitPlane_91 : List eg_I := .inl (91, 1, .iconst (1), 0, 0) :: c_M_fitPlane_92
def c_M_fitPlane_89 : List eg_I := .inl (89, 2, .iload 14, 0, 0) :: c_M_fitPlane_91
def c_M_fitPlane_86 : List eg_I := .inl (86, 3, .if_icmp .ne (10), 96, 0) :: c_M_fitPlane_89
def c_M_fitPlane_84 : List eg_I := .inl (84, 2, .iload 13, 0, 0) :: c_M_fitPlane_86
def c_M_fitPlane_82 : List eg_I := .inl (82, 2, .iload 15, 0, 0) :: c_M_fitPlane_84
def c_M_fitPlane_79 : List eg_I := .inl (79, 3, .ifCond .eq (178), 257, 0) :: c_M_fitPlane_82
def c_M_fitPlane_76 : List eg_I := .inr (76, 1, 185, n_M_isHere, 2, 12, 0, 0) :: c_M_fitPlane_79
def c_M_fitPlane_74 : List eg_I := .inl (74, 2, .iload 14, 0, 0) :: c_M_fitPlane_76
def c_M_fitPlane_73 : List eg_I := .inl (73, 1, .iload 2, 0, 0) :: c_M_fitPlane_74
def c_M_fitPlane_72 : List eg_I := .inl (72, 1, .aload 0, 0, 0) :: c_M_fitPlane_73
def c_M_fitPlane_69 : List eg_I := .inl (69, 3, .if_icmp .ge (188), 257, 0) :: c_M_fitPlane_72
def c_M_fitPlane_67 : List eg_I := .inl (67, 2, .iload 12, 0, 0) :: c_M_fitPlane_69
def c_M_fitPlane_65 : List eg_I := .inl (65, 2, .iload 15, 0, 0) :: c_M_fitPlane_67
def c_M_fitPlane_63 : List eg_I := .inl (63, 2, .istore 15, 0, 0) :: [.inl (65, 0, .nop, 0, 0)]
def c_M_fitPlane_61 : List eg_I := .inl (61, 2, .iload 13, 0, 0) :: c_M_fitPlane_63
def c_M_fitPlane_58 : List eg_I := .inl (58, 3, .ifCond .eq (205), 263, 0) :: c_M_fitPlane_61
def c_M_fitPlane_55 : List eg_I := .inr (55, 1, 185, n_M_isHere, 2, 12, 0, 0) :: c_M_fitPlane_58
def c_M_fitPlane_53 : List eg_I := .inl (53, 2, .iload 13, 0, 0) :: c_M_fitPlane_55
def c_M_fitPlane_52 : List eg_I := .inl (52, 1, .iload 2, 0, 0) :: c_M_fitPlane_53
def c_M_fitPlane_51 : List eg_I := .inl (51, 1, .aload 0, 0, 0) :: c_M_fitPlane_52
def c_M_fitPlane_48 : List eg_I := .inl (48, 3, .if_icmp .ge (215), 263, 0) :: c_M_fitPlane_51
def c_M_fitPlane_46 : List eg_I := .inl (46, 2, .iload 12, 0, 0) :: c_M_fitPlane_48
def c_M_fitPlane_44 : List eg_I := .inl (44, 2, .iload 14, 0, 0) :: c_M_fitPlane_46
def c_M_fitPlane_42 : List eg_I := .inl (42, 2, .istore 14, 0, 0) :: [.inl (44, 0, .nop, 0, 0)]
def c_M_fitPlane_41 : List eg_I := .inl (41, 1, .iadd, 0, 0) :: c_M_fitPlane_42
def c_M_fitPlane_40 : List eg_I := .inl (40, 1, .iconst (1), 0, 0) :: c_M_fitPlane_41
def c_M_fitPlane_38 : List eg_I := .inl (38, 2, .iload 13, 0, 0) :: c_M_fitPlane_40
def c_M_fitPlane_35 : List eg_I := .inl (35, 3, .if_icmp .ge (234), 269, 0) :: c_M_fitPlane_38
def c_M_fitPlane_33 : List eg_I := .inl (33, 2, .iload 12, 0, 0) :: c_M_fitPlane_35
def c_M_fitPlane_31 : List eg_I := .inl (31, 2, .iload 13, 0, 0) :: c_M_fitPlane_33
def c_M_fitPlane_29 : List eg_I := .inl (29, 2, .istore 13, 0, 0) :: [.inl (31, 0, .nop, 0, 0)]
def c_M_fitPlane_28 : List eg_I := .inl (28, 1, .iconst (0), 0, 0) :: c_M_fitPlane_29
def c_M_fitPlane_26 : List eg_I := .inl (26, 2, .istore 12, 0, 0) :: c_M_fitPlane_28
def c_M_fitPlane_25 : List eg_I := .inl (25, 1, .iaload, 0, 0) :: c_M_fitPlane_26
def c_M_fitPlane_24 : List eg_I := .inl (24, 1, .iload 2, 0, 0) :: c_M_fitPlane_25
def c_M_fitPlane_21 : List eg_I := .inl (21, 3, .getfield 9, 12, 0) :: c_M_fitPlane_24
def c_M_fitPlane_20 : List eg_I := .inl (20, 1, .aload 0, 0, 0) :: c_M_fitPlane_21
def c_M_fitPlane_18 : List eg_I := .inl (18, 2, .istore 11, 0, 0) :: c_M_fitPlane_20
def c_M_fitPlane_17 : List eg_I := .inl (17, 1, .iconst (0), 0, 0) :: c_M_fitPlane_18
def c_M_fitPlane_15 : List eg_I := .inl (15, 2, .istore 10, 0, 0) :: c_M_fitPlane_17
def c_M_fitPlane_14 : List eg_I := .inl (14, 1, .iconst (0), 0, 0) :: c_M_fitPlane_15
def c_M_fitPlane_12 : List eg_I := .inl (12, 2, .istore 9, 0, 0) :: c_M_fitPlane_14
def c_M_fitPlane_11 : List eg_I := .inl (11, 1, .iconst (0), 0, 0) :: c_M_fitPlane_12
def c_M_fitPlane_9 : List eg_I := .inl (9, 2, .istore 8, 0, 0) :: c_M_fitPlane_11
def c_M_fitPlane_8 : List eg_I := .inl (8, 1, .iconst (0), 0, 0) :: c_M_fitPlane_9
def c_M_fitPlane_6 : List eg_I := .inl (6, 2, .lstore 6, 0, 0) :: c_M_fitPlane_8
def c_M_fitPlane_5 : List eg_I := .inl (5, 1, .sipush (1), 0, 0) :: c_M_fitPlane_6
def c_M_fitPlane_3 : List eg_I := .inl (3, 2, .lstore 4, 0, 0) :: c_M_fitPlane_5
def c_M_fitPlane_2 : List eg_I := .inl (2, 1, .sipush (0), 0, 0) :: c_M_fitPlane_3
def c_M_fitPlane_1 : List eg_I := .inl (1, 1, .istore 3, 0, 0) :: c_M_fitPlane_2
def c_M_fitPlane_0 : List eg_I := .inl (0, 1, .iconst (0), 0, 0) :: c_M_fitPlane_1
section
variable {rm : Room} {K : Nat → Nat → Nat → eg_Lo → List Value → List eg_E → Prop} {Q : Option Value → List eg_E → Prop} {kc ks : Nat} {loc : eg_Lo} {st : List Value} {h : List eg_E}
theorem s_M_fitPlane_0  : wps rm K Q c_M_fitPlane_0 kc ks loc (st) h = wps rm K Q c_M_fitPlane_1 kc ks loc (.int (0) :: st) h := rfl
theorem s_M_fitPlane_1 {x : Int32} : wps rm K Q c_M_fitPlane_1 kc ks loc (.int x :: st) h = wps rm K Q c_M_fitPlane_2 kc ks (eg_set1 loc 3 (.int x)) (st) h := rfl
theorem s_M_fitPlane_2  : wps rm K Q c_M_fitPlane_2 kc ks loc (st) h = wps rm K Q c_M_fitPlane_3 kc ks loc (.long (0) :: st) h := rfl
theorem s_M_fitPlane_3 {x : Int64} : wps rm K Q c_M_fitPlane_3 kc ks loc (.long x :: st) h = wps rm K Q c_M_fitPlane_5 kc ks (eg_set2 loc 4 (.long x)) (st) h := rfl
theorem s_M_fitPlane_5  : wps rm K Q c_M_fitPlane_5 kc ks loc (st) h = wps rm K Q c_M_fitPlane_6 kc ks loc (.long (1) :: st) h := rfl
theorem s_M_fitPlane_6 {x : Int64} : wps rm K Q c_M_fitPlane_6 kc ks loc (.long x :: st) h = wps rm K Q c_M_fitPlane_8 kc ks (eg_set2 loc 6 (.long x)) (st) h := rfl
theorem s_M_fitPlane_8  : wps rm K Q c_M_fitPlane_8 kc ks loc (st) h = wps rm K Q c_M_fitPlane_9 kc ks loc (.int (0) :: st) h := rfl
theorem s_M_fitPlane_9 {x : Int32} : wps rm K Q c_M_fitPlane_9 kc ks loc (.int x :: st) h = wps rm K Q c_M_fitPlane_11 kc ks (eg_set1 loc 8 (.int x)) (st) h := rfl
theorem s_M_fitPlane_11  : wps rm K Q c_M_fitPlane_11 kc ks loc (st) h = wps rm K Q c_M_fitPlane_12 kc ks loc (.int (0) :: st) h := rfl
theorem s_M_fitPlane_12 {x : Int32} : wps rm K Q c_M_fitPlane_12 kc ks loc (.int x :: st) h = wps rm K Q c_M_fitPlane_14 kc ks (eg_set1 loc 9 (.int x)) (st) h := rfl
theorem s_M_fitPlane_14  : wps rm K Q c_M_fitPlane_14 kc ks loc (st) h = wps rm K Q c_M_fitPlane_15 kc ks loc (.int (0) :: st) h := rfl
theorem s_M_fitPlane_15 {x : Int32} : wps rm K Q c_M_fitPlane_15 kc ks loc (.int x :: st) h = wps rm K Q c_M_fitPlane_17 kc ks (eg_set1 loc 10 (.int x)) (st) h := rfl
theorem s_M_fitPlane_17  : wps rm K Q c_M_fitPlane_17 kc ks loc (st) h = wps rm K Q c_M_fitPlane_18 kc ks loc (.int (0) :: st) h := rfl
theorem s_M_fitPlane_18 {x : Int32} : wps rm K Q c_M_fitPlane_18 kc ks loc (.int x :: st) h = wps rm K Q c_M_fitPlane_20 kc ks (eg_set1 loc 11 (.int x)) (st) h := rfl
theorem s_M_fitPlane_20 {x : Nat} {l : eg_Lo} : wps rm K Q c_M_fitPlane_20 kc ks (some (.ref x) :: l) (st) h = wps rm K Q c_M_fitPlane_21 kc ks (some (.ref x) :: l) (.ref x :: st) h := rfl
theorem s_M_fitPlane_21 {x : Nat} : wps rm K Q c_M_fitPlane_21 kc ks loc (.ref (x + 1) :: st) h = eg_gf h x 12 0 (fun v => wps rm K Q c_M_fitPlane_24 kc ks loc (v :: st) h) := rfl
theorem s_M_fitPlane_24 {x : Int32} {l0 l1 : Option Value} {l : eg_Lo} : wps rm K Q c_M_fitPlane_24 kc ks (l0 :: l1 :: some (.int x) :: l) (st) h = wps rm K Q c_M_fitPlane_25 kc ks (l0 :: l1 :: some (.int x) :: l) (.int x :: st) h := rfl
theorem s_M_fitPlane_25 {x : Nat} {i : Int32} : wps rm K Q c_M_fitPlane_25 kc ks loc (.int i :: .ref (x + 1) :: st) h = eg_ia h x i (fun v => wps rm K Q c_M_fitPlane_26 kc ks loc (.int v :: st) h) := rfl
theorem s_M_fitPlane_26 {x : Int32} : wps rm K Q c_M_fitPlane_26 kc ks loc (.int x :: st) h = wps rm K Q c_M_fitPlane_28 kc ks (eg_set1 loc 12 (.int x)) (st) h := rfl
theorem s_M_fitPlane_28  : wps rm K Q c_M_fitPlane_28 kc ks loc (st) h = wps rm K Q c_M_fitPlane_29 kc ks loc (.int (0) :: st) h := rfl
theorem s_M_fitPlane_29 {x : Int32} : wps rm K Q c_M_fitPlane_29 kc ks loc (.int x :: st) h = K 31 kc ks (eg_set1 loc 13 (.int x)) (st) h := rfl
theorem s_M_fitPlane_31 {x : Int32} {l0 l1 l2 l3 l4 l5 l6 l7 l8 l9 l10 l11 l12 : Option Value} {l : eg_Lo} : wps rm K Q c_M_fitPlane_31 kc ks (l0 :: l1 :: l2 :: l3 :: l4 :: l5 :: l6 :: l7 :: l8 :: l9 :: l10 :: l11 :: l12 :: some (.int x) :: l) (st) h = wps rm K Q c_M_fitPlane_33 kc ks (l0 :: l1 :: l2 :: l3 :: l4 :: l5 :: l6 :: l7 :: l8 :: l9 :: l10 :: l11 :: l12 :: some (.int x) :: l) (.int x :: st) h := rfl
theorem s_M_fitPlane_33 {x : Int32} {l0 l1 l2 l3 l4 l5 l6 l7 l8 l9 l10 l11 : Option Value} {l : eg_Lo} : wps rm K Q c_M_fitPlane_33 kc ks (l0 :: l1 :: l2 :: l3 :: l4 :: l5 :: l6 :: l7 :: l8 :: l9 :: l10 :: l11 :: some (.int x) :: l) (st) h = wps rm K Q c_M_fitPlane_35 kc ks (l0 :: l1 :: l2 :: l3 :: l4 :: l5 :: l6 :: l7 :: l8 :: l9 :: l10 :: l11 :: some (.int x) :: l) (.int x :: st) h := rfl
theorem s_M_fitPlane_35 {x y : Int32} : wps rm K Q c_M_fitPlane_35 kc ks loc (.int y :: .int x :: st) h = ((y ≤ x → K 269 kc ks loc st h) ∧ (¬ y ≤ x → wps rm K Q c_M_fitPlane_38 kc ks loc (st) h)) := rfl
theorem s_M_fitPlane_38 {x : Int32} {l0 l1 l2 l3 l4 l5 l6 l7 l8 l9 l10 l11 l12 : Option Value} {l : eg_Lo} : wps rm K Q c_M_fitPlane_38 kc ks (l0 :: l1 :: l2 :: l3 :: l4 :: l5 :: l6 :: l7 :: l8 :: l9 :: l10 :: l11 :: l12 :: some (.int x) :: l) (st) h = wps rm K Q c_M_fitPlane_40 kc ks (l0 :: l1 :: l2 :: l3 :: l4 :: l5 :: l6 :: l7 :: l8 :: l9 :: l10 :: l11 :: l12 :: some (.int x) :: l) (.int x :: st) h := rfl
theorem s_M_fitPlane_40  : wps rm K Q c_M_fitPlane_40 kc ks loc (st) h = wps rm K Q c_M_fitPlane_41 kc ks loc (.int (1) :: st) h := rfl
theorem s_M_fitPlane_41 {x y : Int32} : wps rm K Q c_M_fitPlane_41 kc ks loc (.int y :: .int x :: st) h = wps rm K Q c_M_fitPlane_42 kc ks loc (.int (x + y) :: st) h := rfl
theorem s_M_fitPlane_42 {x : Int32} : wps rm K Q c_M_fitPlane_42 kc ks loc (.int x :: st) h = K 44 kc ks (eg_set1 loc 14 (.int x)) (st) h := rfl
theorem s_M_fitPlane_44 {x : Int32} {l0 l1 l2 l3 l4 l5 l6 l7 l8 l9 l10 l11 l12 l13 : Option Value} {l : eg_Lo} : wps rm K Q c_M_fitPlane_44 kc ks (l0 :: l1 :: l2 :: l3 :: l4 :: l5 :: l6 :: l7 :: l8 :: l9 :: l10 :: l11 :: l12 :: l13 :: some (.int x) :: l) (st) h = wps rm K Q c_M_fitPlane_46 kc ks (l0 :: l1 :: l2 :: l3 :: l4 :: l5 :: l6 :: l7 :: l8 :: l9 :: l10 :: l11 :: l12 :: l13 :: some (.int x) :: l) (.int x :: st) h := rfl
theorem s_M_fitPlane_46 {x : Int32} {l0 l1 l2 l3 l4 l5 l6 l7 l8 l9 l10 l11 : Option Value} {l : eg_Lo} : wps rm K Q c_M_fitPlane_46 kc ks (l0 :: l1 :: l2 :: l3 :: l4 :: l5 :: l6 :: l7 :: l8 :: l9 :: l10 :: l11 :: some (.int x) :: l) (st) h = wps rm K Q c_M_fitPlane_48 kc ks (l0 :: l1 :: l2 :: l3 :: l4 :: l5 :: l6 :: l7 :: l8 :: l9 :: l10 :: l11 :: some (.int x) :: l) (.int x :: st) h := rfl
theorem s_M_fitPlane_48 {x y : Int32} : wps rm K Q c_M_fitPlane_48 kc ks loc (.int y :: .int x :: st) h = ((y ≤ x → K 263 kc ks loc st h) ∧ (¬ y ≤ x → wps rm K Q c_M_fitPlane_51 kc ks loc (st) h)) := rfl
theorem s_M_fitPlane_51 {x : Nat} {l : eg_Lo} : wps rm K Q c_M_fitPlane_51 kc ks (some (.ref x) :: l) (st) h = wps rm K Q c_M_fitPlane_52 kc ks (some (.ref x) :: l) (.ref x :: st) h := rfl
theorem s_M_fitPlane_52 {x : Int32} {l0 l1 : Option Value} {l : eg_Lo} : wps rm K Q c_M_fitPlane_52 kc ks (l0 :: l1 :: some (.int x) :: l) (st) h = wps rm K Q c_M_fitPlane_53 kc ks (l0 :: l1 :: some (.int x) :: l) (.int x :: st) h := rfl
theorem s_M_fitPlane_53 {x : Int32} {l0 l1 l2 l3 l4 l5 l6 l7 l8 l9 l10 l11 l12 : Option Value} {l : eg_Lo} : wps rm K Q c_M_fitPlane_53 kc ks (l0 :: l1 :: l2 :: l3 :: l4 :: l5 :: l6 :: l7 :: l8 :: l9 :: l10 :: l11 :: l12 :: some (.int x) :: l) (st) h = wps rm K Q c_M_fitPlane_55 kc ks (l0 :: l1 :: l2 :: l3 :: l4 :: l5 :: l6 :: l7 :: l8 :: l9 :: l10 :: l11 :: l12 :: some (.int x) :: l) (.int x :: st) h := rfl
theorem s_M_fitPlane_55  {a1 : Value} {a2 : Value} {x : Nat} : wps rm K Q c_M_fitPlane_55 kc ks loc (a2 :: a1 :: .ref (x + 1) :: st) h = (eg_cls h x 12 ∧ st.length ≤ 4 ∧ eg_Cs n_M_isHere (.ref (x + 1) :: [a1, a2]) h (fun v h9 => wps rm K Q c_M_fitPlane_58 kc ks loc (v.toList ++ st) h9)) := eg_c1_2
theorem s_M_fitPlane_58 {x : Int32} : wps rm K Q c_M_fitPlane_58 kc ks loc (.int x :: st) h = ((x = 0 → K 263 kc ks loc st h) ∧ (¬ x = 0 → wps rm K Q c_M_fitPlane_61 kc ks loc (st) h)) := rfl
theorem s_M_fitPlane_61 {x : Int32} {l0 l1 l2 l3 l4 l5 l6 l7 l8 l9 l10 l11 l12 : Option Value} {l : eg_Lo} : wps rm K Q c_M_fitPlane_61 kc ks (l0 :: l1 :: l2 :: l3 :: l4 :: l5 :: l6 :: l7 :: l8 :: l9 :: l10 :: l11 :: l12 :: some (.int x) :: l) (st) h = wps rm K Q c_M_fitPlane_63 kc ks (l0 :: l1 :: l2 :: l3 :: l4 :: l5 :: l6 :: l7 :: l8 :: l9 :: l10 :: l11 :: l12 :: some (.int x) :: l) (.int x :: st) h := rfl
theorem s_M_fitPlane_63 {x : Int32} : wps rm K Q c_M_fitPlane_63 kc ks loc (.int x :: st) h = K 65 kc ks (eg_set1 loc 15 (.int x)) (st) h := rfl
theorem s_M_fitPlane_65 {x : Int32} {l0 l1 l2 l3 l4 l5 l6 l7 l8 l9 l10 l11 l12 l13 l14 : Option Value} {l : eg_Lo} : wps rm K Q c_M_fitPlane_65 kc ks (l0 :: l1 :: l2 :: l3 :: l4 :: l5 :: l6 :: l7 :: l8 :: l9 :: l10 :: l11 :: l12 :: l13 :: l14 :: some (.int x) :: l) (st) h = wps rm K Q c_M_fitPlane_67 kc ks (l0 :: l1 :: l2 :: l3 :: l4 :: l5 :: l6 :: l7 :: l8 :: l9 :: l10 :: l11 :: l12 :: l13 :: l14 :: some (.int x) :: l) (.int x :: st) h := rfl
theorem s_M_fitPlane_67 {x : Int32} {l0 l1 l2 l3 l4 l5 l6 l7 l8 l9 l10 l11 : Option Value} {l : eg_Lo} : wps rm K Q c_M_fitPlane_67 kc ks (l0 :: l1 :: l2 :: l3 :: l4 :: l5 :: l6 :: l7 :: l8 :: l9 :: l10 :: l11 :: some (.int x) :: l) (st) h = wps rm K Q c_M_fitPlane_69 kc ks (l0 :: l1 :: l2 :: l3 :: l4 :: l5 :: l6 :: l7 :: l8 :: l9 :: l10 :: l11 :: some (.int x) :: l) (.int x :: st) h := rfl
theorem s_M_fitPlane_69 {x y : Int32} : wps rm K Q c_M_fitPlane_69 kc ks loc (.int y :: .int x :: st) h = ((y ≤ x → K 257 kc ks loc st h) ∧ (¬ y ≤ x → wps rm K Q c_M_fitPlane_72 kc ks loc (st) h)) := rfl
theorem s_M_fitPlane_72 {x : Nat} {l : eg_Lo} : wps rm K Q c_M_fitPlane_72 kc ks (some (.ref x) :: l) (st) h = wps rm K Q c_M_fitPlane_73 kc ks (some (.ref x) :: l) (.ref x :: st) h := rfl
theorem s_M_fitPlane_73 {x : Int32} {l0 l1 : Option Value} {l : eg_Lo} : wps rm K Q c_M_fitPlane_73 kc ks (l0 :: l1 :: some (.int x) :: l) (st) h = wps rm K Q c_M_fitPlane_74 kc ks (l0 :: l1 :: some (.int x) :: l) (.int x :: st) h := rfl
theorem s_M_fitPlane_74 {x : Int32} {l0 l1 l2 l3 l4 l5 l6 l7 l8 l9 l10 l11 l12 l13 : Option Value} {l : eg_Lo} : wps rm K Q c_M_fitPlane_74 kc ks (l0 :: l1 :: l2 :: l3 :: l4 :: l5 :: l6 :: l7 :: l8 :: l9 :: l10 :: l11 :: l12 :: l13 :: some (.int x) :: l) (st) h = wps rm K Q c_M_fitPlane_76 kc ks (l0 :: l1 :: l2 :: l3 :: l4 :: l5 :: l6 :: l7 :: l8 :: l9 :: l10 :: l11 :: l12 :: l13 :: some (.int x) :: l) (.int x :: st) h := rfl
theorem s_M_fitPlane_76  {a1 : Value} {a2 : Value} {x : Nat} : wps rm K Q c_M_fitPlane_76 kc ks loc (a2 :: a1 :: .ref (x + 1) :: st) h = (eg_cls h x 12 ∧ st.length ≤ 4 ∧ eg_Cs n_M_isHere (.ref (x + 1) :: [a1, a2]) h (fun v h9 => wps rm K Q c_M_fitPlane_79 kc ks loc (v.toList ++ st) h9)) := eg_c1_2
theorem s_M_fitPlane_79 {x : Int32} : wps rm K Q c_M_fitPlane_79 kc ks loc (.int x :: st) h = ((x = 0 → K 257 kc ks loc st h) ∧ (¬ x = 0 → wps rm K Q c_M_fitPlane_82 kc ks loc (st) h)) := rfl
theorem s_M_fitPlane_82 {x : Int32} {l0 l1 l2 l3 l4 l5 l6 l7 l8 l9 l10 l11 l12 l13 l14 : Option Value} {l : eg_Lo} : wps rm K Q c_M_fitPlane_82 kc ks (l0 :: l1 :: l2 :: l3 :: l4 :: l5 :: l6 :: l7 :: l8 :: l9 :: l10 :: l11 :: l12 :: l13 :: l14 :: some (.int x) :: l) (st) h = wps rm K Q c_M_fitPlane_84 kc ks (l0 :: l1 :: l2 :: l3 :: l4 :: l5 :: l6 :: l7 :: l8 :: l9 :: l10 :: l11 :: l12 :: l13 :: l14 :: some (.int x) :: l) (.int x :: st) h := rfl
theorem s_M_fitPlane_84 {x : Int32} {l0 l1 l2 l3 l4 l5 l6 l7 l8 l9 l10 l11 l12 : Option Value} {l : eg_Lo} : wps rm K Q c_M_fitPlane_84 kc ks (l0 :: l1 :: l2 :: l3 :: l4 :: l5 :: l6 :: l7 :: l8 :: l9 :: l10 :: l11 :: l12 :: some (.int x) :: l) (st) h = wps rm K Q c_M_fitPlane_86 kc ks (l0 :: l1 :: l2 :: l3 :: l4 :: l5 :: l6 :: l7 :: l8 :: l9 :: l10 :: l11 :: l12 :: some (.int x) :: l) (.int x :: st) h := rfl
theorem s_M_fitPlane_86 {x y : Int32} : wps rm K Q c_M_fitPlane_86 kc ks loc (.int y :: .int x :: st) h = ((¬ x = y → K 96 kc ks loc st h) ∧ (x = y → wps rm K Q c_M_fitPlane_89 kc ks loc (st) h)) := rfl
theorem s_M_fitPlane_89 {x : Int32} {l0 l1 l2 l3 l4 l5 l6 l7 l8 l9 l10 l11 l12 l13 : Option Value} {l : eg_Lo} : wps rm K Q c_M_fitPlane_89 kc ks (l0 :: l1 :: l2 :: l3 :: l4 :: l5 :: l6 :: l7 :: l8 :: l9 :: l10 :: l11 :: l12 :: l13 :: some (.int x) :: l) (st) h = wps rm K Q c_M_fitPlane_91 kc ks (l0 :: l1 :: l2 :: l3 :: l4 :: l5 :: l6 :: l7 :: l8 :: l9 :: l10 :: l11 :: l12 :: l13 :: some (.int x) :: l) (.int x :: st) h := rfl
theorem s_M_fitPlane_91  : wps rm K Q c_M_fitPlane_91 kc ks loc (st) h = wps rm K Q c_M_fitPlane_92 kc ks loc (.int (1) :: st) h := rfl
theorem s_M_fitPlane_92 {x y : Int32} : wps rm K Q c_M_fitPlane_92 kc ks loc (.int y :: .int x :: st) h = wps rm K Q c_M_fitPlane_93 kc ks loc (.int (x + y) :: st) h := rfl
theorem s_M_fitPlane_93  : wps rm K Q c_M_fitPlane_93 kc ks loc (st) h = K 100 kc ks loc st h := rfl
theorem s_M_fitPlane_96 {x : Int32} {l0 l1 l2 l3 l4 l5 l6 l7 l8 l9 l10 l11 l12 l13 l14 : Option Value} {l : eg_Lo} : wps rm K Q c_M_fitPlane_96 kc ks (l0 :: l1 :: l2 :: l3 :: l4 :: l5 :: l6 :: l7 :: l8 :: l9 :: l10 :: l11 :: l12 :: l13 :: l14 :: some (.int x) :: l) (st) h = wps rm K Q c_M_fitPlane_98 kc ks (l0 :: l1 :: l2 :: l3 :: l4 :: l5 :: l6 :: l7 :: l8 :: l9 :: l10 :: l11 :: l12 :: l13 :: l14 :: some (.int x) :: l) (.int x :: st) h := rfl
theorem s_M_fitPlane_98  : wps rm K Q c_M_fitPlane_98 kc ks loc (st) h = wps rm K Q c_M_fitPlane_99 kc ks loc (.int (1) :: st) h := rfl
theorem s_M_fitPlane_99 {x y : Int32} : wps rm K Q c_M_fitPlane_99 kc ks loc (.int y :: .int x :: st) h = wps rm K Q c_M_fitPlane_100 kc ks loc (.int (x + y) :: st) h := rfl
theorem s_M_fitPlane_100 {x : Int32} : wps rm K Q c_M_fitPlane_100 kc ks loc (.int x :: st) h = K 102 kc ks (eg_set1 loc 16 (.int x)) (st) h := rfl
theorem s_M_fitPlane_102 {x : Int32} {l0 l1 l2 l3 l4 l5 l6 l7 l8 l9 l10 l11 l12 l13 l14 l15 : Option Value} {l : eg_Lo} : wps rm K Q c_M_fitPlane_102 kc ks (l0 :: l1 :: l2 :: l3 :: l4 :: l5 :: l6 :: l7 :: l8 :: l9 :: l10 :: l11 :: l12 :: l13 :: l14 :: l15 :: some (.int x) :: l) (st) h = wps rm K Q c_M_fitPlane_104 kc ks (l0 :: l1 :: l2 :: l3 :: l4 :: l5 :: l6 :: l7 :: l8 :: l9 :: l10 :: l11 :: l12 :: l13 :: l14 :: l15 :: some (.int x) :: l) (.int x :: st) h := rfl
theorem s_M_fitPlane_104 {x : Int32} {l0 l1 l2 l3 l4 l5 l6 l7 l8 l9 l10 l11 : Option Value} {l : eg_Lo} : wps rm K Q c_M_fitPlane_104 kc ks (l0 :: l1 :: l2 :: l3 :: l4 :: l5 :: l6 :: l7 :: l8 :: l9 :: l10 :: l11 :: some (.int x) :: l) (st) h = wps rm K Q c_M_fitPlane_106 kc ks (l0 :: l1 :: l2 :: l3 :: l4 :: l5 :: l6 :: l7 :: l8 :: l9 :: l10 :: l11 :: some (.int x) :: l) (.int x :: st) h := rfl
theorem s_M_fitPlane_106 {x y : Int32} : wps rm K Q c_M_fitPlane_106 kc ks loc (.int y :: .int x :: st) h = ((y ≤ x → K 251 kc ks loc st h) ∧ (¬ y ≤ x → wps rm K Q c_M_fitPlane_109 kc ks loc (st) h)) := rfl
theorem s_M_fitPlane_109 {x : Nat} {l : eg_Lo} : wps rm K Q c_M_fitPlane_109 kc ks (some (.ref x) :: l) (st) h = wps rm K Q c_M_fitPlane_110 kc ks (some (.ref x) :: l) (.ref x :: st) h := rfl
theorem s_M_fitPlane_110 {x : Int32} {l0 l1 : Option Value} {l : eg_Lo} : wps rm K Q c_M_fitPlane_110 kc ks (l0 :: l1 :: some (.int x) :: l) (st) h = wps rm K Q c_M_fitPlane_111 kc ks (l0 :: l1 :: some (.int x) :: l) (.int x :: st) h := rfl
theorem s_M_fitPlane_111 {x : Int32} {l0 l1 l2 l3 l4 l5 l6 l7 l8 l9 l10 l11 l12 l13 l14 : Option Value} {l : eg_Lo} : wps rm K Q c_M_fitPlane_111 kc ks (l0 :: l1 :: l2 :: l3 :: l4 :: l5 :: l6 :: l7 :: l8 :: l9 :: l10 :: l11 :: l12 :: l13 :: l14 :: some (.int x) :: l) (st) h = wps rm K Q c_M_fitPlane_113 kc ks (l0 :: l1 :: l2 :: l3 :: l4 :: l5 :: l6 :: l7 :: l8 :: l9 :: l10 :: l11 :: l12 :: l13 :: l14 :: some (.int x) :: l) (.int x :: st) h := rfl
theorem s_M_fitPlane_113  {a1 : Value} {a2 : Value} {x : Nat} : wps rm K Q c_M_fitPlane_113 kc ks loc (a2 :: a1 :: .ref (x + 1) :: st) h = (eg_cls h x 12 ∧ st.length ≤ 4 ∧ eg_Cs n_M_isHere (.ref (x + 1) :: [a1, a2]) h (fun v h9 => wps rm K Q c_M_fitPlane_116 kc ks loc (v.toList ++ st) h9)) := eg_c1_2
theorem s_M_fitPlane_116 {x : Int32} : wps rm K Q c_M_fitPlane_116 kc ks loc (.int x :: st) h = ((x = 0 → K 251 kc ks loc st h) ∧ (¬ x = 0 → wps rm K Q c_M_fitPlane_119 kc ks loc (st) h)) := rfl
theorem s_M_fitPlane_119 {x : Nat} {l : eg_Lo} : wps rm K Q c_M_fitPlane_119 kc ks (some (.ref x) :: l) (st) h = wps rm K Q c_M_fitPlane_120 kc ks (some (.ref x) :: l) (.ref x :: st) h := rfl
theorem s_M_fitPlane_120 {x : Int32} {l0 l1 : Option Value} {l : eg_Lo} : wps rm K Q c_M_fitPlane_120 kc ks (l0 :: l1 :: some (.int x) :: l) (st) h = wps rm K Q c_M_fitPlane_121 kc ks (l0 :: l1 :: some (.int x) :: l) (.int x :: st) h := rfl
theorem s_M_fitPlane_121 {x : Int32} {l0 l1 l2 l3 l4 l5 l6 l7 l8 l9 l10 l11 l12 : Option Value} {l : eg_Lo} : wps rm K Q c_M_fitPlane_121 kc ks (l0 :: l1 :: l2 :: l3 :: l4 :: l5 :: l6 :: l7 :: l8 :: l9 :: l10 :: l11 :: l12 :: some (.int x) :: l) (st) h = wps rm K Q c_M_fitPlane_123 kc ks (l0 :: l1 :: l2 :: l3 :: l4 :: l5 :: l6 :: l7 :: l8 :: l9 :: l10 :: l11 :: l12 :: some (.int x) :: l) (.int x :: st) h := rfl
theorem s_M_fitPlane_123 {x : Int32} {l0 l1 l2 l3 l4 l5 l6 l7 l8 l9 l10 l11 l12 l13 : Option Value} {l : eg_Lo} : wps rm K Q c_M_fitPlane_123 kc ks (l0 :: l1 :: l2 :: l3 :: l4 :: l5 :: l6 :: l7 :: l8 :: l9 :: l10 :: l11 :: l12 :: l13 :: some (.int x) :: l) (st) h = wps rm K Q c_M_fitPlane_125 kc ks (l0 :: l1 :: l2 :: l3 :: l4 :: l5 :: l6 :: l7 :: l8 :: l9 :: l10 :: l11 :: l12 :: l13 :: some (.int x) :: l) (.int x :: st) h := rfl
theorem s_M_fitPlane_125 {x : Int32} {l0 l1 l2 l3 l4 l5 l6 l7 l8 l9 l10 l11 l12 l13 l14 : Option Value} {l : eg_Lo} : wps rm K Q c_M_fitPlane_125 kc ks (l0 :: l1 :: l2 :: l3 :: l4 :: l5 :: l6 :: l7 :: l8 :: l9 :: l10 :: l11 :: l12 :: l13 :: l14 :: some (.int x) :: l) (st) h = wps rm K Q c_M_fitPlane_127 kc ks (l0 :: l1 :: l2 :: l3 :: l4 :: l5 :: l6 :: l7 :: l8 :: l9 :: l10 :: l11 :: l12 :: l13 :: l14 :: some (.int x) :: l) (.int x :: st) h := rfl
theorem s_M_fitPlane_127 {x : Int32} {l0 l1 l2 l3 l4 l5 l6 l7 l8 l9 l10 l11 l12 l13 l14 l15 : Option Value} {l : eg_Lo} : wps rm K Q c_M_fitPlane_127 kc ks (l0 :: l1 :: l2 :: l3 :: l4 :: l5 :: l6 :: l7 :: l8 :: l9 :: l10 :: l11 :: l12 :: l13 :: l14 :: l15 :: some (.int x) :: l) (st) h = wps rm K Q c_M_fitPlane_129 kc ks (l0 :: l1 :: l2 :: l3 :: l4 :: l5 :: l6 :: l7 :: l8 :: l9 :: l10 :: l11 :: l12 :: l13 :: l14 :: l15 :: some (.int x) :: l) (.int x :: st) h := rfl
theorem s_M_fitPlane_129  {a1 : Value} {a2 : Value} {a3 : Value} {a4 : Value} {a5 : Value} {x : Nat} : wps rm K Q c_M_fitPlane_129 kc ks loc (a5 :: a4 :: a3 :: a2 :: a1 :: .ref (x + 1) :: st) h = (eg_cls h x 12 ∧ st.length ≤ 4 ∧ eg_Cs n_M_tellNormal (.ref (x + 1) :: [a1, a2, a3, a4, a5]) h (fun v h9 => wps rm K Q c_M_fitPlane_132 kc ks loc (v.toList ++ st) h9)) := eg_c1_5
theorem s_M_fitPlane_132 {x : Nat} {l : eg_Lo} : wps rm K Q c_M_fitPlane_132 kc ks (some (.ref x) :: l) (st) h = wps rm K Q c_M_fitPlane_133 kc ks (some (.ref x) :: l) (.ref x :: st) h := rfl
theorem s_M_fitPlane_133  {x : Nat} : wps rm K Q c_M_fitPlane_133 kc ks loc (.ref (x + 1) :: st) h = (eg_cls h x 12 ∧ st.length ≤ 4 ∧ eg_Cs n_M_squareOf (.ref (x + 1) :: []) h (fun v h9 => wps rm K Q c_M_fitPlane_136 kc ks loc (v.toList ++ st) h9)) := eg_c1_0
theorem s_M_fitPlane_136 {x : Int64} : wps rm K Q c_M_fitPlane_136 kc ks loc (.long x :: st) h = wps rm K Q c_M_fitPlane_138 kc ks (eg_set2 loc 17 (.long x)) (st) h := rfl
theorem s_M_fitPlane_138 {x : Nat} {l : eg_Lo} : wps rm K Q c_M_fitPlane_138 kc ks (some (.ref x) :: l) (st) h = wps rm K Q c_M_fitPlane_139 kc ks (some (.ref x) :: l) (.ref x :: st) h := rfl
theorem s_M_fitPlane_139 {x : Int32} {l0 l1 : Option Value} {l : eg_Lo} : wps rm K Q c_M_fitPlane_139 kc ks (l0 :: l1 :: some (.int x) :: l) (st) h = wps rm K Q c_M_fitPlane_140 kc ks (l0 :: l1 :: some (.int x) :: l) (.int x :: st) h := rfl
theorem s_M_fitPlane_140 {x : Int32} {l0 l1 l2 l3 l4 l5 l6 l7 l8 l9 l10 l11 l12 l13 l14 l15 : Option Value} {l : eg_Lo} : wps rm K Q c_M_fitPlane_140 kc ks (l0 :: l1 :: l2 :: l3 :: l4 :: l5 :: l6 :: l7 :: l8 :: l9 :: l10 :: l11 :: l12 :: l13 :: l14 :: l15 :: some (.int x) :: l) (st) h = wps rm K Q c_M_fitPlane_142 kc ks (l0 :: l1 :: l2 :: l3 :: l4 :: l5 :: l6 :: l7 :: l8 :: l9 :: l10 :: l11 :: l12 :: l13 :: l14 :: l15 :: some (.int x) :: l) (.int x :: st) h := rfl
theorem s_M_fitPlane_142  {a1 : Value} {a2 : Value} {x : Nat} : wps rm K Q c_M_fitPlane_142 kc ks loc (a2 :: a1 :: .ref (x + 1) :: st) h = (eg_cls h x 12 ∧ st.length ≤ 4 ∧ eg_Cs n_M_isHere (.ref (x + 1) :: [a1, a2]) h (fun v h9 => wps rm K Q c_M_fitPlane_145 kc ks loc (v.toList ++ st) h9)) := eg_c1_2
theorem s_M_fitPlane_145 {x : Int32} : wps rm K Q c_M_fitPlane_145 kc ks loc (.int x :: st) h = ((x = 0 → K 245 kc ks loc st h) ∧ (¬ x = 0 → wps rm K Q c_M_fitPlane_148 kc ks loc (st) h)) := rfl
theorem s_M_fitPlane_148 {x : Int64} {l0 l1 l2 l3 l4 l5 l6 l7 l8 l9 l10 l11 l12 l13 l14 l15 l16 : Option Value} {l : eg_Lo} : wps rm K Q c_M_fitPlane_148 kc ks (l0 :: l1 :: l2 :: l3 :: l4 :: l5 :: l6 :: l7 :: l8 :: l9 :: l10 :: l11 :: l12 :: l13 :: l14 :: l15 :: l16 :: some (.long x) :: l) (st) h = wps rm K Q c_M_fitPlane_150 kc ks (l0 :: l1 :: l2 :: l3 :: l4 :: l5 :: l6 :: l7 :: l8 :: l9 :: l10 :: l11 :: l12 :: l13 :: l14 :: l15 :: l16 :: some (.long x) :: l) (.long x :: st) h := rfl
theorem s_M_fitPlane_150  : wps rm K Q c_M_fitPlane_150 kc ks loc (st) h = wps rm K Q c_M_fitPlane_151 kc ks loc (.long (0) :: st) h := rfl
theorem s_M_fitPlane_151 {x y : Int64} : wps rm K Q c_M_fitPlane_151 kc ks loc (.long y :: .long x :: st) h = wps rm K Q c_M_fitPlane_152 kc ks loc (.int (lg_cmp x y) :: st) h := rfl
theorem s_M_fitPlane_152 {x : Int32} : wps rm K Q c_M_fitPlane_152 kc ks loc (.int x :: st) h = ((x ≤ 0 → K 245 kc ks loc st h) ∧ (¬ x ≤ 0 → wps rm K Q c_M_fitPlane_155 kc ks loc (st) h)) := rfl
theorem s_M_fitPlane_155 {x : Nat} {l : eg_Lo} : wps rm K Q c_M_fitPlane_155 kc ks (some (.ref x) :: l) (st) h = wps rm K Q c_M_fitPlane_156 kc ks (some (.ref x) :: l) (.ref x :: st) h := rfl
theorem s_M_fitPlane_156 {x : Int32} {l0 l1 : Option Value} {l : eg_Lo} : wps rm K Q c_M_fitPlane_156 kc ks (l0 :: l1 :: some (.int x) :: l) (st) h = wps rm K Q c_M_fitPlane_157 kc ks (l0 :: l1 :: some (.int x) :: l) (.int x :: st) h := rfl
theorem s_M_fitPlane_157 {x : Int32} {l0 l1 l2 l3 l4 l5 l6 l7 l8 l9 l10 l11 l12 : Option Value} {l : eg_Lo} : wps rm K Q c_M_fitPlane_157 kc ks (l0 :: l1 :: l2 :: l3 :: l4 :: l5 :: l6 :: l7 :: l8 :: l9 :: l10 :: l11 :: l12 :: some (.int x) :: l) (st) h = wps rm K Q c_M_fitPlane_159 kc ks (l0 :: l1 :: l2 :: l3 :: l4 :: l5 :: l6 :: l7 :: l8 :: l9 :: l10 :: l11 :: l12 :: some (.int x) :: l) (.int x :: st) h := rfl
theorem s_M_fitPlane_159 {x : Nat} {l : eg_Lo} : wps rm K Q c_M_fitPlane_159 kc ks (some (.ref x) :: l) (st) h = wps rm K Q c_M_fitPlane_160 kc ks (some (.ref x) :: l) (.ref x :: st) h := rfl
theorem s_M_fitPlane_160 {x : Nat} : wps rm K Q c_M_fitPlane_160 kc ks loc (.ref (x + 1) :: st) h = eg_gf h x 12 33 (fun v => wps rm K Q c_M_fitPlane_163 kc ks loc (v :: st) h) := rfl
theorem s_M_fitPlane_163  : wps rm K Q c_M_fitPlane_163 kc ks loc (st) h = wps rm K Q c_M_fitPlane_164 kc ks loc (.int (0) :: st) h := rfl
theorem s_M_fitPlane_164 {x : Nat} {i : Int32} : wps rm K Q c_M_fitPlane_164 kc ks loc (.int i :: .ref (x + 1) :: st) h = eg_la h x i (fun v => wps rm K Q c_M_fitPlane_165 kc ks loc (.long v :: st) h) := rfl
theorem s_M_fitPlane_165 {x : Nat} {l : eg_Lo} : wps rm K Q c_M_fitPlane_165 kc ks (some (.ref x) :: l) (st) h = wps rm K Q c_M_fitPlane_166 kc ks (some (.ref x) :: l) (.ref x :: st) h := rfl
theorem s_M_fitPlane_166 {x : Nat} : wps rm K Q c_M_fitPlane_166 kc ks loc (.ref (x + 1) :: st) h = eg_gf h x 12 33 (fun v => wps rm K Q c_M_fitPlane_169 kc ks loc (v :: st) h) := rfl
theorem s_M_fitPlane_169  : wps rm K Q c_M_fitPlane_169 kc ks loc (st) h = wps rm K Q c_M_fitPlane_170 kc ks loc (.int (1) :: st) h := rfl
theorem s_M_fitPlane_170 {x : Nat} {i : Int32} : wps rm K Q c_M_fitPlane_170 kc ks loc (.int i :: .ref (x + 1) :: st) h = eg_la h x i (fun v => wps rm K Q c_M_fitPlane_171 kc ks loc (.long v :: st) h) := rfl
theorem s_M_fitPlane_171 {x : Nat} {l : eg_Lo} : wps rm K Q c_M_fitPlane_171 kc ks (some (.ref x) :: l) (st) h = wps rm K Q c_M_fitPlane_172 kc ks (some (.ref x) :: l) (.ref x :: st) h := rfl
theorem s_M_fitPlane_172 {x : Nat} : wps rm K Q c_M_fitPlane_172 kc ks loc (.ref (x + 1) :: st) h = eg_gf h x 12 33 (fun v => wps rm K Q c_M_fitPlane_175 kc ks loc (v :: st) h) := rfl
theorem s_M_fitPlane_175  : wps rm K Q c_M_fitPlane_175 kc ks loc (st) h = wps rm K Q c_M_fitPlane_176 kc ks loc (.int (2) :: st) h := rfl
theorem s_M_fitPlane_176 {x : Nat} {i : Int32} : wps rm K Q c_M_fitPlane_176 kc ks loc (.int i :: .ref (x + 1) :: st) h = eg_la h x i (fun v => wps rm K Q c_M_fitPlane_177 kc ks loc (.long v :: st) h) := rfl
theorem s_M_fitPlane_177  {a1 : Value} {a2 : Value} {a3 : Value} {a4 : Value} {a5 : Value} {x : Nat} : wps rm K Q c_M_fitPlane_177 kc ks loc (a5 :: a4 :: a3 :: a2 :: a1 :: .ref (x + 1) :: st) h = (eg_cls h x 12 ∧ st.length ≤ 4 ∧ eg_Cs n_M_crosses (.ref (x + 1) :: [a1, a2, a3, a4, a5]) h (fun v h9 => wps rm K Q c_M_fitPlane_180 kc ks loc (v.toList ++ st) h9)) := eg_c1_5
theorem s_M_fitPlane_180 {x : Nat} {l : eg_Lo} : wps rm K Q c_M_fitPlane_180 kc ks (some (.ref x) :: l) (st) h = wps rm K Q c_M_fitPlane_181 kc ks (some (.ref x) :: l) (.ref x :: st) h := rfl
theorem s_M_fitPlane_181 {x : Nat} : wps rm K Q c_M_fitPlane_181 kc ks loc (.ref (x + 1) :: st) h = eg_gf h x 12 29 (fun v => wps rm K Q c_M_fitPlane_184 kc ks loc (v :: st) h) := rfl
theorem s_M_fitPlane_184 {x : Nat} {l : eg_Lo} : wps rm K Q c_M_fitPlane_184 kc ks (some (.ref x) :: l) (st) h = wps rm K Q c_M_fitPlane_185 kc ks (some (.ref x) :: l) (.ref x :: st) h := rfl
theorem s_M_fitPlane_185 {x : Nat} : wps rm K Q c_M_fitPlane_185 kc ks loc (.ref (x + 1) :: st) h = eg_gf h x 12 30 (fun v => wps rm K Q c_M_fitPlane_188 kc ks loc (v :: st) h) := rfl
theorem s_M_fitPlane_188 {x y : Int64} : wps rm K Q c_M_fitPlane_188 kc ks loc (.long y :: .long x :: st) h = wps rm K Q c_M_fitPlane_189 kc ks loc (.long (x - y) :: st) h := rfl
theorem s_M_fitPlane_189 {x : Nat} {l : eg_Lo} : wps rm K Q c_M_fitPlane_189 kc ks (some (.ref x) :: l) (st) h = wps rm K Q c_M_fitPlane_190 kc ks (some (.ref x) :: l) (.ref x :: st) h := rfl
theorem s_M_fitPlane_190 {x : Nat} : wps rm K Q c_M_fitPlane_190 kc ks loc (.ref (x + 1) :: st) h = eg_gf h x 12 29 (fun v => wps rm K Q c_M_fitPlane_193 kc ks loc (v :: st) h) := rfl
theorem s_M_fitPlane_193 {x : Nat} {l : eg_Lo} : wps rm K Q c_M_fitPlane_193 kc ks (some (.ref x) :: l) (st) h = wps rm K Q c_M_fitPlane_194 kc ks (some (.ref x) :: l) (.ref x :: st) h := rfl
theorem s_M_fitPlane_194 {x : Nat} : wps rm K Q c_M_fitPlane_194 kc ks loc (.ref (x + 1) :: st) h = eg_gf h x 12 30 (fun v => wps rm K Q c_M_fitPlane_197 kc ks loc (v :: st) h) := rfl
theorem s_M_fitPlane_197 {x y : Int64} : wps rm K Q c_M_fitPlane_197 kc ks loc (.long y :: .long x :: st) h = wps rm K Q c_M_fitPlane_198 kc ks loc (.long (x - y) :: st) h := rfl
theorem s_M_fitPlane_198 {x y : Int64} : wps rm K Q c_M_fitPlane_198 kc ks loc (.long y :: .long x :: st) h = wps rm K Q c_M_fitPlane_199 kc ks loc (.long (x * y) :: st) h := rfl
theorem s_M_fitPlane_199 {x : Int64} : wps rm K Q c_M_fitPlane_199 kc ks loc (.long x :: st) h = wps rm K Q c_M_fitPlane_201 kc ks (eg_set2 loc 19 (.long x)) (st) h := rfl
theorem s_M_fitPlane_201 {x : Int32} {l0 l1 l2 : Option Value} {l : eg_Lo} : wps rm K Q c_M_fitPlane_201 kc ks (l0 :: l1 :: l2 :: some (.int x) :: l) (st) h = wps rm K Q c_M_fitPlane_202 kc ks (l0 :: l1 :: l2 :: some (.int x) :: l) (.int x :: st) h := rfl
theorem s_M_fitPlane_202 {x : Int32} : wps rm K Q c_M_fitPlane_202 kc ks loc (.int x :: st) h = ((x = 0 → K 219 kc ks loc st h) ∧ (¬ x = 0 → wps rm K Q c_M_fitPlane_205 kc ks loc (st) h)) := rfl
theorem s_M_fitPlane_205 {x : Int64} {l0 l1 l2 l3 l4 l5 l6 l7 l8 l9 l10 l11 l12 l13 l14 l15 l16 l17 l18 : Option Value} {l : eg_Lo} : wps rm K Q c_M_fitPlane_205 kc ks (l0 :: l1 :: l2 :: l3 :: l4 :: l5 :: l6 :: l7 :: l8 :: l9 :: l10 :: l11 :: l12 :: l13 :: l14 :: l15 :: l16 :: l17 :: l18 :: some (.long x) :: l) (st) h = wps rm K Q c_M_fitPlane_207 kc ks (l0 :: l1 :: l2 :: l3 :: l4 :: l5 :: l6 :: l7 :: l8 :: l9 :: l10 :: l11 :: l12 :: l13 :: l14 :: l15 :: l16 :: l17 :: l18 :: some (.long x) :: l) (.long x :: st) h := rfl
theorem s_M_fitPlane_207 {x : Int64} {l0 l1 l2 l3 l4 l5 l6 l7 l8 l9 l10 l11 l12 l13 l14 l15 l16 : Option Value} {l : eg_Lo} : wps rm K Q c_M_fitPlane_207 kc ks (l0 :: l1 :: l2 :: l3 :: l4 :: l5 :: l6 :: l7 :: l8 :: l9 :: l10 :: l11 :: l12 :: l13 :: l14 :: l15 :: l16 :: some (.long x) :: l) (st) h = wps rm K Q c_M_fitPlane_209 kc ks (l0 :: l1 :: l2 :: l3 :: l4 :: l5 :: l6 :: l7 :: l8 :: l9 :: l10 :: l11 :: l12 :: l13 :: l14 :: l15 :: l16 :: some (.long x) :: l) (.long x :: st) h := rfl
theorem s_M_fitPlane_209 {x : Int64} {l0 l1 l2 l3 : Option Value} {l : eg_Lo} : wps rm K Q c_M_fitPlane_209 kc ks (l0 :: l1 :: l2 :: l3 :: some (.long x) :: l) (st) h = wps rm K Q c_M_fitPlane_211 kc ks (l0 :: l1 :: l2 :: l3 :: some (.long x) :: l) (.long x :: st) h := rfl
theorem s_M_fitPlane_211 {x : Int64} {l0 l1 l2 l3 l4 l5 : Option Value} {l : eg_Lo} : wps rm K Q c_M_fitPlane_211 kc ks (l0 :: l1 :: l2 :: l3 :: l4 :: l5 :: some (.long x) :: l) (st) h = wps rm K Q c_M_fitPlane_213 kc ks (l0 :: l1 :: l2 :: l3 :: l4 :: l5 :: some (.long x) :: l) (.long x :: st) h := rfl
theorem s_M_fitPlane_213  {a1 : Value} {a2 : Value} {a3 : Value} {a4 : Value} : wps rm K Q c_M_fitPlane_213 kc ks loc (a4 :: a3 :: a2 :: a1 :: st) h = (st.length ≤ 4 ∧ eg_Cs n_M_isLess [a1, a2, a3, a4] h (fun v h9 => wps rm K Q c_M_fitPlane_216 kc ks loc (v.toList ++ st) h9)) := eg_c0_4
theorem s_M_fitPlane_216 {x : Int32} : wps rm K Q c_M_fitPlane_216 kc ks loc (.int x :: st) h = ((x = 0 → K 245 kc ks loc st h) ∧ (¬ x = 0 → wps rm K Q c_M_fitPlane_219 kc ks loc (st) h)) := rfl
theorem s_M_fitPlane_219  : wps rm K Q c_M_fitPlane_219 kc ks loc (st) h = wps rm K Q c_M_fitPlane_220 kc ks loc (.int (1) :: st) h := rfl
theorem s_M_fitPlane_220 {x : Int32} : wps rm K Q c_M_fitPlane_220 kc ks loc (.int x :: st) h = wps rm K Q c_M_fitPlane_221 kc ks (eg_set1 loc 3 (.int x)) (st) h := rfl
theorem s_M_fitPlane_221 {x : Int64} {l0 l1 l2 l3 l4 l5 l6 l7 l8 l9 l10 l11 l12 l13 l14 l15 l16 l17 l18 : Option Value} {l : eg_Lo} : wps rm K Q c_M_fitPlane_221 kc ks (l0 :: l1 :: l2 :: l3 :: l4 :: l5 :: l6 :: l7 :: l8 :: l9 :: l10 :: l11 :: l12 :: l13 :: l14 :: l15 :: l16 :: l17 :: l18 :: some (.long x) :: l) (st) h = wps rm K Q c_M_fitPlane_223 kc ks (l0 :: l1 :: l2 :: l3 :: l4 :: l5 :: l6 :: l7 :: l8 :: l9 :: l10 :: l11 :: l12 :: l13 :: l14 :: l15 :: l16 :: l17 :: l18 :: some (.long x) :: l) (.long x :: st) h := rfl
theorem s_M_fitPlane_223 {x : Int64} : wps rm K Q c_M_fitPlane_223 kc ks loc (.long x :: st) h = wps rm K Q c_M_fitPlane_225 kc ks (eg_set2 loc 4 (.long x)) (st) h := rfl
theorem s_M_fitPlane_225 {x : Int64} {l0 l1 l2 l3 l4 l5 l6 l7 l8 l9 l10 l11 l12 l13 l14 l15 l16 : Option Value} {l : eg_Lo} : wps rm K Q c_M_fitPlane_225 kc ks (l0 :: l1 :: l2 :: l3 :: l4 :: l5 :: l6 :: l7 :: l8 :: l9 :: l10 :: l11 :: l12 :: l13 :: l14 :: l15 :: l16 :: some (.long x) :: l) (st) h = wps rm K Q c_M_fitPlane_227 kc ks (l0 :: l1 :: l2 :: l3 :: l4 :: l5 :: l6 :: l7 :: l8 :: l9 :: l10 :: l11 :: l12 :: l13 :: l14 :: l15 :: l16 :: some (.long x) :: l) (.long x :: st) h := rfl
theorem s_M_fitPlane_227 {x : Int64} : wps rm K Q c_M_fitPlane_227 kc ks loc (.long x :: st) h = wps rm K Q c_M_fitPlane_229 kc ks (eg_set2 loc 6 (.long x)) (st) h := rfl
theorem s_M_fitPlane_229 {x : Int32} {l0 l1 l2 l3 l4 l5 l6 l7 l8 l9 l10 l11 l12 : Option Value} {l : eg_Lo} : wps rm K Q c_M_fitPlane_229 kc ks (l0 :: l1 :: l2 :: l3 :: l4 :: l5 :: l6 :: l7 :: l8 :: l9 :: l10 :: l11 :: l12 :: some (.int x) :: l) (st) h = wps rm K Q c_M_fitPlane_231 kc ks (l0 :: l1 :: l2 :: l3 :: l4 :: l5 :: l6 :: l7 :: l8 :: l9 :: l10 :: l11 :: l12 :: some (.int x) :: l) (.int x :: st) h := rfl
theorem s_M_fitPlane_231 {x : Int32} : wps rm K Q c_M_fitPlane_231 kc ks loc (.int x :: st) h = wps rm K Q c_M_fitPlane_233 kc ks (eg_set1 loc 8 (.int x)) (st) h := rfl
theorem s_M_fitPlane_233 {x : Int32} {l0 l1 l2 l3 l4 l5 l6 l7 l8 l9 l10 l11 l12 l13 : Option Value} {l : eg_Lo} : wps rm K Q c_M_fitPlane_233 kc ks (l0 :: l1 :: l2 :: l3 :: l4 :: l5 :: l6 :: l7 :: l8 :: l9 :: l10 :: l11 :: l12 :: l13 :: some (.int x) :: l) (st) h = wps rm K Q c_M_fitPlane_235 kc ks (l0 :: l1 :: l2 :: l3 :: l4 :: l5 :: l6 :: l7 :: l8 :: l9 :: l10 :: l11 :: l12 :: l13 :: some (.int x) :: l) (.int x :: st) h := rfl
theorem s_M_fitPlane_235 {x : Int32} : wps rm K Q c_M_fitPlane_235 kc ks loc (.int x :: st) h = wps rm K Q c_M_fitPlane_237 kc ks (eg_set1 loc 9 (.int x)) (st) h := rfl
theorem s_M_fitPlane_237 {x : Int32} {l0 l1 l2 l3 l4 l5 l6 l7 l8 l9 l10 l11 l12 l13 l14 : Option Value} {l : eg_Lo} : wps rm K Q c_M_fitPlane_237 kc ks (l0 :: l1 :: l2 :: l3 :: l4 :: l5 :: l6 :: l7 :: l8 :: l9 :: l10 :: l11 :: l12 :: l13 :: l14 :: some (.int x) :: l) (st) h = wps rm K Q c_M_fitPlane_239 kc ks (l0 :: l1 :: l2 :: l3 :: l4 :: l5 :: l6 :: l7 :: l8 :: l9 :: l10 :: l11 :: l12 :: l13 :: l14 :: some (.int x) :: l) (.int x :: st) h := rfl
theorem s_M_fitPlane_239 {x : Int32} : wps rm K Q c_M_fitPlane_239 kc ks loc (.int x :: st) h = wps rm K Q c_M_fitPlane_241 kc ks (eg_set1 loc 10 (.int x)) (st) h := rfl
theorem s_M_fitPlane_241 {x : Int32} {l0 l1 l2 l3 l4 l5 l6 l7 l8 l9 l10 l11 l12 l13 l14 l15 : Option Value} {l : eg_Lo} : wps rm K Q c_M_fitPlane_241 kc ks (l0 :: l1 :: l2 :: l3 :: l4 :: l5 :: l6 :: l7 :: l8 :: l9 :: l10 :: l11 :: l12 :: l13 :: l14 :: l15 :: some (.int x) :: l) (st) h = wps rm K Q c_M_fitPlane_243 kc ks (l0 :: l1 :: l2 :: l3 :: l4 :: l5 :: l6 :: l7 :: l8 :: l9 :: l10 :: l11 :: l12 :: l13 :: l14 :: l15 :: some (.int x) :: l) (.int x :: st) h := rfl
theorem s_M_fitPlane_243 {x : Int32} : wps rm K Q c_M_fitPlane_243 kc ks loc (.int x :: st) h = wps rm K Q c_M_fitPlane_245 kc ks (eg_set1 loc 11 (.int x)) (st) h := rfl
theorem s_M_fitPlane_245 {x : Int32} {l0 l1 l2 l3 l4 l5 l6 l7 l8 l9 l10 l11 l12 l13 l14 l15 : Option Value} {l9 : eg_Lo} : wps rm K Q c_M_fitPlane_245 kc ks (l0 :: l1 :: l2 :: l3 :: l4 :: l5 :: l6 :: l7 :: l8 :: l9 :: l10 :: l11 :: l12 :: l13 :: l14 :: l15 :: some (.int x) :: l9) (st) h = wps rm K Q c_M_fitPlane_248 kc ks (eg_set1 (l0 :: l1 :: l2 :: l3 :: l4 :: l5 :: l6 :: l7 :: l8 :: l9 :: l10 :: l11 :: l12 :: l13 :: l14 :: l15 :: some (.int x) :: l9) 16 (.int (x + (1)))) (st) h := rfl
theorem s_M_fitPlane_248  : wps rm K Q c_M_fitPlane_248 kc ks loc (st) h = K 102 kc ks loc st h := rfl
theorem s_M_fitPlane_251 {x : Int32} {l0 l1 l2 l3 l4 l5 l6 l7 l8 l9 l10 l11 l12 l13 l14 : Option Value} {l9 : eg_Lo} : wps rm K Q c_M_fitPlane_251 kc ks (l0 :: l1 :: l2 :: l3 :: l4 :: l5 :: l6 :: l7 :: l8 :: l9 :: l10 :: l11 :: l12 :: l13 :: l14 :: some (.int x) :: l9) (st) h = wps rm K Q c_M_fitPlane_254 kc ks (eg_set1 (l0 :: l1 :: l2 :: l3 :: l4 :: l5 :: l6 :: l7 :: l8 :: l9 :: l10 :: l11 :: l12 :: l13 :: l14 :: some (.int x) :: l9) 15 (.int (x + (1)))) (st) h := rfl
theorem s_M_fitPlane_254  : wps rm K Q c_M_fitPlane_254 kc ks loc (st) h = K 65 kc ks loc st h := rfl
theorem s_M_fitPlane_257 {x : Int32} {l0 l1 l2 l3 l4 l5 l6 l7 l8 l9 l10 l11 l12 l13 : Option Value} {l9 : eg_Lo} : wps rm K Q c_M_fitPlane_257 kc ks (l0 :: l1 :: l2 :: l3 :: l4 :: l5 :: l6 :: l7 :: l8 :: l9 :: l10 :: l11 :: l12 :: l13 :: some (.int x) :: l9) (st) h = wps rm K Q c_M_fitPlane_260 kc ks (eg_set1 (l0 :: l1 :: l2 :: l3 :: l4 :: l5 :: l6 :: l7 :: l8 :: l9 :: l10 :: l11 :: l12 :: l13 :: some (.int x) :: l9) 14 (.int (x + (1)))) (st) h := rfl
theorem s_M_fitPlane_260  : wps rm K Q c_M_fitPlane_260 kc ks loc (st) h = K 44 kc ks loc st h := rfl
theorem s_M_fitPlane_263 {x : Int32} {l0 l1 l2 l3 l4 l5 l6 l7 l8 l9 l10 l11 l12 : Option Value} {l9 : eg_Lo} : wps rm K Q c_M_fitPlane_263 kc ks (l0 :: l1 :: l2 :: l3 :: l4 :: l5 :: l6 :: l7 :: l8 :: l9 :: l10 :: l11 :: l12 :: some (.int x) :: l9) (st) h = wps rm K Q c_M_fitPlane_266 kc ks (eg_set1 (l0 :: l1 :: l2 :: l3 :: l4 :: l5 :: l6 :: l7 :: l8 :: l9 :: l10 :: l11 :: l12 :: some (.int x) :: l9) 13 (.int (x + (1)))) (st) h := rfl
theorem s_M_fitPlane_266  : wps rm K Q c_M_fitPlane_266 kc ks loc (st) h = K 31 kc ks loc st h := rfl
theorem s_M_fitPlane_269 {x : Int32} {l0 l1 l2 : Option Value} {l : eg_Lo} : wps rm K Q c_M_fitPlane_269 kc ks (l0 :: l1 :: l2 :: some (.int x) :: l) (st) h = wps rm K Q c_M_fitPlane_270 kc ks (l0 :: l1 :: l2 :: some (.int x) :: l) (.int x :: st) h := rfl
theorem s_M_fitPlane_270 {x : Int32} : wps rm K Q c_M_fitPlane_270 kc ks loc (.int x :: st) h = ((¬ x = 0 → K 281 kc ks loc st h) ∧ (x = 0 → wps rm K Q c_M_fitPlane_273 kc ks loc (st) h)) := rfl
theorem s_M_fitPlane_273 {x : Nat} {l : eg_Lo} : wps rm K Q c_M_fitPlane_273 kc ks (some (.ref x) :: l) (st) h = wps rm K Q c_M_fitPlane_274 kc ks (some (.ref x) :: l) (.ref x :: st) h := rfl
theorem s_M_fitPlane_274  : wps rm K Q c_M_fitPlane_274 kc ks loc (st) h = wps rm K Q c_M_fitPlane_277 kc ks loc (.long (-1000000000000000006) :: st) h := rfl
theorem s_M_fitPlane_277  {a1 : Value} {x : Nat} : wps rm K Q c_M_fitPlane_277 kc ks loc (a1 :: .ref (x + 1) :: st) h = (eg_cls h x 12 ∧ st.length ≤ 4 ∧ eg_Cs n_M_finding (.ref (x + 1) :: [a1]) h (fun v h9 => wps rm K Q c_M_fitPlane_280 kc ks loc (v.toList ++ st) h9)) := eg_c1_1
theorem s_M_fitPlane_280 {x : Int64} : wps rm K Q c_M_fitPlane_280 kc ks loc ([.long x]) h = (kc = rm.cells ∧ Q (some (.long x)) h) := rfl
theorem s_M_fitPlane_281 {x : Nat} {l : eg_Lo} : wps rm K Q c_M_fitPlane_281 kc ks (some (.ref x) :: l) (st) h = wps rm K Q c_M_fitPlane_282 kc ks (some (.ref x) :: l) (.ref x :: st) h := rfl
theorem s_M_fitPlane_282 {x : Int32} {l0 l1 : Option Value} {l : eg_Lo} : wps rm K Q c_M_fitPlane_282 kc ks (l0 :: l1 :: some (.int x) :: l) (st) h = wps rm K Q c_M_fitPlane_283 kc ks (l0 :: l1 :: some (.int x) :: l) (.int x :: st) h := rfl
theorem s_M_fitPlane_283 {x : Int32} {l0 l1 l2 l3 l4 l5 l6 l7 : Option Value} {l : eg_Lo} : wps rm K Q c_M_fitPlane_283 kc ks (l0 :: l1 :: l2 :: l3 :: l4 :: l5 :: l6 :: l7 :: some (.int x) :: l) (st) h = wps rm K Q c_M_fitPlane_285 kc ks (l0 :: l1 :: l2 :: l3 :: l4 :: l5 :: l6 :: l7 :: some (.int x) :: l) (.int x :: st) h := rfl
theorem s_M_fitPlane_285 {x : Int32} {l0 l1 l2 l3 l4 l5 l6 l7 l8 : Option Value} {l : eg_Lo} : wps rm K Q c_M_fitPlane_285 kc ks (l0 :: l1 :: l2 :: l3 :: l4 :: l5 :: l6 :: l7 :: l8 :: some (.int x) :: l) (st) h = wps rm K Q c_M_fitPlane_287 kc ks (l0 :: l1 :: l2 :: l3 :: l4 :: l5 :: l6 :: l7 :: l8 :: some (.int x) :: l) (.int x :: st) h := rfl
theorem s_M_fitPlane_287 {x : Int32} {l0 l1 l2 l3 l4 l5 l6 l7 l8 l9 : Option Value} {l : eg_Lo} : wps rm K Q c_M_fitPlane_287 kc ks (l0 :: l1 :: l2 :: l3 :: l4 :: l5 :: l6 :: l7 :: l8 :: l9 :: some (.int x) :: l) (st) h = wps rm K Q c_M_fitPlane_289 kc ks (l0 :: l1 :: l2 :: l3 :: l4 :: l5 :: l6 :: l7 :: l8 :: l9 :: some (.int x) :: l) (.int x :: st) h := rfl
theorem s_M_fitPlane_289 {x : Int32} {l0 l1 l2 l3 l4 l5 l6 l7 l8 l9 l10 : Option Value} {l : eg_Lo} : wps rm K Q c_M_fitPlane_289 kc ks (l0 :: l1 :: l2 :: l3 :: l4 :: l5 :: l6 :: l7 :: l8 :: l9 :: l10 :: some (.int x) :: l) (st) h = wps rm K Q c_M_fitPlane_291 kc ks (l0 :: l1 :: l2 :: l3 :: l4 :: l5 :: l6 :: l7 :: l8 :: l9 :: l10 :: some (.int x) :: l) (.int x :: st) h := rfl
theorem s_M_fitPlane_291  {a1 : Value} {a2 : Value} {a3 : Value} {a4 : Value} {a5 : Value} {x : Nat} : wps rm K Q c_M_fitPlane_291 kc ks loc (a5 :: a4 :: a3 :: a2 :: a1 :: .ref (x + 1) :: st) h = (eg_cls h x 12 ∧ st.length ≤ 4 ∧ eg_Cs n_M_tellNormal (.ref (x + 1) :: [a1, a2, a3, a4, a5]) h (fun v h9 => wps rm K Q c_M_fitPlane_294 kc ks loc (v.toList ++ st) h9)) := eg_c1_5
theorem s_M_fitPlane_294 {x : Nat} {l : eg_Lo} : wps rm K Q c_M_fitPlane_294 kc ks (some (.ref x) :: l) (st) h = wps rm K Q c_M_fitPlane_295 kc ks (some (.ref x) :: l) (.ref x :: st) h := rfl
theorem s_M_fitPlane_295 {x : Int32} {l0 l1 : Option Value} {l : eg_Lo} : wps rm K Q c_M_fitPlane_295 kc ks (l0 :: l1 :: some (.int x) :: l) (st) h = wps rm K Q c_M_fitPlane_296 kc ks (l0 :: l1 :: some (.int x) :: l) (.int x :: st) h := rfl
theorem s_M_fitPlane_296 {x : Int32} {l0 l1 l2 l3 l4 l5 l6 l7 : Option Value} {l : eg_Lo} : wps rm K Q c_M_fitPlane_296 kc ks (l0 :: l1 :: l2 :: l3 :: l4 :: l5 :: l6 :: l7 :: some (.int x) :: l) (st) h = wps rm K Q c_M_fitPlane_298 kc ks (l0 :: l1 :: l2 :: l3 :: l4 :: l5 :: l6 :: l7 :: some (.int x) :: l) (.int x :: st) h := rfl
theorem s_M_fitPlane_298 {x : Nat} {l : eg_Lo} : wps rm K Q c_M_fitPlane_298 kc ks (some (.ref x) :: l) (st) h = wps rm K Q c_M_fitPlane_299 kc ks (some (.ref x) :: l) (.ref x :: st) h := rfl
theorem s_M_fitPlane_299 {x : Nat} : wps rm K Q c_M_fitPlane_299 kc ks loc (.ref (x + 1) :: st) h = eg_gf h x 12 33 (fun v => wps rm K Q c_M_fitPlane_302 kc ks loc (v :: st) h) := rfl
theorem s_M_fitPlane_302  : wps rm K Q c_M_fitPlane_302 kc ks loc (st) h = wps rm K Q c_M_fitPlane_303 kc ks loc (.int (0) :: st) h := rfl
theorem s_M_fitPlane_303 {x : Nat} {i : Int32} : wps rm K Q c_M_fitPlane_303 kc ks loc (.int i :: .ref (x + 1) :: st) h = eg_la h x i (fun v => wps rm K Q c_M_fitPlane_304 kc ks loc (.long v :: st) h) := rfl
theorem s_M_fitPlane_304 {x : Nat} {l : eg_Lo} : wps rm K Q c_M_fitPlane_304 kc ks (some (.ref x) :: l) (st) h = wps rm K Q c_M_fitPlane_305 kc ks (some (.ref x) :: l) (.ref x :: st) h := rfl
theorem s_M_fitPlane_305 {x : Nat} : wps rm K Q c_M_fitPlane_305 kc ks loc (.ref (x + 1) :: st) h = eg_gf h x 12 33 (fun v => wps rm K Q c_M_fitPlane_308 kc ks loc (v :: st) h) := rfl
theorem s_M_fitPlane_308  : wps rm K Q c_M_fitPlane_308 kc ks loc (st) h = wps rm K Q c_M_fitPlane_309 kc ks loc (.int (1) :: st) h := rfl
theorem s_M_fitPlane_309 {x : Nat} {i : Int32} : wps rm K Q c_M_fitPlane_309 kc ks loc (.int i :: .ref (x + 1) :: st) h = eg_la h x i (fun v => wps rm K Q c_M_fitPlane_310 kc ks loc (.long v :: st) h) := rfl
theorem s_M_fitPlane_310 {x : Nat} {l : eg_Lo} : wps rm K Q c_M_fitPlane_310 kc ks (some (.ref x) :: l) (st) h = wps rm K Q c_M_fitPlane_311 kc ks (some (.ref x) :: l) (.ref x :: st) h := rfl
theorem s_M_fitPlane_311 {x : Nat} : wps rm K Q c_M_fitPlane_311 kc ks loc (.ref (x + 1) :: st) h = eg_gf h x 12 33 (fun v => wps rm K Q c_M_fitPlane_314 kc ks loc (v :: st) h) := rfl
theorem s_M_fitPlane_314  : wps rm K Q c_M_fitPlane_314 kc ks loc (st) h = wps rm K Q c_M_fitPlane_315 kc ks loc (.int (2) :: st) h := rfl
theorem s_M_fitPlane_315 {x : Nat} {i : Int32} : wps rm K Q c_M_fitPlane_315 kc ks loc (.int i :: .ref (x + 1) :: st) h = eg_la h x i (fun v => wps rm K Q c_M_fitPlane_316 kc ks loc (.long v :: st) h) := rfl
theorem s_M_fitPlane_316  {a1 : Value} {a2 : Value} {a3 : Value} {a4 : Value} {a5 : Value} {x : Nat} : wps rm K Q c_M_fitPlane_316 kc ks loc (a5 :: a4 :: a3 :: a2 :: a1 :: .ref (x + 1) :: st) h = (eg_cls h x 12 ∧ st.length ≤ 4 ∧ eg_Cs n_M_crosses (.ref (x + 1) :: [a1, a2, a3, a4, a5]) h (fun v h9 => wps rm K Q c_M_fitPlane_319 kc ks loc (v.toList ++ st) h9)) := eg_c1_5
theorem s_M_fitPlane_319 {x : Nat} {l : eg_Lo} : wps rm K Q c_M_fitPlane_319 kc ks (some (.ref x) :: l) (st) h = wps rm K Q c_M_fitPlane_320 kc ks (some (.ref x) :: l) (.ref x :: st) h := rfl
theorem s_M_fitPlane_320 {x : Nat} : wps rm K Q c_M_fitPlane_320 kc ks loc (.ref (x + 1) :: st) h = eg_gf h x 12 7 (fun v => wps rm K Q c_M_fitPlane_323 kc ks loc (v :: st) h) := rfl
theorem s_M_fitPlane_323 {x : Int32} {l0 : Option Value} {l : eg_Lo} : wps rm K Q c_M_fitPlane_323 kc ks (l0 :: some (.int x) :: l) (st) h = wps rm K Q c_M_fitPlane_324 kc ks (l0 :: some (.int x) :: l) (.int x :: st) h := rfl
theorem s_M_fitPlane_324  : wps rm K Q c_M_fitPlane_324 kc ks loc (st) h = wps rm K Q c_M_fitPlane_325 kc ks loc (.int (3) :: st) h := rfl
theorem s_M_fitPlane_325 {x : Nat} {i : Int32} {v : Int32} : wps rm K Q c_M_fitPlane_325 kc ks loc (.int v :: .int i :: .ref (x + 1) :: st) h = eg_is h x i v (fun h9 => wps rm K Q c_M_fitPlane_326 kc ks loc (st) h9) := rfl
theorem s_M_fitPlane_326 {x : Nat} {l : eg_Lo} : wps rm K Q c_M_fitPlane_326 kc ks (some (.ref x) :: l) (st) h = wps rm K Q c_M_fitPlane_327 kc ks (some (.ref x) :: l) (.ref x :: st) h := rfl
theorem s_M_fitPlane_327 {x : Nat} : wps rm K Q c_M_fitPlane_327 kc ks loc (.ref (x + 1) :: st) h = eg_gf h x 12 8 (fun v => wps rm K Q c_M_fitPlane_330 kc ks loc (v :: st) h) := rfl
theorem s_M_fitPlane_330 {x : Int32} {l0 : Option Value} {l : eg_Lo} : wps rm K Q c_M_fitPlane_330 kc ks (l0 :: some (.int x) :: l) (st) h = wps rm K Q c_M_fitPlane_331 kc ks (l0 :: some (.int x) :: l) (.int x :: st) h := rfl
theorem s_M_fitPlane_331  : wps rm K Q c_M_fitPlane_331 kc ks loc (st) h = wps rm K Q c_M_fitPlane_333 kc ks loc (.int (6) :: st) h := rfl
theorem s_M_fitPlane_333 {x : Nat} {i : Int32} {v : Int32} : wps rm K Q c_M_fitPlane_333 kc ks loc (.int v :: .int i :: .ref (x + 1) :: st) h = eg_is h x i v (fun h9 => wps rm K Q c_M_fitPlane_334 kc ks loc (st) h9) := rfl
theorem s_M_fitPlane_334 {x : Nat} {l : eg_Lo} : wps rm K Q c_M_fitPlane_334 kc ks (some (.ref x) :: l) (st) h = wps rm K Q c_M_fitPlane_335 kc ks (some (.ref x) :: l) (.ref x :: st) h := rfl
theorem s_M_fitPlane_335 {x : Nat} : wps rm K Q c_M_fitPlane_335 kc ks loc (.ref (x + 1) :: st) h = eg_gf h x 12 9 (fun v => wps rm K Q c_M_fitPlane_338 kc ks loc (v :: st) h) := rfl
theorem s_M_fitPlane_338  : wps rm K Q c_M_fitPlane_338 kc ks loc (st) h = wps rm K Q c_M_fitPlane_340 kc ks loc (.int (6) :: st) h := rfl
theorem s_M_fitPlane_340 {x : Int32} {l0 : Option Value} {l : eg_Lo} : wps rm K Q c_M_fitPlane_340 kc ks (l0 :: some (.int x) :: l) (st) h = wps rm K Q c_M_fitPlane_341 kc ks (l0 :: some (.int x) :: l) (.int x :: st) h := rfl
theorem s_M_fitPlane_341 {x y : Int32} : wps rm K Q c_M_fitPlane_341 kc ks loc (.int y :: .int x :: st) h = wps rm K Q c_M_fitPlane_342 kc ks loc (.int (x * y) :: st) h := rfl
theorem s_M_fitPlane_342 {x : Int32} {l0 l1 l2 l3 l4 l5 l6 l7 : Option Value} {l : eg_Lo} : wps rm K Q c_M_fitPlane_342 kc ks (l0 :: l1 :: l2 :: l3 :: l4 :: l5 :: l6 :: l7 :: some (.int x) :: l) (st) h = wps rm K Q c_M_fitPlane_344 kc ks (l0 :: l1 :: l2 :: l3 :: l4 :: l5 :: l6 :: l7 :: some (.int x) :: l) (.int x :: st) h := rfl
theorem s_M_fitPlane_344 {x : Nat} {i : Int32} {v : Int32} : wps rm K Q c_M_fitPlane_344 kc ks loc (.int v :: .int i :: .ref (x + 1) :: st) h = eg_is h x i v (fun h9 => wps rm K Q c_M_fitPlane_345 kc ks loc (st) h9) := rfl
theorem s_M_fitPlane_345 {x : Nat} {l : eg_Lo} : wps rm K Q c_M_fitPlane_345 kc ks (some (.ref x) :: l) (st) h = wps rm K Q c_M_fitPlane_346 kc ks (some (.ref x) :: l) (.ref x :: st) h := rfl
theorem s_M_fitPlane_346 {x : Nat} : wps rm K Q c_M_fitPlane_346 kc ks loc (.ref (x + 1) :: st) h = eg_gf h x 12 9 (fun v => wps rm K Q c_M_fitPlane_349 kc ks loc (v :: st) h) := rfl
theorem s_M_fitPlane_349  : wps rm K Q c_M_fitPlane_349 kc ks loc (st) h = wps rm K Q c_M_fitPlane_351 kc ks loc (.int (6) :: st) h := rfl
theorem s_M_fitPlane_351 {x : Int32} {l0 : Option Value} {l : eg_Lo} : wps rm K Q c_M_fitPlane_351 kc ks (l0 :: some (.int x) :: l) (st) h = wps rm K Q c_M_fitPlane_352 kc ks (l0 :: some (.int x) :: l) (.int x :: st) h := rfl
theorem s_M_fitPlane_352 {x y : Int32} : wps rm K Q c_M_fitPlane_352 kc ks loc (.int y :: .int x :: st) h = wps rm K Q c_M_fitPlane_353 kc ks loc (.int (x * y) :: st) h := rfl
theorem s_M_fitPlane_353  : wps rm K Q c_M_fitPlane_353 kc ks loc (st) h = wps rm K Q c_M_fitPlane_354 kc ks loc (.int (1) :: st) h := rfl
theorem s_M_fitPlane_354 {x y : Int32} : wps rm K Q c_M_fitPlane_354 kc ks loc (.int y :: .int x :: st) h = wps rm K Q c_M_fitPlane_355 kc ks loc (.int (x + y) :: st) h := rfl
theorem s_M_fitPlane_355 {x : Int32} {l0 l1 l2 l3 l4 l5 l6 l7 l8 : Option Value} {l : eg_Lo} : wps rm K Q c_M_fitPlane_355 kc ks (l0 :: l1 :: l2 :: l3 :: l4 :: l5 :: l6 :: l7 :: l8 :: some (.int x) :: l) (st) h = wps rm K Q c_M_fitPlane_357 kc ks (l0 :: l1 :: l2 :: l3 :: l4 :: l5 :: l6 :: l7 :: l8 :: some (.int x) :: l) (.int x :: st) h := rfl
theorem s_M_fitPlane_357 {x : Nat} {i : Int32} {v : Int32} : wps rm K Q c_M_fitPlane_357 kc ks loc (.int v :: .int i :: .ref (x + 1) :: st) h = eg_is h x i v (fun h9 => wps rm K Q c_M_fitPlane_358 kc ks loc (st) h9) := rfl
theorem s_M_fitPlane_358 {x : Nat} {l : eg_Lo} : wps rm K Q c_M_fitPlane_358 kc ks (some (.ref x) :: l) (st) h = wps rm K Q c_M_fitPlane_359 kc ks (some (.ref x) :: l) (.ref x :: st) h := rfl
theorem s_M_fitPlane_359 {x : Nat} : wps rm K Q c_M_fitPlane_359 kc ks loc (.ref (x + 1) :: st) h = eg_gf h x 12 9 (fun v => wps rm K Q c_M_fitPlane_362 kc ks loc (v :: st) h) := rfl
theorem s_M_fitPlane_362  : wps rm K Q c_M_fitPlane_362 kc ks loc (st) h = wps rm K Q c_M_fitPlane_364 kc ks loc (.int (6) :: st) h := rfl
theorem s_M_fitPlane_364 {x : Int32} {l0 : Option Value} {l : eg_Lo} : wps rm K Q c_M_fitPlane_364 kc ks (l0 :: some (.int x) :: l) (st) h = wps rm K Q c_M_fitPlane_365 kc ks (l0 :: some (.int x) :: l) (.int x :: st) h := rfl
theorem s_M_fitPlane_365 {x y : Int32} : wps rm K Q c_M_fitPlane_365 kc ks loc (.int y :: .int x :: st) h = wps rm K Q c_M_fitPlane_366 kc ks loc (.int (x * y) :: st) h := rfl
theorem s_M_fitPlane_366  : wps rm K Q c_M_fitPlane_366 kc ks loc (st) h = wps rm K Q c_M_fitPlane_367 kc ks loc (.int (2) :: st) h := rfl
theorem s_M_fitPlane_367 {x y : Int32} : wps rm K Q c_M_fitPlane_367 kc ks loc (.int y :: .int x :: st) h = wps rm K Q c_M_fitPlane_368 kc ks loc (.int (x + y) :: st) h := rfl
theorem s_M_fitPlane_368 {x : Int32} {l0 l1 l2 l3 l4 l5 l6 l7 l8 l9 : Option Value} {l : eg_Lo} : wps rm K Q c_M_fitPlane_368 kc ks (l0 :: l1 :: l2 :: l3 :: l4 :: l5 :: l6 :: l7 :: l8 :: l9 :: some (.int x) :: l) (st) h = wps rm K Q c_M_fitPlane_370 kc ks (l0 :: l1 :: l2 :: l3 :: l4 :: l5 :: l6 :: l7 :: l8 :: l9 :: some (.int x) :: l) (.int x :: st) h := rfl
theorem s_M_fitPlane_370 {x : Nat} {i : Int32} {v : Int32} : wps rm K Q c_M_fitPlane_370 kc ks loc (.int v :: .int i :: .ref (x + 1) :: st) h = eg_is h x i v (fun h9 => wps rm K Q c_M_fitPlane_371 kc ks loc (st) h9) := rfl
theorem s_M_fitPlane_371 {x : Nat} {l : eg_Lo} : wps rm K Q c_M_fitPlane_371 kc ks (some (.ref x) :: l) (st) h = wps rm K Q c_M_fitPlane_372 kc ks (some (.ref x) :: l) (.ref x :: st) h := rfl
theorem s_M_fitPlane_372 {x : Nat} : wps rm K Q c_M_fitPlane_372 kc ks loc (.ref (x + 1) :: st) h = eg_gf h x 12 9 (fun v => wps rm K Q c_M_fitPlane_375 kc ks loc (v :: st) h) := rfl
theorem s_M_fitPlane_375  : wps rm K Q c_M_fitPlane_375 kc ks loc (st) h = wps rm K Q c_M_fitPlane_377 kc ks loc (.int (6) :: st) h := rfl
theorem s_M_fitPlane_377 {x : Int32} {l0 : Option Value} {l : eg_Lo} : wps rm K Q c_M_fitPlane_377 kc ks (l0 :: some (.int x) :: l) (st) h = wps rm K Q c_M_fitPlane_378 kc ks (l0 :: some (.int x) :: l) (.int x :: st) h := rfl
theorem s_M_fitPlane_378 {x y : Int32} : wps rm K Q c_M_fitPlane_378 kc ks loc (.int y :: .int x :: st) h = wps rm K Q c_M_fitPlane_379 kc ks loc (.int (x * y) :: st) h := rfl
theorem s_M_fitPlane_379  : wps rm K Q c_M_fitPlane_379 kc ks loc (st) h = wps rm K Q c_M_fitPlane_380 kc ks loc (.int (3) :: st) h := rfl
theorem s_M_fitPlane_380 {x y : Int32} : wps rm K Q c_M_fitPlane_380 kc ks loc (.int y :: .int x :: st) h = wps rm K Q c_M_fitPlane_381 kc ks loc (.int (x + y) :: st) h := rfl
theorem s_M_fitPlane_381 {x : Int32} {l0 l1 l2 l3 l4 l5 l6 l7 l8 l9 l10 : Option Value} {l : eg_Lo} : wps rm K Q c_M_fitPlane_381 kc ks (l0 :: l1 :: l2 :: l3 :: l4 :: l5 :: l6 :: l7 :: l8 :: l9 :: l10 :: some (.int x) :: l) (st) h = wps rm K Q c_M_fitPlane_383 kc ks (l0 :: l1 :: l2 :: l3 :: l4 :: l5 :: l6 :: l7 :: l8 :: l9 :: l10 :: some (.int x) :: l) (.int x :: st) h := rfl
theorem s_M_fitPlane_383 {x : Nat} {i : Int32} {v : Int32} : wps rm K Q c_M_fitPlane_383 kc ks loc (.int v :: .int i :: .ref (x + 1) :: st) h = eg_is h x i v (fun h9 => wps rm K Q c_M_fitPlane_384 kc ks loc (st) h9) := rfl
theorem s_M_fitPlane_384 {x : Nat} {l : eg_Lo} : wps rm K Q c_M_fitPlane_384 kc ks (some (.ref x) :: l) (st) h = wps rm K Q c_M_fitPlane_385 kc ks (some (.ref x) :: l) (.ref x :: st) h := rfl
theorem s_M_fitPlane_385 {x : Nat} : wps rm K Q c_M_fitPlane_385 kc ks loc (.ref (x + 1) :: st) h = eg_gf h x 12 9 (fun v => wps rm K Q c_M_fitPlane_388 kc ks loc (v :: st) h) := rfl
theorem s_M_fitPlane_388  : wps rm K Q c_M_fitPlane_388 kc ks loc (st) h = wps rm K Q c_M_fitPlane_390 kc ks loc (.int (6) :: st) h := rfl
theorem s_M_fitPlane_390 {x : Int32} {l0 : Option Value} {l : eg_Lo} : wps rm K Q c_M_fitPlane_390 kc ks (l0 :: some (.int x) :: l) (st) h = wps rm K Q c_M_fitPlane_391 kc ks (l0 :: some (.int x) :: l) (.int x :: st) h := rfl
theorem s_M_fitPlane_391 {x y : Int32} : wps rm K Q c_M_fitPlane_391 kc ks loc (.int y :: .int x :: st) h = wps rm K Q c_M_fitPlane_392 kc ks loc (.int (x * y) :: st) h := rfl
theorem s_M_fitPlane_392  : wps rm K Q c_M_fitPlane_392 kc ks loc (st) h = wps rm K Q c_M_fitPlane_393 kc ks loc (.int (4) :: st) h := rfl
theorem s_M_fitPlane_393 {x y : Int32} : wps rm K Q c_M_fitPlane_393 kc ks loc (.int y :: .int x :: st) h = wps rm K Q c_M_fitPlane_394 kc ks loc (.int (x + y) :: st) h := rfl
theorem s_M_fitPlane_394 {x : Nat} {l : eg_Lo} : wps rm K Q c_M_fitPlane_394 kc ks (some (.ref x) :: l) (st) h = wps rm K Q c_M_fitPlane_395 kc ks (some (.ref x) :: l) (.ref x :: st) h := rfl
theorem s_M_fitPlane_395 {x : Nat} : wps rm K Q c_M_fitPlane_395 kc ks loc (.ref (x + 1) :: st) h = eg_gf h x 12 31 (fun v => wps rm K Q c_M_fitPlane_398 kc ks loc (v :: st) h) := rfl
theorem s_M_fitPlane_398 {x : Nat} {i : Int32} {v : Int32} : wps rm K Q c_M_fitPlane_398 kc ks loc (.int v :: .int i :: .ref (x + 1) :: st) h = eg_is h x i v (fun h9 => wps rm K Q c_M_fitPlane_399 kc ks loc (st) h9) := rfl
theorem s_M_fitPlane_399 {x : Nat} {l : eg_Lo} : wps rm K Q c_M_fitPlane_399 kc ks (some (.ref x) :: l) (st) h = wps rm K Q c_M_fitPlane_400 kc ks (some (.ref x) :: l) (.ref x :: st) h := rfl
theorem s_M_fitPlane_400 {x : Nat} : wps rm K Q c_M_fitPlane_400 kc ks loc (.ref (x + 1) :: st) h = eg_gf h x 12 9 (fun v => wps rm K Q c_M_fitPlane_403 kc ks loc (v :: st) h) := rfl
theorem s_M_fitPlane_403  : wps rm K Q c_M_fitPlane_403 kc ks loc (st) h = wps rm K Q c_M_fitPlane_405 kc ks loc (.int (6) :: st) h := rfl
theorem s_M_fitPlane_405 {x : Int32} {l0 : Option Value} {l : eg_Lo} : wps rm K Q c_M_fitPlane_405 kc ks (l0 :: some (.int x) :: l) (st) h = wps rm K Q c_M_fitPlane_406 kc ks (l0 :: some (.int x) :: l) (.int x :: st) h := rfl
theorem s_M_fitPlane_406 {x y : Int32} : wps rm K Q c_M_fitPlane_406 kc ks loc (.int y :: .int x :: st) h = wps rm K Q c_M_fitPlane_407 kc ks loc (.int (x * y) :: st) h := rfl
theorem s_M_fitPlane_407  : wps rm K Q c_M_fitPlane_407 kc ks loc (st) h = wps rm K Q c_M_fitPlane_408 kc ks loc (.int (5) :: st) h := rfl
theorem s_M_fitPlane_408 {x y : Int32} : wps rm K Q c_M_fitPlane_408 kc ks loc (.int y :: .int x :: st) h = wps rm K Q c_M_fitPlane_409 kc ks loc (.int (x + y) :: st) h := rfl
theorem s_M_fitPlane_409 {x : Nat} {l : eg_Lo} : wps rm K Q c_M_fitPlane_409 kc ks (some (.ref x) :: l) (st) h = wps rm K Q c_M_fitPlane_410 kc ks (some (.ref x) :: l) (.ref x :: st) h := rfl
theorem s_M_fitPlane_410 {x : Nat} : wps rm K Q c_M_fitPlane_410 kc ks loc (.ref (x + 1) :: st) h = eg_gf h x 12 32 (fun v => wps rm K Q c_M_fitPlane_413 kc ks loc (v :: st) h) := rfl
theorem s_M_fitPlane_413 {x : Nat} {i : Int32} {v : Int32} : wps rm K Q c_M_fitPlane_413 kc ks loc (.int v :: .int i :: .ref (x + 1) :: st) h = eg_is h x i v (fun h9 => wps rm K Q c_M_fitPlane_414 kc ks loc (st) h9) := rfl
theorem s_M_fitPlane_414 {x : Nat} {l : eg_Lo} : wps rm K Q c_M_fitPlane_414 kc ks (some (.ref x) :: l) (st) h = wps rm K Q c_M_fitPlane_415 kc ks (some (.ref x) :: l) (.ref x :: st) h := rfl
theorem s_M_fitPlane_415 {x : Int32} {l0 : Option Value} {l : eg_Lo} : wps rm K Q c_M_fitPlane_415 kc ks (l0 :: some (.int x) :: l) (st) h = wps rm K Q c_M_fitPlane_416 kc ks (l0 :: some (.int x) :: l) (.int x :: st) h := rfl
theorem s_M_fitPlane_416 {x : Int64} {l0 l1 l2 l3 : Option Value} {l : eg_Lo} : wps rm K Q c_M_fitPlane_416 kc ks (l0 :: l1 :: l2 :: l3 :: some (.long x) :: l) (st) h = wps rm K Q c_M_fitPlane_418 kc ks (l0 :: l1 :: l2 :: l3 :: some (.long x) :: l) (.long x :: st) h := rfl
theorem s_M_fitPlane_418 {x : Int64} {l0 l1 l2 l3 l4 l5 : Option Value} {l : eg_Lo} : wps rm K Q c_M_fitPlane_418 kc ks (l0 :: l1 :: l2 :: l3 :: l4 :: l5 :: some (.long x) :: l) (st) h = wps rm K Q c_M_fitPlane_420 kc ks (l0 :: l1 :: l2 :: l3 :: l4 :: l5 :: some (.long x) :: l) (.long x :: st) h := rfl
theorem s_M_fitPlane_420  {a1 : Value} {a2 : Value} {a3 : Value} {x : Nat} : wps rm K Q c_M_fitPlane_420 kc ks loc (a3 :: a2 :: a1 :: .ref (x + 1) :: st) h = (eg_cls h x 12 ∧ st.length ≤ 4 ∧ eg_Cs n_M_keepMiss (.ref (x + 1) :: [a1, a2, a3]) h (fun v h9 => wps rm K Q c_M_fitPlane_423 kc ks loc (v.toList ++ st) h9)) := eg_c1_3
theorem s_M_fitPlane_423 {x : Nat} {l : eg_Lo} : wps rm K Q c_M_fitPlane_423 kc ks (some (.ref x) :: l) (st) h = wps rm K Q c_M_fitPlane_424 kc ks (some (.ref x) :: l) (.ref x :: st) h := rfl
theorem s_M_fitPlane_424 {x : Nat} : wps rm K Q c_M_fitPlane_424 kc ks loc (.ref (x + 1) :: st) h = eg_gf h x 12 33 (fun v => wps rm K Q c_M_fitPlane_427 kc ks loc (v :: st) h) := rfl
theorem s_M_fitPlane_427  : wps rm K Q c_M_fitPlane_427 kc ks loc (st) h = wps rm K Q c_M_fitPlane_428 kc ks loc (.int (0) :: st) h := rfl
theorem s_M_fitPlane_428 {x : Nat} {i : Int32} : wps rm K Q c_M_fitPlane_428 kc ks loc (.int i :: .ref (x + 1) :: st) h = eg_la h x i (fun v => wps rm K Q c_M_fitPlane_429 kc ks loc (.long v :: st) h) := rfl
theorem s_M_fitPlane_429 {x : Nat} {l : eg_Lo} : wps rm K Q c_M_fitPlane_429 kc ks (some (.ref x) :: l) (st) h = wps rm K Q c_M_fitPlane_430 kc ks (some (.ref x) :: l) (.ref x :: st) h := rfl
theorem s_M_fitPlane_430 {x : Nat} : wps rm K Q c_M_fitPlane_430 kc ks loc (.ref (x + 1) :: st) h = eg_gf h x 12 33 (fun v => wps rm K Q c_M_fitPlane_433 kc ks loc (v :: st) h) := rfl
theorem s_M_fitPlane_433  : wps rm K Q c_M_fitPlane_433 kc ks loc (st) h = wps rm K Q c_M_fitPlane_434 kc ks loc (.int (1) :: st) h := rfl
theorem s_M_fitPlane_434 {x : Nat} {i : Int32} : wps rm K Q c_M_fitPlane_434 kc ks loc (.int i :: .ref (x + 1) :: st) h = eg_la h x i (fun v => wps rm K Q c_M_fitPlane_435 kc ks loc (.long v :: st) h) := rfl
theorem s_M_fitPlane_435 {x : Nat} {l : eg_Lo} : wps rm K Q c_M_fitPlane_435 kc ks (some (.ref x) :: l) (st) h = wps rm K Q c_M_fitPlane_436 kc ks (some (.ref x) :: l) (.ref x :: st) h := rfl
theorem s_M_fitPlane_436 {x : Nat} : wps rm K Q c_M_fitPlane_436 kc ks loc (.ref (x + 1) :: st) h = eg_gf h x 12 33 (fun v => wps rm K Q c_M_fitPlane_439 kc ks loc (v :: st) h) := rfl
theorem s_M_fitPlane_439  : wps rm K Q c_M_fitPlane_439 kc ks loc (st) h = wps rm K Q c_M_fitPlane_440 kc ks loc (.int (2) :: st) h := rfl
theorem s_M_fitPlane_440 {x : Nat} {i : Int32} : wps rm K Q c_M_fitPlane_440 kc ks loc (.int i :: .ref (x + 1) :: st) h = eg_la h x i (fun v => wps rm K Q c_M_fitPlane_441 kc ks loc (.long v :: st) h) := rfl
theorem s_M_fitPlane_441 {x : Nat} {l : eg_Lo} : wps rm K Q c_M_fitPlane_441 kc ks (some (.ref x) :: l) (st) h = wps rm K Q c_M_fitPlane_442 kc ks (some (.ref x) :: l) (.ref x :: st) h := rfl
theorem s_M_fitPlane_442 {x : Nat} : wps rm K Q c_M_fitPlane_442 kc ks loc (.ref (x + 1) :: st) h = eg_gf h x 12 12 (fun v => wps rm K Q c_M_fitPlane_445 kc ks loc (v :: st) h) := rfl
theorem s_M_fitPlane_445  : wps rm K Q c_M_fitPlane_445 kc ks loc (st) h = wps rm K Q c_M_fitPlane_446 kc ks loc (.int (3) :: st) h := rfl
theorem s_M_fitPlane_446 {x : Int32} {l0 : Option Value} {l : eg_Lo} : wps rm K Q c_M_fitPlane_446 kc ks (l0 :: some (.int x) :: l) (st) h = wps rm K Q c_M_fitPlane_447 kc ks (l0 :: some (.int x) :: l) (.int x :: st) h := rfl
theorem s_M_fitPlane_447 {x y : Int32} : wps rm K Q c_M_fitPlane_447 kc ks loc (.int y :: .int x :: st) h = wps rm K Q c_M_fitPlane_448 kc ks loc (.int (x * y) :: st) h := rfl
theorem s_M_fitPlane_448  : wps rm K Q c_M_fitPlane_448 kc ks loc (st) h = wps rm K Q c_M_fitPlane_449 kc ks loc (.int (1) :: st) h := rfl
theorem s_M_fitPlane_449  {a1 : Value} {a2 : Value} {a3 : Value} {a4 : Value} {a5 : Value} {a6 : Value} : wps rm K Q c_M_fitPlane_449 kc ks loc (a6 :: a5 :: a4 :: a3 :: a2 :: a1 :: st) h = (st.length ≤ 4 ∧ eg_Cs n_M_lowest [a1, a2, a3, a4, a5, a6] h (fun v h9 => wps rm K Q c_M_fitPlane_452 kc ks loc (v.toList ++ st) h9)) := eg_c0_6
theorem s_M_fitPlane_452  : wps rm K Q c_M_fitPlane_452 kc ks loc (st) h = wps rm K Q c_M_fitPlane_455 kc ks loc (.long (6) :: st) h := rfl
theorem s_M_fitPlane_455 {x : Int64} : wps rm K Q c_M_fitPlane_455 kc ks loc ([.long x]) h = (kc = rm.cells ∧ Q (some (.long x)) h) := rfl
def T_M_fitPlane : List (Nat × List eg_I) := [(96, c_M_fitPlane_96), (100, c_M_fitPlane_100), (219, c_M_fitPlane_219), (245, c_M_fitPlane_245), (251, c_M_fitPlane_251), (257, c_M_fitPlane_257), (263, c_M_fitPlane_263), (269, c_M_fitPlane_269), (281, c_M_fitPlane_281)]
theorem j_M_fitPlane_96 {R : Nat → Nat → Nat → eg_Lo → List Value → List eg_E → Prop} {f pc0 : Nat} : eg_run rm R Q T_M_fitPlane (f + 1) 96 kc ks loc st h = wps rm (eg_run rm R Q T_M_fitPlane f) Q c_M_fitPlane_96 kc ks loc st h := rfl
theorem j_M_fitPlane_100 {R : Nat → Nat → Nat → eg_Lo → List Value → List eg_E → Prop} {f pc0 : Nat} : eg_run rm R Q T_M_fitPlane (f + 1) 100 kc ks loc st h = wps rm (eg_run rm R Q T_M_fitPlane f) Q c_M_fitPlane_100 kc ks loc st h := rfl
theorem j_M_fitPlane_219 {R : Nat → Nat → Nat → eg_Lo → List Value → List eg_E → Prop} {f pc0 : Nat} : eg_run rm R Q T_M_fitPlane (f + 1) 219 kc ks loc st h = wps rm (eg_run rm R Q T_M_fitPlane f) Q c_M_fitPlane_219 kc ks loc st h := rfl
theorem j_M_fitPlane_245 {R : Nat → Nat → Nat → eg_Lo → List Value → List eg_E → Prop} {f pc0 : Nat} : eg_run rm R Q T_M_fitPlane (f + 1) 245 kc ks loc st h = wps rm (eg_run rm R Q T_M_fitPlane f) Q c_M_fitPlane_245 kc ks loc st h := rfl
theorem j_M_fitPlane_251 {R : Nat → Nat → Nat → eg_Lo → List Value → List eg_E → Prop} {f pc0 : Nat} : eg_run rm R Q T_M_fitPlane (f + 1) 251 kc ks loc st h = wps rm (eg_run rm R Q T_M_fitPlane f) Q c_M_fitPlane_251 kc ks loc st h := rfl
theorem j_M_fitPlane_257 {R : Nat → Nat → Nat → eg_Lo → List Value → List eg_E → Prop} {f pc0 : Nat} : eg_run rm R Q T_M_fitPlane (f + 1) 257 kc ks loc st h = wps rm (eg_run rm R Q T_M_fitPlane f) Q c_M_fitPlane_257 kc ks loc st h := rfl
theorem j_M_fitPlane_263 {R : Nat → Nat → Nat → eg_Lo → List Value → List eg_E → Prop} {f pc0 : Nat} : eg_run rm R Q T_M_fitPlane (f + 1) 263 kc ks loc st h = wps rm (eg_run rm R Q T_M_fitPlane f) Q c_M_fitPlane_263 kc ks loc st h := rfl
theorem j_M_fitPlane_269 {R : Nat → Nat → Nat → eg_Lo → List Value → List eg_E → Prop} {f pc0 : Nat} : eg_run rm R Q T_M_fitPlane (f + 1) 269 kc ks loc st h = wps rm (eg_run rm R Q T_M_fitPlane f) Q c_M_fitPlane_269 kc ks loc st h := rfl
theorem j_M_fitPlane_281 {R : Nat → Nat → Nat → eg_Lo → List Value → List eg_E → Prop} {f pc0 : Nat} : eg_run rm R Q T_M_fitPlane (f + 1) 281 kc ks loc st h = wps rm (eg_run rm R Q T_M_fitPlane f) Q c_M_fitPlane_281 kc ks loc st h := rfl
theorem j_M_fitPlane_31 {R : Nat → Nat → Nat → eg_Lo → List Value → List eg_E → Prop} {f pc0 : Nat} : eg_run rm R Q T_M_fitPlane (f + 1) 31 kc ks loc st h = R 31 kc ks loc st h := rfl
theorem j_M_fitPlane_44 {R : Nat → Nat → Nat → eg_Lo → List Value → List eg_E → Prop} {f pc0 : Nat} : eg_run rm R Q T_M_fitPlane (f + 1) 44 kc ks loc st h = R 44 kc ks loc st h := rfl
theorem j_M_fitPlane_65 {R : Nat → Nat → Nat → eg_Lo → List Value → List eg_E → Prop} {f pc0 : Nat} : eg_run rm R Q T_M_fitPlane (f + 1) 65 kc ks loc st h = R 65 kc ks loc st h := rfl
theorem j_M_fitPlane_102 {R : Nat → Nat → Nat → eg_Lo → List Value → List eg_E → Prop} {f pc0 : Nat} : eg_run rm R Q T_M_fitPlane (f + 1) 102 kc ks loc st h = R 102 kc ks loc st h := rfl
end
theorem q_M_fitPlane : (T_M_fitPlane.all fun q => eg_seq m_M_fitPlane q.1 q.2) = true := by decide +kernel
theorem b_M_fitPlane {as : List Value} {h : List eg_E} {Q : Option Value → List eg_E → Prop} (hf : (eg_fl as).length ≤ 21) (hw : wps (eg_rm m_M_fitPlane) (eg_run (eg_rm m_M_fitPlane) (eg_R m_M_fitPlane Q (h.length + 0)) Q T_M_fitPlane 11) Q c_M_fitPlane_0 0 0 (eg_entry 21 as) [] h) : eg_Runs n_M_fitPlane as h Q := eg_begin (d := m_M_fitPlane) rfl (by decide) (by decide +kernel) q_M_fitPlane hf hw
theorem p_M_fitPlane_31 {Q : Option Value → List eg_E → Prop} {n0 kc ks : Nat} {loc : eg_Lo} {st : List Value} {h : List eg_E} (hw : wps (eg_rm m_M_fitPlane) (eg_run (eg_rm m_M_fitPlane) (eg_R m_M_fitPlane Q n0) Q T_M_fitPlane 11) Q c_M_fitPlane_31 kc ks loc st h) : eg_R m_M_fitPlane Q n0 31 kc ks loc st h := eg_go (by decide +kernel) q_M_fitPlane hw
theorem p_M_fitPlane_44 {Q : Option Value → List eg_E → Prop} {n0 kc ks : Nat} {loc : eg_Lo} {st : List Value} {h : List eg_E} (hw : wps (eg_rm m_M_fitPlane) (eg_run (eg_rm m_M_fitPlane) (eg_R m_M_fitPlane Q n0) Q T_M_fitPlane 11) Q c_M_fitPlane_44 kc ks loc st h) : eg_R m_M_fitPlane Q n0 44 kc ks loc st h := eg_go (by decide +kernel) q_M_fitPlane hw
theorem p_M_fitPlane_65 {Q : Option Value → List eg_E → Prop} {n0 kc ks : Nat} {loc : eg_Lo} {st : List Value} {h : List eg_E} (hw : wps (eg_rm m_M_fitPlane) (eg_run (eg_rm m_M_fitPlane) (eg_R m_M_fitPlane Q n0) Q T_M_fitPlane 11) Q c_M_fitPlane_65 kc ks loc st h) : eg_R m_M_fitPlane Q n0 65 kc ks loc st h := eg_go (by decide +kernel) q_M_fitPlane hw
theorem p_M_fitPlane_102 {Q : Option Value → List eg_E → Prop} {n0 kc ks : Nat} {loc : eg_Lo} {st : List Value} {h : List eg_E} (hw : wps (eg_rm m_M_fitPlane) (eg_run (eg_rm m_M_fitPlane) (eg_R m_M_fitPlane Q n0) Q T_M_fitPlane 11) Q c_M_fitPlane_102 kc ks loc st h) : eg_R m_M_fitPlane Q n0 102 kc ks loc st h := eg_go (by decide +kernel) q_M_fitPlane hw
/-! ===== M_isRoundOf ===== -/
def c_M_isRoundOf_133 : List eg_I := .inl (133, 1, .ireturn, 0, 1) :: []
def c_M_isRoundOf_131 : List eg_I := .inl (131, 2, .iload 4, 0, 0) :: c_M_isRoundOf_133
def c_M_isRoundOf_128 : List eg_I := .inl (128, 3, .goto (-108), 20, 0) :: []
def c_M_isRoundOf_125 : List eg_I := .inl (125, 3, .iinc 7 (1), 0, 0) :: c_M_isRoundOf_128
def c_M_isRoundOf_123 : List eg_I := .inl (123, 2, .istore 4, 0, 0) :: c_M_isRoundOf_125
def c_M_isRoundOf_122 : List eg_I := .inl (122, 1, .iand, 0, 0) :: c_M_isRoundOf_123
def c_M_isRoundOf_121 : List eg_I := .inl (121, 1, .iconst (0), 0, 0) :: c_M_isRoundOf_122
def c_M_isRoundOf_118 : List eg_I := .inl (118, 3, .goto (4), 122, 0) :: []
def c_M_isRoundOf_117 : List eg_I := .inl (117, 1, .iconst (1), 0, 0) :: c_M_isRoundOf_118
def c_M_isRoundOf_114 : List eg_I := .inl (114, 3, .ifCond .gt (7), 121, 0) :: c_M_isRoundOf_117
def c_M_isRoundOf_113 : List eg_I := .inl (113, 1, .iadd, 0, 0) :: c_M_isRoundOf_114
def c_M_isRoundOf_112 : List eg_I := .inl (112, 1, .imul, 0, 0) :: c_M_isRoundOf_113
def c_M_isRoundOf_111 : List eg_I := .inl (111, 1, .isub, 0, 0) :: c_M_isRoundOf_112
def c_M_isRoundOf_110 : List eg_I := .inl (110, 1, .iaload, 0, 0) :: c_M_isRoundOf_111
def c_M_isRoundOf_108 : List eg_I := .inl (108, 2, .iload 6, 0, 0) :: c_M_isRoundOf_110
def c_M_isRoundOf_105 : List eg_I := .inl (105, 3, .getfield 16, 12, 2) :: c_M_isRoundOf_108
def c_M_isRoundOf_104 : List eg_I := .inl (104, 1, .aload 0, 0, 0) :: c_M_isRoundOf_105
def c_M_isRoundOf_103 : List eg_I := .inl (103, 1, .iaload, 0, 0) :: c_M_isRoundOf_104
def c_M_isRoundOf_101 : List eg_I := .inl (101, 2, .iload 8, 0, 0) :: c_M_isRoundOf_103
def c_M_isRoundOf_98 : List eg_I := .inl (98, 3, .getfield 16, 12, 2) :: c_M_isRoundOf_101
def c_M_isRoundOf_97 : List eg_I := .inl (97, 1, .aload 0, 0, 0) :: c_M_isRoundOf_98
def c_M_isRoundOf_96 : List eg_I := .inl (96, 1, .isub, 0, 0) :: c_M_isRoundOf_97
def c_M_isRoundOf_95 : List eg_I := .inl (95, 1, .iaload, 0, 0) :: c_M_isRoundOf_96
def c_M_isRoundOf_93 : List eg_I := .inl (93, 2, .iload 5, 0, 0) :: c_M_isRoundOf_95
def c_M_isRoundOf_90 : List eg_I := .inl (90, 3, .getfield 16, 12, 2) :: c_M_isRoundOf_93
def c_M_isRoundOf_89 : List eg_I := .inl (89, 1, .aload 0, 0, 0) :: c_M_isRoundOf_90
def c_M_isRoundOf_88 : List eg_I := .inl (88, 1, .iaload, 0, 0) :: c_M_isRoundOf_89
def c_M_isRoundOf_86 : List eg_I := .inl (86, 2, .iload 8, 0, 0) :: c_M_isRoundOf_88
def c_M_isRoundOf_83 : List eg_I := .inl (83, 3, .getfield 16, 12, 2) :: c_M_isRoundOf_86
def c_M_isRoundOf_82 : List eg_I := .inl (82, 1, .aload 0, 0, 0) :: c_M_isRoundOf_83
def c_M_isRoundOf_81 : List eg_I := .inl (81, 1, .imul, 0, 0) :: c_M_isRoundOf_82
def c_M_isRoundOf_80 : List eg_I := .inl (80, 1, .isub, 0, 0) :: c_M_isRoundOf_81
def c_M_isRoundOf_79 : List eg_I := .inl (79, 1, .iaload, 0, 0) :: c_M_isRoundOf_80
def c_M_isRoundOf_77 : List eg_I := .inl (77, 2, .iload 6, 0, 0) :: c_M_isRoundOf_79
def c_M_isRoundOf_74 : List eg_I := .inl (74, 3, .getfield 13, 12, 1) :: c_M_isRoundOf_77
def c_M_isRoundOf_73 : List eg_I := .inl (73, 1, .aload 0, 0, 0) :: c_M_isRoundOf_74
def c_M_isRoundOf_72 : List eg_I := .inl (72, 1, .iaload, 0, 0) :: c_M_isRoundOf_73
def c_M_isRoundOf_70 : List eg_I := .inl (70, 2, .iload 8, 0, 0) :: c_M_isRoundOf_72
def c_M_isRoundOf_67 : List eg_I := .inl (67, 3, .getfield 13, 12, 1) :: c_M_isRoundOf_70
def c_M_isRoundOf_66 : List eg_I := .inl (66, 1, .aload 0, 0, 0) :: c_M_isRoundOf_67
def c_M_isRoundOf_65 : List eg_I := .inl (65, 1, .isub, 0, 0) :: c_M_isRoundOf_66
def c_M_isRoundOf_64 : List eg_I := .inl (64, 1, .iaload, 0, 0) :: c_M_isRoundOf_65
def c_M_isRoundOf_62 : List eg_I := .inl (62, 2, .iload 5, 0, 0) :: c_M_isRoundOf_64
def c_M_isRoundOf_59 : List eg_I := .inl (59, 3, .getfield 13, 12, 1) :: c_M_isRoundOf_62
def c_M_isRoundOf_58 : List eg_I := .inl (58, 1, .aload 0, 0, 0) :: c_M_isRoundOf_59
def c_M_isRoundOf_57 : List eg_I := .inl (57, 1, .iaload, 0, 0) :: c_M_isRoundOf_58
def c_M_isRoundOf_55 : List eg_I := .inl (55, 2, .iload 8, 0, 0) :: c_M_isRoundOf_57
def c_M_isRoundOf_52 : List eg_I := .inl (52, 3, .getfield 13, 12, 1) :: c_M_isRoundOf_55
def c_M_isRoundOf_51 : List eg_I := .inl (51, 1, .aload 0, 0, 0) :: c_M_isRoundOf_52
def c_M_isRoundOf_48 : List eg_I := .inl (48, 3, .ifCond .ne (69), 117, 0) :: c_M_isRoundOf_51
def c_M_isRoundOf_47 : List eg_I := .inl (47, 1, .baload, 0, 0) :: c_M_isRoundOf_48
def c_M_isRoundOf_45 : List eg_I := .inl (45, 2, .iload 8, 0, 0) :: c_M_isRoundOf_47
def c_M_isRoundOf_42 : List eg_I := .inl (42, 3, .getfield 22, 12, 4) :: c_M_isRoundOf_45
def c_M_isRoundOf_41 : List eg_I := .inl (41, 1, .aload 0, 0, 0) :: c_M_isRoundOf_42
def c_M_isRoundOf_39 : List eg_I := .inl (39, 2, .iload 4, 0, 0) :: c_M_isRoundOf_41
def c_M_isRoundOf_37 : List eg_I := .inl (37, 2, .istore 8, 0, 0) :: c_M_isRoundOf_39
def c_M_isRoundOf_34 : List eg_I := .inr (34, 0, 103, n_M_at_II, 2, 12, 0, 0) :: c_M_isRoundOf_37
def c_M_isRoundOf_32 : List eg_I := .inl (32, 2, .iload 7, 0, 0) :: c_M_isRoundOf_34
def c_M_isRoundOf_31 : List eg_I := .inl (31, 1, .iload 1, 0, 0) :: c_M_isRoundOf_32
def c_M_isRoundOf_28 : List eg_I := .inl (28, 3, .if_icmp .ge (103), 131, 0) :: c_M_isRoundOf_31
def c_M_isRoundOf_27 : List eg_I := .inl (27, 1, .iaload, 0, 0) :: c_M_isRoundOf_28
def c_M_isRoundOf_26 : List eg_I := .inl (26, 1, .iload 1, 0, 0) :: c_M_isRoundOf_27
def c_M_isRoundOf_23 : List eg_I := .inl (23, 3, .getfield 9, 12, 0) :: c_M_isRoundOf_26
def c_M_isRoundOf_22 : List eg_I := .inl (22, 1, .aload 0, 0, 0) :: c_M_isRoundOf_23
def c_M_isRoundOf_20 : List eg_I := .inl (20, 2, .iload 7, 0, 0) :: c_M_isRoundOf_22
def c_M_isRoundOf_18 : List eg_I := .inl (18, 2, .istore 7, 0, 0) :: [.inl (20, 0, .nop, 0, 0)]
def c_M_isRoundOf_17 : List eg_I := .inl (17, 1, .iconst (0), 0, 0) :: c_M_isRoundOf_18
def c_M_isRoundOf_15 : List eg_I := .inl (15, 2, .istore 6, 0, 0) :: c_M_isRoundOf_17
def c_M_isRoundOf_12 : List eg_I := .inr (12, 0, 103, n_M_at_II, 2, 12, 0, 0) :: c_M_isRoundOf_15
def c_M_isRoundOf_11 : List eg_I := .inl (11, 1, .iload 3, 0, 0) :: c_M_isRoundOf_12
def c_M_isRoundOf_10 : List eg_I := .inl (10, 1, .iload 1, 0, 0) :: c_M_isRoundOf_11
def c_M_isRoundOf_8 : List eg_I := .inl (8, 2, .istore 5, 0, 0) :: c_M_isRoundOf_10
def c_M_isRoundOf_5 : List eg_I := .inr (5, 0, 103, n_M_at_II, 2, 12, 0, 0) :: c_M_isRoundOf_8
def c_M_isRoundOf_4 : List eg_I := .inl (4, 1, .iload 2, 0, 0) :: c_M_isRoundOf_5
def c_M_isRoundOf_3 : List eg_I := .inl (3, 1, .iload 1, 0, 0) :: c_M_isRoundOf_4
def c_M_isRoundOf_1 : List eg_I := .inl (1, 2, .istore 4, 0, 0) :: c_M_isRoundOf_3
def c_M_isRoundOf_0 : List eg_I := .inl (0, 1, .iconst (1), 0, 0) :: c_M_isRoundOf_1
section
variable {rm : Room} {K : Nat → Nat → Nat → eg_Lo → List Value → List eg_E → Prop} {Q : Option Value → List eg_E → Prop} {kc ks : Nat} {loc : eg_Lo} {st : List Value} {h : List eg_E}
theorem s_M_isRoundOf_0  : wps rm K Q c_M_isRoundOf_0 kc ks loc (st) h = wps rm K Q c_M_isRoundOf_1 kc ks loc (.int (1) :: st) h := rfl
theorem s_M_isRoundOf_1 {x : Int32} : wps rm K Q c_M_isRoundOf_1 kc ks loc (.int x :: st) h = wps rm K Q c_M_isRoundOf_3 kc ks (eg_set1 loc 4 (.int x)) (st) h := rfl
theorem s_M_isRoundOf_3 {x : Int32} {l0 : Option Value} {l : eg_Lo} : wps rm K Q c_M_isRoundOf_3 kc ks (l0 :: some (.int x) :: l) (st) h = wps rm K Q c_M_isRoundOf_4 kc ks (l0 :: some (.int x) :: l) (.int x :: st) h := rfl
theorem s_M_isRoundOf_4 {x : Int32} {l0 l1 : Option Value} {l : eg_Lo} : wps rm K Q c_M_isRoundOf_4 kc ks (l0 :: l1 :: some (.int x) :: l) (st) h = wps rm K Q c_M_isRoundOf_5 kc ks (l0 :: l1 :: some (.int x) :: l) (.int x :: st) h := rfl
theorem s_M_isRoundOf_5  {a1 : Value} {a2 : Value} : wps rm K Q c_M_isRoundOf_5 kc ks loc (a2 :: a1 :: st) h = (st.length ≤ 4 ∧ eg_Cs n_M_at_II [a1, a2] h (fun v h9 => wps rm K Q c_M_isRoundOf_8 kc ks loc (v.toList ++ st) h9)) := eg_c0_2
theorem s_M_isRoundOf_8 {x : Int32} : wps rm K Q c_M_isRoundOf_8 kc ks loc (.int x :: st) h = wps rm K Q c_M_isRoundOf_10 kc ks (eg_set1 loc 5 (.int x)) (st) h := rfl
theorem s_M_isRoundOf_10 {x : Int32} {l0 : Option Value} {l : eg_Lo} : wps rm K Q c_M_isRoundOf_10 kc ks (l0 :: some (.int x) :: l) (st) h = wps rm K Q c_M_isRoundOf_11 kc ks (l0 :: some (.int x) :: l) (.int x :: st) h := rfl
theorem s_M_isRoundOf_11 {x : Int32} {l0 l1 l2 : Option Value} {l : eg_Lo} : wps rm K Q c_M_isRoundOf_11 kc ks (l0 :: l1 :: l2 :: some (.int x) :: l) (st) h = wps rm K Q c_M_isRoundOf_12 kc ks (l0 :: l1 :: l2 :: some (.int x) :: l) (.int x :: st) h := rfl
theorem s_M_isRoundOf_12  {a1 : Value} {a2 : Value} : wps rm K Q c_M_isRoundOf_12 kc ks loc (a2 :: a1 :: st) h = (st.length ≤ 4 ∧ eg_Cs n_M_at_II [a1, a2] h (fun v h9 => wps rm K Q c_M_isRoundOf_15 kc ks loc (v.toList ++ st) h9)) := eg_c0_2
theorem s_M_isRoundOf_15 {x : Int32} : wps rm K Q c_M_isRoundOf_15 kc ks loc (.int x :: st) h = wps rm K Q c_M_isRoundOf_17 kc ks (eg_set1 loc 6 (.int x)) (st) h := rfl
theorem s_M_isRoundOf_17  : wps rm K Q c_M_isRoundOf_17 kc ks loc (st) h = wps rm K Q c_M_isRoundOf_18 kc ks loc (.int (0) :: st) h := rfl
theorem s_M_isRoundOf_18 {x : Int32} : wps rm K Q c_M_isRoundOf_18 kc ks loc (.int x :: st) h = K 20 kc ks (eg_set1 loc 7 (.int x)) (st) h := rfl
theorem s_M_isRoundOf_20 {x : Int32} {l0 l1 l2 l3 l4 l5 l6 : Option Value} {l : eg_Lo} : wps rm K Q c_M_isRoundOf_20 kc ks (l0 :: l1 :: l2 :: l3 :: l4 :: l5 :: l6 :: some (.int x) :: l) (st) h = wps rm K Q c_M_isRoundOf_22 kc ks (l0 :: l1 :: l2 :: l3 :: l4 :: l5 :: l6 :: some (.int x) :: l) (.int x :: st) h := rfl
theorem s_M_isRoundOf_22 {x : Nat} {l : eg_Lo} : wps rm K Q c_M_isRoundOf_22 kc ks (some (.ref x) :: l) (st) h = wps rm K Q c_M_isRoundOf_23 kc ks (some (.ref x) :: l) (.ref x :: st) h := rfl
theorem s_M_isRoundOf_23 {x : Nat} : wps rm K Q c_M_isRoundOf_23 kc ks loc (.ref (x + 1) :: st) h = eg_gf h x 12 0 (fun v => wps rm K Q c_M_isRoundOf_26 kc ks loc (v :: st) h) := rfl
theorem s_M_isRoundOf_26 {x : Int32} {l0 : Option Value} {l : eg_Lo} : wps rm K Q c_M_isRoundOf_26 kc ks (l0 :: some (.int x) :: l) (st) h = wps rm K Q c_M_isRoundOf_27 kc ks (l0 :: some (.int x) :: l) (.int x :: st) h := rfl
theorem s_M_isRoundOf_27 {x : Nat} {i : Int32} : wps rm K Q c_M_isRoundOf_27 kc ks loc (.int i :: .ref (x + 1) :: st) h = eg_ia h x i (fun v => wps rm K Q c_M_isRoundOf_28 kc ks loc (.int v :: st) h) := rfl
theorem s_M_isRoundOf_28 {x y : Int32} : wps rm K Q c_M_isRoundOf_28 kc ks loc (.int y :: .int x :: st) h = ((y ≤ x → K 131 kc ks loc st h) ∧ (¬ y ≤ x → wps rm K Q c_M_isRoundOf_31 kc ks loc (st) h)) := rfl
theorem s_M_isRoundOf_31 {x : Int32} {l0 : Option Value} {l : eg_Lo} : wps rm K Q c_M_isRoundOf_31 kc ks (l0 :: some (.int x) :: l) (st) h = wps rm K Q c_M_isRoundOf_32 kc ks (l0 :: some (.int x) :: l) (.int x :: st) h := rfl
theorem s_M_isRoundOf_32 {x : Int32} {l0 l1 l2 l3 l4 l5 l6 : Option Value} {l : eg_Lo} : wps rm K Q c_M_isRoundOf_32 kc ks (l0 :: l1 :: l2 :: l3 :: l4 :: l5 :: l6 :: some (.int x) :: l) (st) h = wps rm K Q c_M_isRoundOf_34 kc ks (l0 :: l1 :: l2 :: l3 :: l4 :: l5 :: l6 :: some (.int x) :: l) (.int x :: st) h := rfl
theorem s_M_isRoundOf_34  {a1 : Value} {a2 : Value} : wps rm K Q c_M_isRoundOf_34 kc ks loc (a2 :: a1 :: st) h = (st.length ≤ 4 ∧ eg_Cs n_M_at_II [a1, a2] h (fun v h9 => wps rm K Q c_M_isRoundOf_37 kc ks loc (v.toList ++ st) h9)) := eg_c0_2
theorem s_M_isRoundOf_37 {x : Int32} : wps rm K Q c_M_isRoundOf_37 kc ks loc (.int x :: st) h = wps rm K Q c_M_isRoundOf_39 kc ks (eg_set1 loc 8 (.int x)) (st) h := rfl
theorem s_M_isRoundOf_39 {x : Int32} {l0 l1 l2 l3 : Option Value} {l : eg_Lo} : wps rm K Q c_M_isRoundOf_39 kc ks (l0 :: l1 :: l2 :: l3 :: some (.int x) :: l) (st) h = wps rm K Q c_M_isRoundOf_41 kc ks (l0 :: l1 :: l2 :: l3 :: some (.int x) :: l) (.int x :: st) h := rfl
theorem s_M_isRoundOf_41 {x : Nat} {l : eg_Lo} : wps rm K Q c_M_isRoundOf_41 kc ks (some (.ref x) :: l) (st) h = wps rm K Q c_M_isRoundOf_42 kc ks (some (.ref x) :: l) (.ref x :: st) h := rfl
theorem s_M_isRoundOf_42 {x : Nat} : wps rm K Q c_M_isRoundOf_42 kc ks loc (.ref (x + 1) :: st) h = eg_gf h x 12 4 (fun v => wps rm K Q c_M_isRoundOf_45 kc ks loc (v :: st) h) := rfl
theorem s_M_isRoundOf_45 {x : Int32} {l0 l1 l2 l3 l4 l5 l6 l7 : Option Value} {l : eg_Lo} : wps rm K Q c_M_isRoundOf_45 kc ks (l0 :: l1 :: l2 :: l3 :: l4 :: l5 :: l6 :: l7 :: some (.int x) :: l) (st) h = wps rm K Q c_M_isRoundOf_47 kc ks (l0 :: l1 :: l2 :: l3 :: l4 :: l5 :: l6 :: l7 :: some (.int x) :: l) (.int x :: st) h := rfl
theorem s_M_isRoundOf_47 {x : Nat} {i : Int32} : wps rm K Q c_M_isRoundOf_47 kc ks loc (.int i :: .ref (x + 1) :: st) h = eg_ba h x i (fun v => wps rm K Q c_M_isRoundOf_48 kc ks loc (.int v :: st) h) := rfl
theorem s_M_isRoundOf_48 {x : Int32} : wps rm K Q c_M_isRoundOf_48 kc ks loc (.int x :: st) h = ((¬ x = 0 → K 117 kc ks loc st h) ∧ (x = 0 → wps rm K Q c_M_isRoundOf_51 kc ks loc (st) h)) := rfl
theorem s_M_isRoundOf_51 {x : Nat} {l : eg_Lo} : wps rm K Q c_M_isRoundOf_51 kc ks (some (.ref x) :: l) (st) h = wps rm K Q c_M_isRoundOf_52 kc ks (some (.ref x) :: l) (.ref x :: st) h := rfl
theorem s_M_isRoundOf_52 {x : Nat} : wps rm K Q c_M_isRoundOf_52 kc ks loc (.ref (x + 1) :: st) h = eg_gf h x 12 1 (fun v => wps rm K Q c_M_isRoundOf_55 kc ks loc (v :: st) h) := rfl
theorem s_M_isRoundOf_55 {x : Int32} {l0 l1 l2 l3 l4 l5 l6 l7 : Option Value} {l : eg_Lo} : wps rm K Q c_M_isRoundOf_55 kc ks (l0 :: l1 :: l2 :: l3 :: l4 :: l5 :: l6 :: l7 :: some (.int x) :: l) (st) h = wps rm K Q c_M_isRoundOf_57 kc ks (l0 :: l1 :: l2 :: l3 :: l4 :: l5 :: l6 :: l7 :: some (.int x) :: l) (.int x :: st) h := rfl
theorem s_M_isRoundOf_57 {x : Nat} {i : Int32} : wps rm K Q c_M_isRoundOf_57 kc ks loc (.int i :: .ref (x + 1) :: st) h = eg_ia h x i (fun v => wps rm K Q c_M_isRoundOf_58 kc ks loc (.int v :: st) h) := rfl
theorem s_M_isRoundOf_58 {x : Nat} {l : eg_Lo} : wps rm K Q c_M_isRoundOf_58 kc ks (some (.ref x) :: l) (st) h = wps rm K Q c_M_isRoundOf_59 kc ks (some (.ref x) :: l) (.ref x :: st) h := rfl
theorem s_M_isRoundOf_59 {x : Nat} : wps rm K Q c_M_isRoundOf_59 kc ks loc (.ref (x + 1) :: st) h = eg_gf h x 12 1 (fun v => wps rm K Q c_M_isRoundOf_62 kc ks loc (v :: st) h) := rfl
theorem s_M_isRoundOf_62 {x : Int32} {l0 l1 l2 l3 l4 : Option Value} {l : eg_Lo} : wps rm K Q c_M_isRoundOf_62 kc ks (l0 :: l1 :: l2 :: l3 :: l4 :: some (.int x) :: l) (st) h = wps rm K Q c_M_isRoundOf_64 kc ks (l0 :: l1 :: l2 :: l3 :: l4 :: some (.int x) :: l) (.int x :: st) h := rfl
theorem s_M_isRoundOf_64 {x : Nat} {i : Int32} : wps rm K Q c_M_isRoundOf_64 kc ks loc (.int i :: .ref (x + 1) :: st) h = eg_ia h x i (fun v => wps rm K Q c_M_isRoundOf_65 kc ks loc (.int v :: st) h) := rfl
theorem s_M_isRoundOf_65 {x y : Int32} : wps rm K Q c_M_isRoundOf_65 kc ks loc (.int y :: .int x :: st) h = wps rm K Q c_M_isRoundOf_66 kc ks loc (.int (x - y) :: st) h := rfl
theorem s_M_isRoundOf_66 {x : Nat} {l : eg_Lo} : wps rm K Q c_M_isRoundOf_66 kc ks (some (.ref x) :: l) (st) h = wps rm K Q c_M_isRoundOf_67 kc ks (some (.ref x) :: l) (.ref x :: st) h := rfl
theorem s_M_isRoundOf_67 {x : Nat} : wps rm K Q c_M_isRoundOf_67 kc ks loc (.ref (x + 1) :: st) h = eg_gf h x 12 1 (fun v => wps rm K Q c_M_isRoundOf_70 kc ks loc (v :: st) h) := rfl
theorem s_M_isRoundOf_70 {x : Int32} {l0 l1 l2 l3 l4 l5 l6 l7 : Option Value} {l : eg_Lo} : wps rm K Q c_M_isRoundOf_70 kc ks (l0 :: l1 :: l2 :: l3 :: l4 :: l5 :: l6 :: l7 :: some (.int x) :: l) (st) h = wps rm K Q c_M_isRoundOf_72 kc ks (l0 :: l1 :: l2 :: l3 :: l4 :: l5 :: l6 :: l7 :: some (.int x) :: l) (.int x :: st) h := rfl
theorem s_M_isRoundOf_72 {x : Nat} {i : Int32} : wps rm K Q c_M_isRoundOf_72 kc ks loc (.int i :: .ref (x + 1) :: st) h = eg_ia h x i (fun v => wps rm K Q c_M_isRoundOf_73 kc ks loc (.int v :: st) h) := rfl
theorem s_M_isRoundOf_73 {x : Nat} {l : eg_Lo} : wps rm K Q c_M_isRoundOf_73 kc ks (some (.ref x) :: l) (st) h = wps rm K Q c_M_isRoundOf_74 kc ks (some (.ref x) :: l) (.ref x :: st) h := rfl
theorem s_M_isRoundOf_74 {x : Nat} : wps rm K Q c_M_isRoundOf_74 kc ks loc (.ref (x + 1) :: st) h = eg_gf h x 12 1 (fun v => wps rm K Q c_M_isRoundOf_77 kc ks loc (v :: st) h) := rfl
theorem s_M_isRoundOf_77 {x : Int32} {l0 l1 l2 l3 l4 l5 : Option Value} {l : eg_Lo} : wps rm K Q c_M_isRoundOf_77 kc ks (l0 :: l1 :: l2 :: l3 :: l4 :: l5 :: some (.int x) :: l) (st) h = wps rm K Q c_M_isRoundOf_79 kc ks (l0 :: l1 :: l2 :: l3 :: l4 :: l5 :: some (.int x) :: l) (.int x :: st) h := rfl
theorem s_M_isRoundOf_79 {x : Nat} {i : Int32} : wps rm K Q c_M_isRoundOf_79 kc ks loc (.int i :: .ref (x + 1) :: st) h = eg_ia h x i (fun v => wps rm K Q c_M_isRoundOf_80 kc ks loc (.int v :: st) h) := rfl
theorem s_M_isRoundOf_80 {x y : Int32} : wps rm K Q c_M_isRoundOf_80 kc ks loc (.int y :: .int x :: st) h = wps rm K Q c_M_isRoundOf_81 kc ks loc (.int (x - y) :: st) h := rfl
theorem s_M_isRoundOf_81 {x y : Int32} : wps rm K Q c_M_isRoundOf_81 kc ks loc (.int y :: .int x :: st) h = wps rm K Q c_M_isRoundOf_82 kc ks loc (.int (x * y) :: st) h := rfl
theorem s_M_isRoundOf_82 {x : Nat} {l : eg_Lo} : wps rm K Q c_M_isRoundOf_82 kc ks (some (.ref x) :: l) (st) h = wps rm K Q c_M_isRoundOf_83 kc ks (some (.ref x) :: l) (.ref x :: st) h := rfl
theorem s_M_isRoundOf_83 {x : Nat} : wps rm K Q c_M_isRoundOf_83 kc ks loc (.ref (x + 1) :: st) h = eg_gf h x 12 2 (fun v => wps rm K Q c_M_isRoundOf_86 kc ks loc (v :: st) h) := rfl
theorem s_M_isRoundOf_86 {x : Int32} {l0 l1 l2 l3 l4 l5 l6 l7 : Option Value} {l : eg_Lo} : wps rm K Q c_M_isRoundOf_86 kc ks (l0 :: l1 :: l2 :: l3 :: l4 :: l5 :: l6 :: l7 :: some (.int x) :: l) (st) h = wps rm K Q c_M_isRoundOf_88 kc ks (l0 :: l1 :: l2 :: l3 :: l4 :: l5 :: l6 :: l7 :: some (.int x) :: l) (.int x :: st) h := rfl
theorem s_M_isRoundOf_88 {x : Nat} {i : Int32} : wps rm K Q c_M_isRoundOf_88 kc ks loc (.int i :: .ref (x + 1) :: st) h = eg_ia h x i (fun v => wps rm K Q c_M_isRoundOf_89 kc ks loc (.int v :: st) h) := rfl
theorem s_M_isRoundOf_89 {x : Nat} {l : eg_Lo} : wps rm K Q c_M_isRoundOf_89 kc ks (some (.ref x) :: l) (st) h = wps rm K Q c_M_isRoundOf_90 kc ks (some (.ref x) :: l) (.ref x :: st) h := rfl
theorem s_M_isRoundOf_90 {x : Nat} : wps rm K Q c_M_isRoundOf_90 kc ks loc (.ref (x + 1) :: st) h = eg_gf h x 12 2 (fun v => wps rm K Q c_M_isRoundOf_93 kc ks loc (v :: st) h) := rfl
theorem s_M_isRoundOf_93 {x : Int32} {l0 l1 l2 l3 l4 : Option Value} {l : eg_Lo} : wps rm K Q c_M_isRoundOf_93 kc ks (l0 :: l1 :: l2 :: l3 :: l4 :: some (.int x) :: l) (st) h = wps rm K Q c_M_isRoundOf_95 kc ks (l0 :: l1 :: l2 :: l3 :: l4 :: some (.int x) :: l) (.int x :: st) h := rfl
theorem s_M_isRoundOf_95 {x : Nat} {i : Int32} : wps rm K Q c_M_isRoundOf_95 kc ks loc (.int i :: .ref (x + 1) :: st) h = eg_ia h x i (fun v => wps rm K Q c_M_isRoundOf_96 kc ks loc (.int v :: st) h) := rfl
theorem s_M_isRoundOf_96 {x y : Int32} : wps rm K Q c_M_isRoundOf_96 kc ks loc (.int y :: .int x :: st) h = wps rm K Q c_M_isRoundOf_97 kc ks loc (.int (x - y) :: st) h := rfl
theorem s_M_isRoundOf_97 {x : Nat} {l : eg_Lo} : wps rm K Q c_M_isRoundOf_97 kc ks (some (.ref x) :: l) (st) h = wps rm K Q c_M_isRoundOf_98 kc ks (some (.ref x) :: l) (.ref x :: st) h := rfl
theorem s_M_isRoundOf_98 {x : Nat} : wps rm K Q c_M_isRoundOf_98 kc ks loc (.ref (x + 1) :: st) h = eg_gf h x 12 2 (fun v => wps rm K Q c_M_isRoundOf_101 kc ks loc (v :: st) h) := rfl
theorem s_M_isRoundOf_101 {x : Int32} {l0 l1 l2 l3 l4 l5 l6 l7 : Option Value} {l : eg_Lo} : wps rm K Q c_M_isRoundOf_101 kc ks (l0 :: l1 :: l2 :: l3 :: l4 :: l5 :: l6 :: l7 :: some (.int x) :: l) (st) h = wps rm K Q c_M_isRoundOf_103 kc ks (l0 :: l1 :: l2 :: l3 :: l4 :: l5 :: l6 :: l7 :: some (.int x) :: l) (.int x :: st) h := rfl
theorem s_M_isRoundOf_103 {x : Nat} {i : Int32} : wps rm K Q c_M_isRoundOf_103 kc ks loc (.int i :: .ref (x + 1) :: st) h = eg_ia h x i (fun v => wps rm K Q c_M_isRoundOf_104 kc ks loc (.int v :: st) h) := rfl
theorem s_M_isRoundOf_104 {x : Nat} {l : eg_Lo} : wps rm K Q c_M_isRoundOf_104 kc ks (some (.ref x) :: l) (st) h = wps rm K Q c_M_isRoundOf_105 kc ks (some (.ref x) :: l) (.ref x :: st) h := rfl
theorem s_M_isRoundOf_105 {x : Nat} : wps rm K Q c_M_isRoundOf_105 kc ks loc (.ref (x + 1) :: st) h = eg_gf h x 12 2 (fun v => wps rm K Q c_M_isRoundOf_108 kc ks loc (v :: st) h) := rfl
theorem s_M_isRoundOf_108 {x : Int32} {l0 l1 l2 l3 l4 l5 : Option Value} {l : eg_Lo} : wps rm K Q c_M_isRoundOf_108 kc ks (l0 :: l1 :: l2 :: l3 :: l4 :: l5 :: some (.int x) :: l) (st) h = wps rm K Q c_M_isRoundOf_110 kc ks (l0 :: l1 :: l2 :: l3 :: l4 :: l5 :: some (.int x) :: l) (.int x :: st) h := rfl
theorem s_M_isRoundOf_110 {x : Nat} {i : Int32} : wps rm K Q c_M_isRoundOf_110 kc ks loc (.int i :: .ref (x + 1) :: st) h = eg_ia h x i (fun v => wps rm K Q c_M_isRoundOf_111 kc ks loc (.int v :: st) h) := rfl
theorem s_M_isRoundOf_111 {x y : Int32} : wps rm K Q c_M_isRoundOf_111 kc ks loc (.int y :: .int x :: st) h = wps rm K Q c_M_isRoundOf_112 kc ks loc (.int (x - y) :: st) h := rfl
theorem s_M_isRoundOf_112 {x y : Int32} : wps rm K Q c_M_isRoundOf_112 kc ks loc (.int y :: .int x :: st) h = wps rm K Q c_M_isRoundOf_113 kc ks loc (.int (x * y) :: st) h := rfl
theorem s_M_isRoundOf_113 {x y : Int32} : wps rm K Q c_M_isRoundOf_113 kc ks loc (.int y :: .int x :: st) h = wps rm K Q c_M_isRoundOf_114 kc ks loc (.int (x + y) :: st) h := rfl
theorem s_M_isRoundOf_114 {x : Int32} : wps rm K Q c_M_isRoundOf_114 kc ks loc (.int x :: st) h = ((0 < x → K 121 kc ks loc st h) ∧ (¬ 0 < x → wps rm K Q c_M_isRoundOf_117 kc ks loc (st) h)) := rfl
theorem s_M_isRoundOf_117  : wps rm K Q c_M_isRoundOf_117 kc ks loc (st) h = wps rm K Q c_M_isRoundOf_118 kc ks loc (.int (1) :: st) h := rfl
theorem s_M_isRoundOf_118  : wps rm K Q c_M_isRoundOf_118 kc ks loc (st) h = K 122 kc ks loc st h := rfl
theorem s_M_isRoundOf_121  : wps rm K Q c_M_isRoundOf_121 kc ks loc (st) h = wps rm K Q c_M_isRoundOf_122 kc ks loc (.int (0) :: st) h := rfl
theorem s_M_isRoundOf_122 {x y : Int32} : wps rm K Q c_M_isRoundOf_122 kc ks loc (.int y :: .int x :: st) h = wps rm K Q c_M_isRoundOf_123 kc ks loc (.int (x &&& y) :: st) h := rfl
theorem s_M_isRoundOf_123 {x : Int32} : wps rm K Q c_M_isRoundOf_123 kc ks loc (.int x :: st) h = wps rm K Q c_M_isRoundOf_125 kc ks (eg_set1 loc 4 (.int x)) (st) h := rfl
theorem s_M_isRoundOf_125 {x : Int32} {l0 l1 l2 l3 l4 l5 l6 : Option Value} {l9 : eg_Lo} : wps rm K Q c_M_isRoundOf_125 kc ks (l0 :: l1 :: l2 :: l3 :: l4 :: l5 :: l6 :: some (.int x) :: l9) (st) h = wps rm K Q c_M_isRoundOf_128 kc ks (eg_set1 (l0 :: l1 :: l2 :: l3 :: l4 :: l5 :: l6 :: some (.int x) :: l9) 7 (.int (x + (1)))) (st) h := rfl
theorem s_M_isRoundOf_128  : wps rm K Q c_M_isRoundOf_128 kc ks loc (st) h = K 20 kc ks loc st h := rfl
theorem s_M_isRoundOf_131 {x : Int32} {l0 l1 l2 l3 : Option Value} {l : eg_Lo} : wps rm K Q c_M_isRoundOf_131 kc ks (l0 :: l1 :: l2 :: l3 :: some (.int x) :: l) (st) h = wps rm K Q c_M_isRoundOf_133 kc ks (l0 :: l1 :: l2 :: l3 :: some (.int x) :: l) (.int x :: st) h := rfl
theorem s_M_isRoundOf_133 {x : Int32} : wps rm K Q c_M_isRoundOf_133 kc ks loc ([.int x]) h = (kc = rm.cells ∧ ((1 : Nat) = 1 → x = 0 ∨ x = 1) ∧ Q (some (.int x)) h) := rfl
def T_M_isRoundOf : List (Nat × List eg_I) := [(117, c_M_isRoundOf_117), (121, c_M_isRoundOf_121), (122, c_M_isRoundOf_122), (131, c_M_isRoundOf_131)]
theorem j_M_isRoundOf_117 {R : Nat → Nat → Nat → eg_Lo → List Value → List eg_E → Prop} {f pc0 : Nat} : eg_run rm R Q T_M_isRoundOf (f + 1) 117 kc ks loc st h = wps rm (eg_run rm R Q T_M_isRoundOf f) Q c_M_isRoundOf_117 kc ks loc st h := rfl
theorem j_M_isRoundOf_121 {R : Nat → Nat → Nat → eg_Lo → List Value → List eg_E → Prop} {f pc0 : Nat} : eg_run rm R Q T_M_isRoundOf (f + 1) 121 kc ks loc st h = wps rm (eg_run rm R Q T_M_isRoundOf f) Q c_M_isRoundOf_121 kc ks loc st h := rfl
theorem j_M_isRoundOf_122 {R : Nat → Nat → Nat → eg_Lo → List Value → List eg_E → Prop} {f pc0 : Nat} : eg_run rm R Q T_M_isRoundOf (f + 1) 122 kc ks loc st h = wps rm (eg_run rm R Q T_M_isRoundOf f) Q c_M_isRoundOf_122 kc ks loc st h := rfl
theorem j_M_isRoundOf_131 {R : Nat → Nat → Nat → eg_Lo → List Value → List eg_E → Prop} {f pc0 : Nat} : eg_run rm R Q T_M_isRoundOf (f + 1) 131 kc ks loc st h = wps rm (eg_run rm R Q T_M_isRoundOf f) Q c_M_isRoundOf_131 kc ks loc st h := rfl
theorem j_M_isRoundOf_20 {R : Nat → Nat → Nat → eg_Lo → List Value → List eg_E → Prop} {f pc0 : Nat} : eg_run rm R Q T_M_isRoundOf (f + 1) 20 kc ks loc st h = R 20 kc ks loc st h := rfl
end
theorem q_M_isRoundOf : (T_M_isRoundOf.all fun q => eg_seq m_M_isRoundOf q.1 q.2) = true := by decide +kernel
theorem b_M_isRoundOf {as : List Value} {h : List eg_E} {Q : Option Value → List eg_E → Prop} (hf : (eg_fl as).length ≤ 9) (hw : wps (eg_rm m_M_isRoundOf) (eg_run (eg_rm m_M_isRoundOf) (eg_R m_M_isRoundOf Q (h.length + 0)) Q T_M_isRoundOf 6) Q c_M_isRoundOf_0 0 0 (eg_entry 9 as) [] h) : eg_Runs n_M_isRoundOf as h Q := eg_begin (d := m_M_isRoundOf) rfl (by decide) (by decide +kernel) q_M_isRoundOf hf hw
theorem p_M_isRoundOf_20 {Q : Option Value → List eg_E → Prop} {n0 kc ks : Nat} {loc : eg_Lo} {st : List Value} {h : List eg_E} (hw : wps (eg_rm m_M_isRoundOf) (eg_run (eg_rm m_M_isRoundOf) (eg_R m_M_isRoundOf Q n0) Q T_M_isRoundOf 6) Q c_M_isRoundOf_20 kc ks loc st h) : eg_R m_M_isRoundOf Q n0 20 kc ks loc st h := eg_go (by decide +kernel) q_M_isRoundOf hw
