/-! ===== X_level ===== -/
def c_X_level_45 : List eg_I := .inl (45, 1, .lreturn, 0, 0) :: []
def c_X_level_44 : List eg_I := .inl (44, 1, .i2l, 0, 0) :: c_X_level_45
def c_X_level_41 : List eg_I := .inr (41, 1, 251, n_Fig_leastKept, 0, 2, 0, 0) :: c_X_level_44
def c_X_level_40 : List eg_I := .inl (40, 1, .aaload, 0, 0) :: c_X_level_41
def c_X_level_39 : List eg_I := .inl (39, 1, .iload 1, 0, 0) :: c_X_level_40
def c_X_level_36 : List eg_I := .inl (36, 3, .getfield 23, 11, 2) :: c_X_level_39
def c_X_level_35 : List eg_I := .inl (35, 1, .aload 0, 0, 0) :: c_X_level_36
def c_X_level_34 : List eg_I := .inl (34, 1, .lreturn, 0, 0) :: []
def c_X_level_31 : List eg_I := .inr (31, 1, 86, n_X_found, 1, 11, 0, 0) :: c_X_level_34
def c_X_level_28 : List eg_I := .inl (28, 3, .sipush (-1000000000000000006), 158, 0) :: c_X_level_31
def c_X_level_27 : List eg_I := .inl (27, 1, .aload 0, 0, 0) :: c_X_level_28
def c_X_level_24 : List eg_I := .inl (24, 3, .ifCond .ne (11), 35, 0) :: c_X_level_27
def c_X_level_21 : List eg_I := .inr (21, 1, 218, n_Fig_isOne, 0, 2, 0, 0) :: c_X_level_24
def c_X_level_20 : List eg_I := .inl (20, 1, .aaload, 0, 0) :: c_X_level_21
def c_X_level_19 : List eg_I := .inl (19, 1, .iload 1, 0, 0) :: c_X_level_20
def c_X_level_16 : List eg_I := .inl (16, 3, .getfield 23, 11, 2) :: c_X_level_19
def c_X_level_15 : List eg_I := .inl (15, 1, .aload 0, 0, 0) :: c_X_level_16
def c_X_level_14 : List eg_I := .inl (14, 1, .lreturn, 0, 0) :: []
def c_X_level_11 : List eg_I := .inr (11, 1, 86, n_X_found, 1, 11, 0, 0) :: c_X_level_14
def c_X_level_8 : List eg_I := .inl (8, 3, .sipush (-1000000000000000001), 84, 0) :: c_X_level_11
def c_X_level_7 : List eg_I := .inl (7, 1, .aload 0, 0, 0) :: c_X_level_8
def c_X_level_4 : List eg_I := .inl (4, 3, .ifCond .ne (11), 15, 0) :: c_X_level_7
def c_X_level_1 : List eg_I := .inr (1, 0, 202, n_X_isFigure, 1, 11, 0, 0) :: c_X_level_4
def c_X_level_0 : List eg_I := .inl (0, 1, .iload 1, 0, 0) :: c_X_level_1
section
variable {rm : Room} {K : Nat → Nat → Nat → eg_Lo → List Value → List eg_E → Prop} {Q : Option Value → List eg_E → Prop} {kc ks : Nat} {loc : eg_Lo} {st : List Value} {h : List eg_E}
theorem s_X_level_0 {x : Int32} {l0 : Option Value} {l : eg_Lo} : wps rm K Q c_X_level_0 kc ks (l0 :: some (.int x) :: l) (st) h = wps rm K Q c_X_level_1 kc ks (l0 :: some (.int x) :: l) (.int x :: st) h := gk_iload rfl
theorem s_X_level_1  {a1 : Value} : wps rm K Q c_X_level_1 kc ks loc (a1 :: st) h = (st.length ≤ 4 ∧ eg_Cs n_X_isFigure [a1] h (fun v h9 => wps rm K Q c_X_level_4 kc ks loc (v.toList ++ st) h9)) := eg_c0_1
theorem s_X_level_4 {x : Int32} : wps rm K Q c_X_level_4 kc ks loc (.int x :: st) h = ((¬ x = 0 → K 15 kc ks loc st h) ∧ (x = 0 → wps rm K Q c_X_level_7 kc ks loc (st) h)) := gk_if1_ne
theorem s_X_level_7 {x : Nat} {l : eg_Lo} : wps rm K Q c_X_level_7 kc ks (some (.ref x) :: l) (st) h = wps rm K Q c_X_level_8 kc ks (some (.ref x) :: l) (.ref x :: st) h := gk_aload rfl
theorem s_X_level_8  : wps rm K Q c_X_level_8 kc ks loc (st) h = wps rm K Q c_X_level_11 kc ks loc (.long (-1000000000000000001) :: st) h := gk_lc (by decide)
theorem s_X_level_11  {a1 : Value} {x : Nat} : wps rm K Q c_X_level_11 kc ks loc (a1 :: .ref (x + 1) :: st) h = (eg_cls h x 11 ∧ st.length ≤ 4 ∧ eg_Cs n_X_found (.ref (x + 1) :: [a1]) h (fun v h9 => wps rm K Q c_X_level_14 kc ks loc (v.toList ++ st) h9)) := eg_c1_1
theorem s_X_level_14 {x : Int64} : wps rm K Q c_X_level_14 kc ks loc ([.long x]) h = (kc = rm.cells ∧ Q (some (.long x)) h) := gk_lret
theorem s_X_level_15 {x : Nat} {l : eg_Lo} : wps rm K Q c_X_level_15 kc ks (some (.ref x) :: l) (st) h = wps rm K Q c_X_level_16 kc ks (some (.ref x) :: l) (.ref x :: st) h := gk_aload rfl
theorem s_X_level_16 {x : Nat} : wps rm K Q c_X_level_16 kc ks loc (.ref (x + 1) :: st) h = eg_gf h x 11 2 (fun v => wps rm K Q c_X_level_19 kc ks loc (v :: st) h) := gk_gf
theorem s_X_level_19 {x : Int32} {l0 : Option Value} {l : eg_Lo} : wps rm K Q c_X_level_19 kc ks (l0 :: some (.int x) :: l) (st) h = wps rm K Q c_X_level_20 kc ks (l0 :: some (.int x) :: l) (.int x :: st) h := gk_iload rfl
theorem s_X_level_20 {x : Nat} {i : Int32} : wps rm K Q c_X_level_20 kc ks loc (.int i :: .ref (x + 1) :: st) h = eg_aa h x i (fun v => wps rm K Q c_X_level_21 kc ks loc (v :: st) h) := gk_aaload
theorem s_X_level_21  {x : Nat} : wps rm K Q c_X_level_21 kc ks loc (.ref (x + 1) :: st) h = (eg_cls h x 2 ∧ st.length ≤ 4 ∧ eg_Cs n_Fig_isOne (.ref (x + 1) :: []) h (fun v h9 => wps rm K Q c_X_level_24 kc ks loc (v.toList ++ st) h9)) := eg_c1_0
theorem s_X_level_24 {x : Int32} : wps rm K Q c_X_level_24 kc ks loc (.int x :: st) h = ((¬ x = 0 → K 35 kc ks loc st h) ∧ (x = 0 → wps rm K Q c_X_level_27 kc ks loc (st) h)) := gk_if1_ne
theorem s_X_level_27 {x : Nat} {l : eg_Lo} : wps rm K Q c_X_level_27 kc ks (some (.ref x) :: l) (st) h = wps rm K Q c_X_level_28 kc ks (some (.ref x) :: l) (.ref x :: st) h := gk_aload rfl
theorem s_X_level_28  : wps rm K Q c_X_level_28 kc ks loc (st) h = wps rm K Q c_X_level_31 kc ks loc (.long (-1000000000000000006) :: st) h := gk_lc (by decide)
theorem s_X_level_31  {a1 : Value} {x : Nat} : wps rm K Q c_X_level_31 kc ks loc (a1 :: .ref (x + 1) :: st) h = (eg_cls h x 11 ∧ st.length ≤ 4 ∧ eg_Cs n_X_found (.ref (x + 1) :: [a1]) h (fun v h9 => wps rm K Q c_X_level_34 kc ks loc (v.toList ++ st) h9)) := eg_c1_1
theorem s_X_level_34 {x : Int64} : wps rm K Q c_X_level_34 kc ks loc ([.long x]) h = (kc = rm.cells ∧ Q (some (.long x)) h) := gk_lret
theorem s_X_level_35 {x : Nat} {l : eg_Lo} : wps rm K Q c_X_level_35 kc ks (some (.ref x) :: l) (st) h = wps rm K Q c_X_level_36 kc ks (some (.ref x) :: l) (.ref x :: st) h := gk_aload rfl
theorem s_X_level_36 {x : Nat} : wps rm K Q c_X_level_36 kc ks loc (.ref (x + 1) :: st) h = eg_gf h x 11 2 (fun v => wps rm K Q c_X_level_39 kc ks loc (v :: st) h) := gk_gf
theorem s_X_level_39 {x : Int32} {l0 : Option Value} {l : eg_Lo} : wps rm K Q c_X_level_39 kc ks (l0 :: some (.int x) :: l) (st) h = wps rm K Q c_X_level_40 kc ks (l0 :: some (.int x) :: l) (.int x :: st) h := gk_iload rfl
theorem s_X_level_40 {x : Nat} {i : Int32} : wps rm K Q c_X_level_40 kc ks loc (.int i :: .ref (x + 1) :: st) h = eg_aa h x i (fun v => wps rm K Q c_X_level_41 kc ks loc (v :: st) h) := gk_aaload
theorem s_X_level_41  {x : Nat} : wps rm K Q c_X_level_41 kc ks loc (.ref (x + 1) :: st) h = (eg_cls h x 2 ∧ st.length ≤ 4 ∧ eg_Cs n_Fig_leastKept (.ref (x + 1) :: []) h (fun v h9 => wps rm K Q c_X_level_44 kc ks loc (v.toList ++ st) h9)) := eg_c1_0
theorem s_X_level_44 {x : Int32} : wps rm K Q c_X_level_44 kc ks loc (.int x :: st) h = wps rm K Q c_X_level_45 kc ks loc (.long (x.toInt64) :: st) h := gk_i2l
theorem s_X_level_45 {x : Int64} : wps rm K Q c_X_level_45 kc ks loc ([.long x]) h = (kc = rm.cells ∧ Q (some (.long x)) h) := gk_lret
def T_X_level : List (Nat × List eg_I) := [(15, c_X_level_15), (35, c_X_level_35)]
theorem j_X_level_15 {R : Nat → Nat → Nat → eg_Lo → List Value → List eg_E → Prop} {f pc0 : Nat} : eg_run rm R Q T_X_level (f + 1) 15 kc ks loc st h = wps rm (eg_run rm R Q T_X_level f) Q c_X_level_15 kc ks loc st h := rfl
theorem j_X_level_35 {R : Nat → Nat → Nat → eg_Lo → List Value → List eg_E → Prop} {f pc0 : Nat} : eg_run rm R Q T_X_level (f + 1) 35 kc ks loc st h = wps rm (eg_run rm R Q T_X_level f) Q c_X_level_35 kc ks loc st h := rfl
end
theorem y_X_level_0 : eg_seq m_X_level 0 c_X_level_0 = true := by decide +kernel
theorem y_X_level_15 : eg_seq m_X_level 15 c_X_level_15 = true := by decide +kernel
theorem y_X_level_35 : eg_seq m_X_level 35 c_X_level_35 = true := by decide +kernel
theorem q_X_level : ∀ q ∈ T_X_level, eg_seq m_X_level q.1 q.2 = true := by
  intro q hq
  simp only [T_X_level, List.mem_cons, List.not_mem_nil, or_false] at hq
  rcases hq with rfl | rfl
  · exact y_X_level_15
  · exact y_X_level_35
theorem b_X_level {as : List Value} {h : List eg_E} {Q : Option Value → List eg_E → Prop} (hf : (eg_fl as).length ≤ 2) (hw : wps (eg_rm m_X_level) (eg_run (eg_rm m_X_level) (eg_R m_X_level Q (h.length + 0)) Q T_X_level 4) Q c_X_level_0 0 0 (eg_entry 2 as) [] h) : eg_Runs n_X_level as h Q := eg_begin2 (d := m_X_level) rfl (by decide) y_X_level_0 q_X_level hf hw
/-! ===== X_more ===== -/
def c_X_more_150 : List eg_I := .inl (150, 1, .lreturn, 0, 0) :: []
def c_X_more_149 : List eg_I := .inl (149, 1, .sipush (0), 0, 0) :: c_X_more_150
def c_X_more_146 : List eg_I := .inl (146, 3, .goto (4), 150, 0) :: []
def c_X_more_145 : List eg_I := .inl (145, 1, .sipush (1), 0, 0) :: c_X_more_146
def c_X_more_142 : List eg_I := .inl (142, 3, .if_icmp .gt (7), 149, 0) :: c_X_more_145
def c_X_more_141 : List eg_I := .inl (141, 1, .iadd, 0, 0) :: c_X_more_142
def c_X_more_139 : List eg_I := .inl (139, 2, .iload 5, 0, 0) :: c_X_more_141
def c_X_more_138 : List eg_I := .inl (138, 1, .iload 2, 0, 0) :: c_X_more_139
def c_X_more_135 : List eg_I := .inr (135, 1, 251, n_Fig_leastKept, 0, 2, 0, 0) :: c_X_more_138
def c_X_more_134 : List eg_I := .inl (134, 1, .aaload, 0, 0) :: c_X_more_135
def c_X_more_133 : List eg_I := .inl (133, 1, .iload 1, 0, 0) :: c_X_more_134
def c_X_more_130 : List eg_I := .inl (130, 3, .getfield 23, 11, 2) :: c_X_more_133
def c_X_more_129 : List eg_I := .inl (129, 1, .aload 0, 0, 0) :: c_X_more_130
def c_X_more_127 : List eg_I := .inl (127, 2, .istore 5, 0, 0) :: c_X_more_129
def c_X_more_124 : List eg_I := .inr (124, 0, 254, n_Math_max, 2, 13, 0, 0) :: c_X_more_127
def c_X_more_123 : List eg_I := .inl (123, 1, .isub, 0, 0) :: c_X_more_124
def c_X_more_120 : List eg_I := .inr (120, 1, 251, n_Fig_leastKept, 0, 2, 0, 0) :: c_X_more_123
def c_X_more_119 : List eg_I := .inl (119, 1, .aaload, 0, 0) :: c_X_more_120
def c_X_more_118 : List eg_I := .inl (118, 1, .iload 3, 0, 0) :: c_X_more_119
def c_X_more_115 : List eg_I := .inl (115, 3, .getfield 23, 11, 2) :: c_X_more_118
def c_X_more_114 : List eg_I := .inl (114, 1, .aload 0, 0, 0) :: c_X_more_115
def c_X_more_112 : List eg_I := .inl (112, 2, .iload 4, 0, 0) :: c_X_more_114
def c_X_more_111 : List eg_I := .inl (111, 1, .iconst (0), 0, 0) :: c_X_more_112
def c_X_more_110 : List eg_I := .inl (110, 1, .lreturn, 0, 0) :: []
def c_X_more_107 : List eg_I := .inr (107, 1, 86, n_X_found, 1, 11, 0, 0) :: c_X_more_110
def c_X_more_104 : List eg_I := .inl (104, 3, .sipush (-1000000000000000004), 183, 0) :: c_X_more_107
def c_X_more_103 : List eg_I := .inl (103, 1, .aload 0, 0, 0) :: c_X_more_104
def c_X_more_100 : List eg_I := .inl (100, 3, .ifCond .ne (11), 111, 0) :: c_X_more_103
def c_X_more_97 : List eg_I := .inr (97, 1, 222, n_Fig_isOfKind, 1, 2, 0, 0) :: c_X_more_100
def c_X_more_96 : List eg_I := .inl (96, 1, .iconst (4), 0, 0) :: c_X_more_97
def c_X_more_95 : List eg_I := .inl (95, 1, .aaload, 0, 0) :: c_X_more_96
def c_X_more_94 : List eg_I := .inl (94, 1, .iload 3, 0, 0) :: c_X_more_95
def c_X_more_91 : List eg_I := .inl (91, 3, .getfield 23, 11, 2) :: c_X_more_94
def c_X_more_90 : List eg_I := .inl (90, 1, .aload 0, 0, 0) :: c_X_more_91
def c_X_more_87 : List eg_I := .inl (87, 3, .ifCond .eq (16), 103, 0) :: c_X_more_90
def c_X_more_84 : List eg_I := .inr (84, 1, 222, n_Fig_isOfKind, 1, 2, 0, 0) :: c_X_more_87
def c_X_more_83 : List eg_I := .inl (83, 1, .iconst (1), 0, 0) :: c_X_more_84
def c_X_more_82 : List eg_I := .inl (82, 1, .aaload, 0, 0) :: c_X_more_83
def c_X_more_81 : List eg_I := .inl (81, 1, .iload 1, 0, 0) :: c_X_more_82
def c_X_more_78 : List eg_I := .inl (78, 3, .getfield 23, 11, 2) :: c_X_more_81
def c_X_more_77 : List eg_I := .inl (77, 1, .aload 0, 0, 0) :: c_X_more_78
def c_X_more_76 : List eg_I := .inl (76, 1, .lreturn, 0, 0) :: []
def c_X_more_73 : List eg_I := .inr (73, 1, 86, n_X_found, 1, 11, 0, 0) :: c_X_more_76
def c_X_more_70 : List eg_I := .inl (70, 3, .sipush (-1000000000000000006), 158, 0) :: c_X_more_73
def c_X_more_69 : List eg_I := .inl (69, 1, .aload 0, 0, 0) :: c_X_more_70
def c_X_more_66 : List eg_I := .inl (66, 3, .ifCond .ne (11), 77, 0) :: c_X_more_69
def c_X_more_63 : List eg_I := .inr (63, 1, 218, n_Fig_isOne, 0, 2, 0, 0) :: c_X_more_66
def c_X_more_62 : List eg_I := .inl (62, 1, .aaload, 0, 0) :: c_X_more_63
def c_X_more_61 : List eg_I := .inl (61, 1, .iload 3, 0, 0) :: c_X_more_62
def c_X_more_58 : List eg_I := .inl (58, 3, .getfield 23, 11, 2) :: c_X_more_61
def c_X_more_57 : List eg_I := .inl (57, 1, .aload 0, 0, 0) :: c_X_more_58
def c_X_more_54 : List eg_I := .inl (54, 3, .ifCond .eq (15), 69, 0) :: c_X_more_57
def c_X_more_51 : List eg_I := .inr (51, 1, 218, n_Fig_isOne, 0, 2, 0, 0) :: c_X_more_54
def c_X_more_50 : List eg_I := .inl (50, 1, .aaload, 0, 0) :: c_X_more_51
def c_X_more_49 : List eg_I := .inl (49, 1, .iload 1, 0, 0) :: c_X_more_50
def c_X_more_46 : List eg_I := .inl (46, 3, .getfield 23, 11, 2) :: c_X_more_49
def c_X_more_45 : List eg_I := .inl (45, 1, .aload 0, 0, 0) :: c_X_more_46
def c_X_more_44 : List eg_I := .inl (44, 1, .lreturn, 0, 0) :: []
def c_X_more_41 : List eg_I := .inr (41, 1, 86, n_X_found, 1, 11, 0, 0) :: c_X_more_44
def c_X_more_38 : List eg_I := .inl (38, 3, .sipush (-1000000000000000001), 84, 0) :: c_X_more_41
def c_X_more_37 : List eg_I := .inl (37, 1, .aload 0, 0, 0) :: c_X_more_38
def c_X_more_34 : List eg_I := .inl (34, 3, .ifCond .ne (11), 45, 0) :: c_X_more_37
def c_X_more_31 : List eg_I := .inr (31, 0, 80, n_X_isWithin, 3, 11, 0, 0) :: c_X_more_34
def c_X_more_28 : List eg_I := .inl (28, 3, .iconst (2000), 0, 0) :: c_X_more_31
def c_X_more_27 : List eg_I := .inl (27, 1, .iconst (0), 0, 0) :: c_X_more_28
def c_X_more_25 : List eg_I := .inl (25, 2, .iload 4, 0, 0) :: c_X_more_27
def c_X_more_22 : List eg_I := .inl (22, 3, .ifCond .eq (15), 37, 0) :: c_X_more_25
def c_X_more_19 : List eg_I := .inr (19, 0, 80, n_X_isWithin, 3, 11, 0, 0) :: c_X_more_22
def c_X_more_16 : List eg_I := .inl (16, 3, .iconst (2000), 0, 0) :: c_X_more_19
def c_X_more_15 : List eg_I := .inl (15, 1, .iconst (0), 0, 0) :: c_X_more_16
def c_X_more_14 : List eg_I := .inl (14, 1, .iload 2, 0, 0) :: c_X_more_15
def c_X_more_11 : List eg_I := .inl (11, 3, .ifCond .eq (26), 37, 0) :: c_X_more_14
def c_X_more_8 : List eg_I := .inr (8, 0, 202, n_X_isFigure, 1, 11, 0, 0) :: c_X_more_11
def c_X_more_7 : List eg_I := .inl (7, 1, .iload 3, 0, 0) :: c_X_more_8
def c_X_more_4 : List eg_I := .inl (4, 3, .ifCond .eq (33), 37, 0) :: c_X_more_7
def c_X_more_1 : List eg_I := .inr (1, 0, 202, n_X_isFigure, 1, 11, 0, 0) :: c_X_more_4
def c_X_more_0 : List eg_I := .inl (0, 1, .iload 1, 0, 0) :: c_X_more_1
section
variable {rm : Room} {K : Nat → Nat → Nat → eg_Lo → List Value → List eg_E → Prop} {Q : Option Value → List eg_E → Prop} {kc ks : Nat} {loc : eg_Lo} {st : List Value} {h : List eg_E}
theorem s_X_more_0 {x : Int32} {l0 : Option Value} {l : eg_Lo} : wps rm K Q c_X_more_0 kc ks (l0 :: some (.int x) :: l) (st) h = wps rm K Q c_X_more_1 kc ks (l0 :: some (.int x) :: l) (.int x :: st) h := gk_iload rfl
theorem s_X_more_1  {a1 : Value} : wps rm K Q c_X_more_1 kc ks loc (a1 :: st) h = (st.length ≤ 4 ∧ eg_Cs n_X_isFigure [a1] h (fun v h9 => wps rm K Q c_X_more_4 kc ks loc (v.toList ++ st) h9)) := eg_c0_1
theorem s_X_more_4 {x : Int32} : wps rm K Q c_X_more_4 kc ks loc (.int x :: st) h = ((x = 0 → K 37 kc ks loc st h) ∧ (¬ x = 0 → wps rm K Q c_X_more_7 kc ks loc (st) h)) := gk_if1_eq
theorem s_X_more_7 {x : Int32} {l0 l1 l2 : Option Value} {l : eg_Lo} : wps rm K Q c_X_more_7 kc ks (l0 :: l1 :: l2 :: some (.int x) :: l) (st) h = wps rm K Q c_X_more_8 kc ks (l0 :: l1 :: l2 :: some (.int x) :: l) (.int x :: st) h := gk_iload rfl
theorem s_X_more_8  {a1 : Value} : wps rm K Q c_X_more_8 kc ks loc (a1 :: st) h = (st.length ≤ 4 ∧ eg_Cs n_X_isFigure [a1] h (fun v h9 => wps rm K Q c_X_more_11 kc ks loc (v.toList ++ st) h9)) := eg_c0_1
theorem s_X_more_11 {x : Int32} : wps rm K Q c_X_more_11 kc ks loc (.int x :: st) h = ((x = 0 → K 37 kc ks loc st h) ∧ (¬ x = 0 → wps rm K Q c_X_more_14 kc ks loc (st) h)) := gk_if1_eq
theorem s_X_more_14 {x : Int32} {l0 l1 : Option Value} {l : eg_Lo} : wps rm K Q c_X_more_14 kc ks (l0 :: l1 :: some (.int x) :: l) (st) h = wps rm K Q c_X_more_15 kc ks (l0 :: l1 :: some (.int x) :: l) (.int x :: st) h := gk_iload rfl
theorem s_X_more_15  : wps rm K Q c_X_more_15 kc ks loc (st) h = wps rm K Q c_X_more_16 kc ks loc (.int (0) :: st) h := gk_ic (by decide)
theorem s_X_more_16  : wps rm K Q c_X_more_16 kc ks loc (st) h = wps rm K Q c_X_more_19 kc ks loc (.int (2000) :: st) h := gk_ic (by decide)
theorem s_X_more_19  {a1 : Value} {a2 : Value} {a3 : Value} : wps rm K Q c_X_more_19 kc ks loc (a3 :: a2 :: a1 :: st) h = (st.length ≤ 4 ∧ eg_Cs n_X_isWithin [a1, a2, a3] h (fun v h9 => wps rm K Q c_X_more_22 kc ks loc (v.toList ++ st) h9)) := eg_c0_3
theorem s_X_more_22 {x : Int32} : wps rm K Q c_X_more_22 kc ks loc (.int x :: st) h = ((x = 0 → K 37 kc ks loc st h) ∧ (¬ x = 0 → wps rm K Q c_X_more_25 kc ks loc (st) h)) := gk_if1_eq
theorem s_X_more_25 {x : Int32} {l0 l1 l2 l3 : Option Value} {l : eg_Lo} : wps rm K Q c_X_more_25 kc ks (l0 :: l1 :: l2 :: l3 :: some (.int x) :: l) (st) h = wps rm K Q c_X_more_27 kc ks (l0 :: l1 :: l2 :: l3 :: some (.int x) :: l) (.int x :: st) h := gk_iload rfl
theorem s_X_more_27  : wps rm K Q c_X_more_27 kc ks loc (st) h = wps rm K Q c_X_more_28 kc ks loc (.int (0) :: st) h := gk_ic (by decide)
theorem s_X_more_28  : wps rm K Q c_X_more_28 kc ks loc (st) h = wps rm K Q c_X_more_31 kc ks loc (.int (2000) :: st) h := gk_ic (by decide)
theorem s_X_more_31  {a1 : Value} {a2 : Value} {a3 : Value} : wps rm K Q c_X_more_31 kc ks loc (a3 :: a2 :: a1 :: st) h = (st.length ≤ 4 ∧ eg_Cs n_X_isWithin [a1, a2, a3] h (fun v h9 => wps rm K Q c_X_more_34 kc ks loc (v.toList ++ st) h9)) := eg_c0_3
theorem s_X_more_34 {x : Int32} : wps rm K Q c_X_more_34 kc ks loc (.int x :: st) h = ((¬ x = 0 → K 45 kc ks loc st h) ∧ (x = 0 → wps rm K Q c_X_more_37 kc ks loc (st) h)) := gk_if1_ne
theorem s_X_more_37 {x : Nat} {l : eg_Lo} : wps rm K Q c_X_more_37 kc ks (some (.ref x) :: l) (st) h = wps rm K Q c_X_more_38 kc ks (some (.ref x) :: l) (.ref x :: st) h := gk_aload rfl
theorem s_X_more_38  : wps rm K Q c_X_more_38 kc ks loc (st) h = wps rm K Q c_X_more_41 kc ks loc (.long (-1000000000000000001) :: st) h := gk_lc (by decide)
theorem s_X_more_41  {a1 : Value} {x : Nat} : wps rm K Q c_X_more_41 kc ks loc (a1 :: .ref (x + 1) :: st) h = (eg_cls h x 11 ∧ st.length ≤ 4 ∧ eg_Cs n_X_found (.ref (x + 1) :: [a1]) h (fun v h9 => wps rm K Q c_X_more_44 kc ks loc (v.toList ++ st) h9)) := eg_c1_1
theorem s_X_more_44 {x : Int64} : wps rm K Q c_X_more_44 kc ks loc ([.long x]) h = (kc = rm.cells ∧ Q (some (.long x)) h) := gk_lret
theorem s_X_more_45 {x : Nat} {l : eg_Lo} : wps rm K Q c_X_more_45 kc ks (some (.ref x) :: l) (st) h = wps rm K Q c_X_more_46 kc ks (some (.ref x) :: l) (.ref x :: st) h := gk_aload rfl
theorem s_X_more_46 {x : Nat} : wps rm K Q c_X_more_46 kc ks loc (.ref (x + 1) :: st) h = eg_gf h x 11 2 (fun v => wps rm K Q c_X_more_49 kc ks loc (v :: st) h) := gk_gf
theorem s_X_more_49 {x : Int32} {l0 : Option Value} {l : eg_Lo} : wps rm K Q c_X_more_49 kc ks (l0 :: some (.int x) :: l) (st) h = wps rm K Q c_X_more_50 kc ks (l0 :: some (.int x) :: l) (.int x :: st) h := gk_iload rfl
theorem s_X_more_50 {x : Nat} {i : Int32} : wps rm K Q c_X_more_50 kc ks loc (.int i :: .ref (x + 1) :: st) h = eg_aa h x i (fun v => wps rm K Q c_X_more_51 kc ks loc (v :: st) h) := gk_aaload
theorem s_X_more_51  {x : Nat} : wps rm K Q c_X_more_51 kc ks loc (.ref (x + 1) :: st) h = (eg_cls h x 2 ∧ st.length ≤ 4 ∧ eg_Cs n_Fig_isOne (.ref (x + 1) :: []) h (fun v h9 => wps rm K Q c_X_more_54 kc ks loc (v.toList ++ st) h9)) := eg_c1_0
theorem s_X_more_54 {x : Int32} : wps rm K Q c_X_more_54 kc ks loc (.int x :: st) h = ((x = 0 → K 69 kc ks loc st h) ∧ (¬ x = 0 → wps rm K Q c_X_more_57 kc ks loc (st) h)) := gk_if1_eq
theorem s_X_more_57 {x : Nat} {l : eg_Lo} : wps rm K Q c_X_more_57 kc ks (some (.ref x) :: l) (st) h = wps rm K Q c_X_more_58 kc ks (some (.ref x) :: l) (.ref x :: st) h := gk_aload rfl
theorem s_X_more_58 {x : Nat} : wps rm K Q c_X_more_58 kc ks loc (.ref (x + 1) :: st) h = eg_gf h x 11 2 (fun v => wps rm K Q c_X_more_61 kc ks loc (v :: st) h) := gk_gf
theorem s_X_more_61 {x : Int32} {l0 l1 l2 : Option Value} {l : eg_Lo} : wps rm K Q c_X_more_61 kc ks (l0 :: l1 :: l2 :: some (.int x) :: l) (st) h = wps rm K Q c_X_more_62 kc ks (l0 :: l1 :: l2 :: some (.int x) :: l) (.int x :: st) h := gk_iload rfl
theorem s_X_more_62 {x : Nat} {i : Int32} : wps rm K Q c_X_more_62 kc ks loc (.int i :: .ref (x + 1) :: st) h = eg_aa h x i (fun v => wps rm K Q c_X_more_63 kc ks loc (v :: st) h) := gk_aaload
theorem s_X_more_63  {x : Nat} : wps rm K Q c_X_more_63 kc ks loc (.ref (x + 1) :: st) h = (eg_cls h x 2 ∧ st.length ≤ 4 ∧ eg_Cs n_Fig_isOne (.ref (x + 1) :: []) h (fun v h9 => wps rm K Q c_X_more_66 kc ks loc (v.toList ++ st) h9)) := eg_c1_0
theorem s_X_more_66 {x : Int32} : wps rm K Q c_X_more_66 kc ks loc (.int x :: st) h = ((¬ x = 0 → K 77 kc ks loc st h) ∧ (x = 0 → wps rm K Q c_X_more_69 kc ks loc (st) h)) := gk_if1_ne
theorem s_X_more_69 {x : Nat} {l : eg_Lo} : wps rm K Q c_X_more_69 kc ks (some (.ref x) :: l) (st) h = wps rm K Q c_X_more_70 kc ks (some (.ref x) :: l) (.ref x :: st) h := gk_aload rfl
theorem s_X_more_70  : wps rm K Q c_X_more_70 kc ks loc (st) h = wps rm K Q c_X_more_73 kc ks loc (.long (-1000000000000000006) :: st) h := gk_lc (by decide)
theorem s_X_more_73  {a1 : Value} {x : Nat} : wps rm K Q c_X_more_73 kc ks loc (a1 :: .ref (x + 1) :: st) h = (eg_cls h x 11 ∧ st.length ≤ 4 ∧ eg_Cs n_X_found (.ref (x + 1) :: [a1]) h (fun v h9 => wps rm K Q c_X_more_76 kc ks loc (v.toList ++ st) h9)) := eg_c1_1
theorem s_X_more_76 {x : Int64} : wps rm K Q c_X_more_76 kc ks loc ([.long x]) h = (kc = rm.cells ∧ Q (some (.long x)) h) := gk_lret
theorem s_X_more_77 {x : Nat} {l : eg_Lo} : wps rm K Q c_X_more_77 kc ks (some (.ref x) :: l) (st) h = wps rm K Q c_X_more_78 kc ks (some (.ref x) :: l) (.ref x :: st) h := gk_aload rfl
theorem s_X_more_78 {x : Nat} : wps rm K Q c_X_more_78 kc ks loc (.ref (x + 1) :: st) h = eg_gf h x 11 2 (fun v => wps rm K Q c_X_more_81 kc ks loc (v :: st) h) := gk_gf
theorem s_X_more_81 {x : Int32} {l0 : Option Value} {l : eg_Lo} : wps rm K Q c_X_more_81 kc ks (l0 :: some (.int x) :: l) (st) h = wps rm K Q c_X_more_82 kc ks (l0 :: some (.int x) :: l) (.int x :: st) h := gk_iload rfl
theorem s_X_more_82 {x : Nat} {i : Int32} : wps rm K Q c_X_more_82 kc ks loc (.int i :: .ref (x + 1) :: st) h = eg_aa h x i (fun v => wps rm K Q c_X_more_83 kc ks loc (v :: st) h) := gk_aaload
theorem s_X_more_83  : wps rm K Q c_X_more_83 kc ks loc (st) h = wps rm K Q c_X_more_84 kc ks loc (.int (1) :: st) h := gk_ic (by decide)
theorem s_X_more_84  {a1 : Value} {x : Nat} : wps rm K Q c_X_more_84 kc ks loc (a1 :: .ref (x + 1) :: st) h = (eg_cls h x 2 ∧ st.length ≤ 4 ∧ eg_Cs n_Fig_isOfKind (.ref (x + 1) :: [a1]) h (fun v h9 => wps rm K Q c_X_more_87 kc ks loc (v.toList ++ st) h9)) := eg_c1_1
theorem s_X_more_87 {x : Int32} : wps rm K Q c_X_more_87 kc ks loc (.int x :: st) h = ((x = 0 → K 103 kc ks loc st h) ∧ (¬ x = 0 → wps rm K Q c_X_more_90 kc ks loc (st) h)) := gk_if1_eq
theorem s_X_more_90 {x : Nat} {l : eg_Lo} : wps rm K Q c_X_more_90 kc ks (some (.ref x) :: l) (st) h = wps rm K Q c_X_more_91 kc ks (some (.ref x) :: l) (.ref x :: st) h := gk_aload rfl
theorem s_X_more_91 {x : Nat} : wps rm K Q c_X_more_91 kc ks loc (.ref (x + 1) :: st) h = eg_gf h x 11 2 (fun v => wps rm K Q c_X_more_94 kc ks loc (v :: st) h) := gk_gf
theorem s_X_more_94 {x : Int32} {l0 l1 l2 : Option Value} {l : eg_Lo} : wps rm K Q c_X_more_94 kc ks (l0 :: l1 :: l2 :: some (.int x) :: l) (st) h = wps rm K Q c_X_more_95 kc ks (l0 :: l1 :: l2 :: some (.int x) :: l) (.int x :: st) h := gk_iload rfl
theorem s_X_more_95 {x : Nat} {i : Int32} : wps rm K Q c_X_more_95 kc ks loc (.int i :: .ref (x + 1) :: st) h = eg_aa h x i (fun v => wps rm K Q c_X_more_96 kc ks loc (v :: st) h) := gk_aaload
theorem s_X_more_96  : wps rm K Q c_X_more_96 kc ks loc (st) h = wps rm K Q c_X_more_97 kc ks loc (.int (4) :: st) h := gk_ic (by decide)
theorem s_X_more_97  {a1 : Value} {x : Nat} : wps rm K Q c_X_more_97 kc ks loc (a1 :: .ref (x + 1) :: st) h = (eg_cls h x 2 ∧ st.length ≤ 4 ∧ eg_Cs n_Fig_isOfKind (.ref (x + 1) :: [a1]) h (fun v h9 => wps rm K Q c_X_more_100 kc ks loc (v.toList ++ st) h9)) := eg_c1_1
theorem s_X_more_100 {x : Int32} : wps rm K Q c_X_more_100 kc ks loc (.int x :: st) h = ((¬ x = 0 → K 111 kc ks loc st h) ∧ (x = 0 → wps rm K Q c_X_more_103 kc ks loc (st) h)) := gk_if1_ne
theorem s_X_more_103 {x : Nat} {l : eg_Lo} : wps rm K Q c_X_more_103 kc ks (some (.ref x) :: l) (st) h = wps rm K Q c_X_more_104 kc ks (some (.ref x) :: l) (.ref x :: st) h := gk_aload rfl
theorem s_X_more_104  : wps rm K Q c_X_more_104 kc ks loc (st) h = wps rm K Q c_X_more_107 kc ks loc (.long (-1000000000000000004) :: st) h := gk_lc (by decide)
theorem s_X_more_107  {a1 : Value} {x : Nat} : wps rm K Q c_X_more_107 kc ks loc (a1 :: .ref (x + 1) :: st) h = (eg_cls h x 11 ∧ st.length ≤ 4 ∧ eg_Cs n_X_found (.ref (x + 1) :: [a1]) h (fun v h9 => wps rm K Q c_X_more_110 kc ks loc (v.toList ++ st) h9)) := eg_c1_1
theorem s_X_more_110 {x : Int64} : wps rm K Q c_X_more_110 kc ks loc ([.long x]) h = (kc = rm.cells ∧ Q (some (.long x)) h) := gk_lret
theorem s_X_more_111  : wps rm K Q c_X_more_111 kc ks loc (st) h = wps rm K Q c_X_more_112 kc ks loc (.int (0) :: st) h := gk_ic (by decide)
theorem s_X_more_112 {x : Int32} {l0 l1 l2 l3 : Option Value} {l : eg_Lo} : wps rm K Q c_X_more_112 kc ks (l0 :: l1 :: l2 :: l3 :: some (.int x) :: l) (st) h = wps rm K Q c_X_more_114 kc ks (l0 :: l1 :: l2 :: l3 :: some (.int x) :: l) (.int x :: st) h := gk_iload rfl
theorem s_X_more_114 {x : Nat} {l : eg_Lo} : wps rm K Q c_X_more_114 kc ks (some (.ref x) :: l) (st) h = wps rm K Q c_X_more_115 kc ks (some (.ref x) :: l) (.ref x :: st) h := gk_aload rfl
theorem s_X_more_115 {x : Nat} : wps rm K Q c_X_more_115 kc ks loc (.ref (x + 1) :: st) h = eg_gf h x 11 2 (fun v => wps rm K Q c_X_more_118 kc ks loc (v :: st) h) := gk_gf
theorem s_X_more_118 {x : Int32} {l0 l1 l2 : Option Value} {l : eg_Lo} : wps rm K Q c_X_more_118 kc ks (l0 :: l1 :: l2 :: some (.int x) :: l) (st) h = wps rm K Q c_X_more_119 kc ks (l0 :: l1 :: l2 :: some (.int x) :: l) (.int x :: st) h := gk_iload rfl
theorem s_X_more_119 {x : Nat} {i : Int32} : wps rm K Q c_X_more_119 kc ks loc (.int i :: .ref (x + 1) :: st) h = eg_aa h x i (fun v => wps rm K Q c_X_more_120 kc ks loc (v :: st) h) := gk_aaload
theorem s_X_more_120  {x : Nat} : wps rm K Q c_X_more_120 kc ks loc (.ref (x + 1) :: st) h = (eg_cls h x 2 ∧ st.length ≤ 4 ∧ eg_Cs n_Fig_leastKept (.ref (x + 1) :: []) h (fun v h9 => wps rm K Q c_X_more_123 kc ks loc (v.toList ++ st) h9)) := eg_c1_0
theorem s_X_more_123 {x y : Int32} : wps rm K Q c_X_more_123 kc ks loc (.int y :: .int x :: st) h = wps rm K Q c_X_more_124 kc ks loc (.int (x - y) :: st) h := gk_isub
theorem s_X_more_124  {a1 : Value} {a2 : Value} : wps rm K Q c_X_more_124 kc ks loc (a2 :: a1 :: st) h = (st.length ≤ 4 ∧ eg_Cs n_Math_max [a1, a2] h (fun v h9 => wps rm K Q c_X_more_127 kc ks loc (v.toList ++ st) h9)) := eg_c0_2
theorem s_X_more_127 {x : Int32} : wps rm K Q c_X_more_127 kc ks loc (.int x :: st) h = wps rm K Q c_X_more_129 kc ks (eg_set1 loc 5 (.int x)) (st) h := gk_istore
theorem s_X_more_129 {x : Nat} {l : eg_Lo} : wps rm K Q c_X_more_129 kc ks (some (.ref x) :: l) (st) h = wps rm K Q c_X_more_130 kc ks (some (.ref x) :: l) (.ref x :: st) h := gk_aload rfl
theorem s_X_more_130 {x : Nat} : wps rm K Q c_X_more_130 kc ks loc (.ref (x + 1) :: st) h = eg_gf h x 11 2 (fun v => wps rm K Q c_X_more_133 kc ks loc (v :: st) h) := gk_gf
theorem s_X_more_133 {x : Int32} {l0 : Option Value} {l : eg_Lo} : wps rm K Q c_X_more_133 kc ks (l0 :: some (.int x) :: l) (st) h = wps rm K Q c_X_more_134 kc ks (l0 :: some (.int x) :: l) (.int x :: st) h := gk_iload rfl
theorem s_X_more_134 {x : Nat} {i : Int32} : wps rm K Q c_X_more_134 kc ks loc (.int i :: .ref (x + 1) :: st) h = eg_aa h x i (fun v => wps rm K Q c_X_more_135 kc ks loc (v :: st) h) := gk_aaload
theorem s_X_more_135  {x : Nat} : wps rm K Q c_X_more_135 kc ks loc (.ref (x + 1) :: st) h = (eg_cls h x 2 ∧ st.length ≤ 4 ∧ eg_Cs n_Fig_leastKept (.ref (x + 1) :: []) h (fun v h9 => wps rm K Q c_X_more_138 kc ks loc (v.toList ++ st) h9)) := eg_c1_0
theorem s_X_more_138 {x : Int32} {l0 l1 : Option Value} {l : eg_Lo} : wps rm K Q c_X_more_138 kc ks (l0 :: l1 :: some (.int x) :: l) (st) h = wps rm K Q c_X_more_139 kc ks (l0 :: l1 :: some (.int x) :: l) (.int x :: st) h := gk_iload rfl
theorem s_X_more_139 {x : Int32} {l0 l1 l2 l3 l4 : Option Value} {l : eg_Lo} : wps rm K Q c_X_more_139 kc ks (l0 :: l1 :: l2 :: l3 :: l4 :: some (.int x) :: l) (st) h = wps rm K Q c_X_more_141 kc ks (l0 :: l1 :: l2 :: l3 :: l4 :: some (.int x) :: l) (.int x :: st) h := gk_iload rfl
theorem s_X_more_141 {x y : Int32} : wps rm K Q c_X_more_141 kc ks loc (.int y :: .int x :: st) h = wps rm K Q c_X_more_142 kc ks loc (.int (x + y) :: st) h := gk_iadd
theorem s_X_more_142 {x y : Int32} : wps rm K Q c_X_more_142 kc ks loc (.int y :: .int x :: st) h = ((y < x → K 149 kc ks loc st h) ∧ (¬ y < x → wps rm K Q c_X_more_145 kc ks loc (st) h)) := gk_if2_gt
theorem s_X_more_145  : wps rm K Q c_X_more_145 kc ks loc (st) h = wps rm K Q c_X_more_146 kc ks loc (.long (1) :: st) h := gk_lc (by decide)
theorem s_X_more_146  : wps rm K Q c_X_more_146 kc ks loc (st) h = K 150 kc ks loc st h := gk_goto
theorem s_X_more_149  : wps rm K Q c_X_more_149 kc ks loc (st) h = wps rm K Q c_X_more_150 kc ks loc (.long (0) :: st) h := gk_lc (by decide)
theorem s_X_more_150 {x : Int64} : wps rm K Q c_X_more_150 kc ks loc ([.long x]) h = (kc = rm.cells ∧ Q (some (.long x)) h) := gk_lret
def T_X_more : List (Nat × List eg_I) := [(37, c_X_more_37), (45, c_X_more_45), (69, c_X_more_69), (77, c_X_more_77), (103, c_X_more_103), (111, c_X_more_111), (149, c_X_more_149), (150, c_X_more_150)]
theorem j_X_more_37 {R : Nat → Nat → Nat → eg_Lo → List Value → List eg_E → Prop} {f pc0 : Nat} : eg_run rm R Q T_X_more (f + 1) 37 kc ks loc st h = wps rm (eg_run rm R Q T_X_more f) Q c_X_more_37 kc ks loc st h := rfl
theorem j_X_more_45 {R : Nat → Nat → Nat → eg_Lo → List Value → List eg_E → Prop} {f pc0 : Nat} : eg_run rm R Q T_X_more (f + 1) 45 kc ks loc st h = wps rm (eg_run rm R Q T_X_more f) Q c_X_more_45 kc ks loc st h := rfl
theorem j_X_more_69 {R : Nat → Nat → Nat → eg_Lo → List Value → List eg_E → Prop} {f pc0 : Nat} : eg_run rm R Q T_X_more (f + 1) 69 kc ks loc st h = wps rm (eg_run rm R Q T_X_more f) Q c_X_more_69 kc ks loc st h := rfl
theorem j_X_more_77 {R : Nat → Nat → Nat → eg_Lo → List Value → List eg_E → Prop} {f pc0 : Nat} : eg_run rm R Q T_X_more (f + 1) 77 kc ks loc st h = wps rm (eg_run rm R Q T_X_more f) Q c_X_more_77 kc ks loc st h := rfl
theorem j_X_more_103 {R : Nat → Nat → Nat → eg_Lo → List Value → List eg_E → Prop} {f pc0 : Nat} : eg_run rm R Q T_X_more (f + 1) 103 kc ks loc st h = wps rm (eg_run rm R Q T_X_more f) Q c_X_more_103 kc ks loc st h := rfl
theorem j_X_more_111 {R : Nat → Nat → Nat → eg_Lo → List Value → List eg_E → Prop} {f pc0 : Nat} : eg_run rm R Q T_X_more (f + 1) 111 kc ks loc st h = wps rm (eg_run rm R Q T_X_more f) Q c_X_more_111 kc ks loc st h := rfl
theorem j_X_more_149 {R : Nat → Nat → Nat → eg_Lo → List Value → List eg_E → Prop} {f pc0 : Nat} : eg_run rm R Q T_X_more (f + 1) 149 kc ks loc st h = wps rm (eg_run rm R Q T_X_more f) Q c_X_more_149 kc ks loc st h := rfl
theorem j_X_more_150 {R : Nat → Nat → Nat → eg_Lo → List Value → List eg_E → Prop} {f pc0 : Nat} : eg_run rm R Q T_X_more (f + 1) 150 kc ks loc st h = wps rm (eg_run rm R Q T_X_more f) Q c_X_more_150 kc ks loc st h := rfl
end
theorem y_X_more_0 : eg_seq m_X_more 0 c_X_more_0 = true := by decide +kernel
theorem y_X_more_45 : eg_seq m_X_more 45 c_X_more_45 = true := by decide +kernel
theorem y_X_more_77 : eg_seq m_X_more 77 c_X_more_77 = true := by decide +kernel
theorem y_X_more_111 : eg_seq m_X_more 111 c_X_more_111 = true := by decide +kernel
theorem y_X_more_149 : eg_seq m_X_more 149 c_X_more_149 = true := by decide +kernel
theorem q_X_more : ∀ q ∈ T_X_more, eg_seq m_X_more q.1 q.2 = true := by
  intro q hq
  simp only [T_X_more, List.mem_cons, List.not_mem_nil, or_false] at hq
  rcases hq with rfl | rfl | rfl | rfl | rfl | rfl | rfl | rfl
  · exact (eg_seq_drop y_X_more_0 16 : eg_seq m_X_more 37 c_X_more_37 = true)
  · exact y_X_more_45
  · exact (eg_seq_drop y_X_more_45 12 : eg_seq m_X_more 69 c_X_more_69 = true)
  · exact y_X_more_77
  · exact (eg_seq_drop y_X_more_77 14 : eg_seq m_X_more 103 c_X_more_103 = true)
  · exact y_X_more_111
  · exact y_X_more_149
  · exact (eg_seq_drop y_X_more_149 1 : eg_seq m_X_more 150 c_X_more_150 = true)
theorem b_X_more {as : List Value} {h : List eg_E} {Q : Option Value → List eg_E → Prop} (hf : (eg_fl as).length ≤ 6) (hw : wps (eg_rm m_X_more) (eg_run (eg_rm m_X_more) (eg_R m_X_more Q (h.length + 0)) Q T_X_more 10) Q c_X_more_0 0 0 (eg_entry 6 as) [] h) : eg_Runs n_X_more as h Q := eg_begin2 (d := m_X_more) rfl (by decide) y_X_more_0 q_X_more hf hw
/-! ===== X_frame ===== -/
def c_X_frame_149 : List eg_I := .inl (149, 1, .lreturn, 0, 0) :: []
def c_X_frame_148 : List eg_I := .inl (148, 1, .sipush (1), 0, 0) :: c_X_frame_149
def c_X_frame_145 : List eg_I := .inr (145, 1, 264, n_Frame_begin, 2, 5, 0, 0) :: c_X_frame_148
def c_X_frame_143 : List eg_I := .inl (143, 2, .iload 6, 0, 0) :: c_X_frame_145
def c_X_frame_142 : List eg_I := .inl (142, 1, .aaload, 0, 0) :: c_X_frame_143
def c_X_frame_140 : List eg_I := .inl (140, 2, .iload 5, 0, 0) :: c_X_frame_142
def c_X_frame_137 : List eg_I := .inl (137, 3, .getfield 11, 11, 0) :: c_X_frame_140
def c_X_frame_136 : List eg_I := .inl (136, 1, .aload 0, 0, 0) :: c_X_frame_137
def c_X_frame_133 : List eg_I := .inl (133, 3, .getfield 51, 11, 6) :: c_X_frame_136
def c_X_frame_132 : List eg_I := .inl (132, 1, .aload 0, 0, 0) :: c_X_frame_133
def c_X_frame_131 : List eg_I := .inl (131, 1, .lreturn, 0, 0) :: []
def c_X_frame_128 : List eg_I := .inr (128, 1, 86, n_X_found, 1, 11, 0, 0) :: c_X_frame_131
def c_X_frame_125 : List eg_I := .inl (125, 3, .sipush (-1000000000000000003), 163, 0) :: c_X_frame_128
def c_X_frame_124 : List eg_I := .inl (124, 1, .aload 0, 0, 0) :: c_X_frame_125
def c_X_frame_121 : List eg_I := .inl (121, 3, .ifCond .ne (11), 132, 0) :: c_X_frame_124
def c_X_frame_118 : List eg_I := .inr (118, 1, 260, n_Frame_layWays, 4, 5, 0, 0) :: c_X_frame_121
def c_X_frame_116 : List eg_I := .inl (116, 2, .iload 4, 0, 0) :: c_X_frame_118
def c_X_frame_115 : List eg_I := .inl (115, 1, .iload 3, 0, 0) :: c_X_frame_116
def c_X_frame_114 : List eg_I := .inl (114, 1, .iload 2, 0, 0) :: c_X_frame_115
def c_X_frame_111 : List eg_I := .inl (111, 3, .getfield 238, 2, 1) :: c_X_frame_114
def c_X_frame_110 : List eg_I := .inl (110, 1, .aaload, 0, 0) :: c_X_frame_111
def c_X_frame_109 : List eg_I := .inl (109, 1, .iload 1, 0, 0) :: c_X_frame_110
def c_X_frame_106 : List eg_I := .inl (106, 3, .getfield 23, 11, 2) :: c_X_frame_109
def c_X_frame_105 : List eg_I := .inl (105, 1, .aload 0, 0, 0) :: c_X_frame_106
def c_X_frame_102 : List eg_I := .inl (102, 3, .getfield 51, 11, 6) :: c_X_frame_105
def c_X_frame_101 : List eg_I := .inl (101, 1, .aload 0, 0, 0) :: c_X_frame_102
def c_X_frame_100 : List eg_I := .inl (100, 1, .lreturn, 0, 0) :: []
def c_X_frame_97 : List eg_I := .inr (97, 1, 86, n_X_found, 1, 11, 0, 0) :: c_X_frame_100
def c_X_frame_94 : List eg_I := .inl (94, 3, .sipush (-1000000000000000007), 113, 0) :: c_X_frame_97
def c_X_frame_93 : List eg_I := .inl (93, 1, .aload 0, 0, 0) :: c_X_frame_94
def c_X_frame_90 : List eg_I := .inl (90, 3, .ifCond .eq (11), 101, 0) :: c_X_frame_93
def c_X_frame_89 : List eg_I := .inl (89, 1, .baload, 0, 0) :: c_X_frame_90
def c_X_frame_87 : List eg_I := .inl (87, 2, .iload 6, 0, 0) :: c_X_frame_89
def c_X_frame_84 : List eg_I := .inl (84, 3, .getfield 109, 8, 3) :: c_X_frame_87
def c_X_frame_83 : List eg_I := .inl (83, 1, .aaload, 0, 0) :: c_X_frame_84
def c_X_frame_81 : List eg_I := .inl (81, 2, .iload 5, 0, 0) :: c_X_frame_83
def c_X_frame_78 : List eg_I := .inl (78, 3, .getfield 11, 11, 0) :: c_X_frame_81
def c_X_frame_77 : List eg_I := .inl (77, 1, .aload 0, 0, 0) :: c_X_frame_78
def c_X_frame_76 : List eg_I := .inl (76, 1, .lreturn, 0, 0) :: []
def c_X_frame_73 : List eg_I := .inr (73, 1, 86, n_X_found, 1, 11, 0, 0) :: c_X_frame_76
def c_X_frame_70 : List eg_I := .inl (70, 3, .sipush (-1000000000000000004), 183, 0) :: c_X_frame_73
def c_X_frame_69 : List eg_I := .inl (69, 1, .aload 0, 0, 0) :: c_X_frame_70
def c_X_frame_66 : List eg_I := .inl (66, 3, .if_icmp .eq (11), 77, 0) :: c_X_frame_69
def c_X_frame_65 : List eg_I := .inl (65, 1, .iconst (3), 0, 0) :: c_X_frame_66
def c_X_frame_62 : List eg_I := .inl (62, 3, .getfield 221, 2, 5) :: c_X_frame_65
def c_X_frame_61 : List eg_I := .inl (61, 1, .aaload, 0, 0) :: c_X_frame_62
def c_X_frame_60 : List eg_I := .inl (60, 1, .iload 1, 0, 0) :: c_X_frame_61
def c_X_frame_57 : List eg_I := .inl (57, 3, .getfield 23, 11, 2) :: c_X_frame_60
def c_X_frame_56 : List eg_I := .inl (56, 1, .aload 0, 0, 0) :: c_X_frame_57
def c_X_frame_55 : List eg_I := .inl (55, 1, .lreturn, 0, 0) :: []
def c_X_frame_52 : List eg_I := .inr (52, 1, 86, n_X_found, 1, 11, 0, 0) :: c_X_frame_55
def c_X_frame_49 : List eg_I := .inl (49, 3, .sipush (-1000000000000000006), 158, 0) :: c_X_frame_52
def c_X_frame_48 : List eg_I := .inl (48, 1, .aload 0, 0, 0) :: c_X_frame_49
def c_X_frame_45 : List eg_I := .inl (45, 3, .ifCond .ne (11), 56, 0) :: c_X_frame_48
def c_X_frame_42 : List eg_I := .inr (42, 1, 218, n_Fig_isOne, 0, 2, 0, 0) :: c_X_frame_45
def c_X_frame_41 : List eg_I := .inl (41, 1, .aaload, 0, 0) :: c_X_frame_42
def c_X_frame_40 : List eg_I := .inl (40, 1, .iload 1, 0, 0) :: c_X_frame_41
def c_X_frame_37 : List eg_I := .inl (37, 3, .getfield 23, 11, 2) :: c_X_frame_40
def c_X_frame_36 : List eg_I := .inl (36, 1, .aload 0, 0, 0) :: c_X_frame_37
def c_X_frame_35 : List eg_I := .inl (35, 1, .lreturn, 0, 0) :: []
def c_X_frame_32 : List eg_I := .inr (32, 1, 86, n_X_found, 1, 11, 0, 0) :: c_X_frame_35
def c_X_frame_29 : List eg_I := .inl (29, 3, .sipush (-1000000000000000001), 84, 0) :: c_X_frame_32
def c_X_frame_28 : List eg_I := .inl (28, 1, .aload 0, 0, 0) :: c_X_frame_29
def c_X_frame_25 : List eg_I := .inl (25, 3, .ifCond .ne (11), 36, 0) :: c_X_frame_28
def c_X_frame_22 : List eg_I := .inr (22, 0, 257, n_X_isDirection, 3, 11, 0, 0) :: c_X_frame_25
def c_X_frame_20 : List eg_I := .inl (20, 2, .iload 4, 0, 0) :: c_X_frame_22
def c_X_frame_19 : List eg_I := .inl (19, 1, .iload 3, 0, 0) :: c_X_frame_20
def c_X_frame_18 : List eg_I := .inl (18, 1, .iload 2, 0, 0) :: c_X_frame_19
def c_X_frame_15 : List eg_I := .inl (15, 3, .ifCond .eq (13), 28, 0) :: c_X_frame_18
def c_X_frame_12 : List eg_I := .inr (12, 1, 106, n_X_isPoint, 2, 11, 0, 0) :: c_X_frame_15
def c_X_frame_10 : List eg_I := .inl (10, 2, .iload 6, 0, 0) :: c_X_frame_12
def c_X_frame_8 : List eg_I := .inl (8, 2, .iload 5, 0, 0) :: c_X_frame_10
def c_X_frame_7 : List eg_I := .inl (7, 1, .aload 0, 0, 0) :: c_X_frame_8
def c_X_frame_4 : List eg_I := .inl (4, 3, .ifCond .eq (24), 28, 0) :: c_X_frame_7
def c_X_frame_1 : List eg_I := .inr (1, 0, 202, n_X_isFigure, 1, 11, 0, 0) :: c_X_frame_4
def c_X_frame_0 : List eg_I := .inl (0, 1, .iload 1, 0, 0) :: c_X_frame_1
section
variable {rm : Room} {K : Nat → Nat → Nat → eg_Lo → List Value → List eg_E → Prop} {Q : Option Value → List eg_E → Prop} {kc ks : Nat} {loc : eg_Lo} {st : List Value} {h : List eg_E}
theorem s_X_frame_0 {x : Int32} {l0 : Option Value} {l : eg_Lo} : wps rm K Q c_X_frame_0 kc ks (l0 :: some (.int x) :: l) (st) h = wps rm K Q c_X_frame_1 kc ks (l0 :: some (.int x) :: l) (.int x :: st) h := gk_iload rfl
theorem s_X_frame_1  {a1 : Value} : wps rm K Q c_X_frame_1 kc ks loc (a1 :: st) h = (st.length ≤ 4 ∧ eg_Cs n_X_isFigure [a1] h (fun v h9 => wps rm K Q c_X_frame_4 kc ks loc (v.toList ++ st) h9)) := eg_c0_1
theorem s_X_frame_4 {x : Int32} : wps rm K Q c_X_frame_4 kc ks loc (.int x :: st) h = ((x = 0 → K 28 kc ks loc st h) ∧ (¬ x = 0 → wps rm K Q c_X_frame_7 kc ks loc (st) h)) := gk_if1_eq
theorem s_X_frame_7 {x : Nat} {l : eg_Lo} : wps rm K Q c_X_frame_7 kc ks (some (.ref x) :: l) (st) h = wps rm K Q c_X_frame_8 kc ks (some (.ref x) :: l) (.ref x :: st) h := gk_aload rfl
theorem s_X_frame_8 {x : Int32} {l0 l1 l2 l3 l4 : Option Value} {l : eg_Lo} : wps rm K Q c_X_frame_8 kc ks (l0 :: l1 :: l2 :: l3 :: l4 :: some (.int x) :: l) (st) h = wps rm K Q c_X_frame_10 kc ks (l0 :: l1 :: l2 :: l3 :: l4 :: some (.int x) :: l) (.int x :: st) h := gk_iload rfl
theorem s_X_frame_10 {x : Int32} {l0 l1 l2 l3 l4 l5 : Option Value} {l : eg_Lo} : wps rm K Q c_X_frame_10 kc ks (l0 :: l1 :: l2 :: l3 :: l4 :: l5 :: some (.int x) :: l) (st) h = wps rm K Q c_X_frame_12 kc ks (l0 :: l1 :: l2 :: l3 :: l4 :: l5 :: some (.int x) :: l) (.int x :: st) h := gk_iload rfl
theorem s_X_frame_12  {a1 : Value} {a2 : Value} {x : Nat} : wps rm K Q c_X_frame_12 kc ks loc (a2 :: a1 :: .ref (x + 1) :: st) h = (eg_cls h x 11 ∧ st.length ≤ 4 ∧ eg_Cs n_X_isPoint (.ref (x + 1) :: [a1, a2]) h (fun v h9 => wps rm K Q c_X_frame_15 kc ks loc (v.toList ++ st) h9)) := eg_c1_2
theorem s_X_frame_15 {x : Int32} : wps rm K Q c_X_frame_15 kc ks loc (.int x :: st) h = ((x = 0 → K 28 kc ks loc st h) ∧ (¬ x = 0 → wps rm K Q c_X_frame_18 kc ks loc (st) h)) := gk_if1_eq
theorem s_X_frame_18 {x : Int32} {l0 l1 : Option Value} {l : eg_Lo} : wps rm K Q c_X_frame_18 kc ks (l0 :: l1 :: some (.int x) :: l) (st) h = wps rm K Q c_X_frame_19 kc ks (l0 :: l1 :: some (.int x) :: l) (.int x :: st) h := gk_iload rfl
theorem s_X_frame_19 {x : Int32} {l0 l1 l2 : Option Value} {l : eg_Lo} : wps rm K Q c_X_frame_19 kc ks (l0 :: l1 :: l2 :: some (.int x) :: l) (st) h = wps rm K Q c_X_frame_20 kc ks (l0 :: l1 :: l2 :: some (.int x) :: l) (.int x :: st) h := gk_iload rfl
theorem s_X_frame_20 {x : Int32} {l0 l1 l2 l3 : Option Value} {l : eg_Lo} : wps rm K Q c_X_frame_20 kc ks (l0 :: l1 :: l2 :: l3 :: some (.int x) :: l) (st) h = wps rm K Q c_X_frame_22 kc ks (l0 :: l1 :: l2 :: l3 :: some (.int x) :: l) (.int x :: st) h := gk_iload rfl
theorem s_X_frame_22  {a1 : Value} {a2 : Value} {a3 : Value} : wps rm K Q c_X_frame_22 kc ks loc (a3 :: a2 :: a1 :: st) h = (st.length ≤ 4 ∧ eg_Cs n_X_isDirection [a1, a2, a3] h (fun v h9 => wps rm K Q c_X_frame_25 kc ks loc (v.toList ++ st) h9)) := eg_c0_3
theorem s_X_frame_25 {x : Int32} : wps rm K Q c_X_frame_25 kc ks loc (.int x :: st) h = ((¬ x = 0 → K 36 kc ks loc st h) ∧ (x = 0 → wps rm K Q c_X_frame_28 kc ks loc (st) h)) := gk_if1_ne
theorem s_X_frame_28 {x : Nat} {l : eg_Lo} : wps rm K Q c_X_frame_28 kc ks (some (.ref x) :: l) (st) h = wps rm K Q c_X_frame_29 kc ks (some (.ref x) :: l) (.ref x :: st) h := gk_aload rfl
theorem s_X_frame_29  : wps rm K Q c_X_frame_29 kc ks loc (st) h = wps rm K Q c_X_frame_32 kc ks loc (.long (-1000000000000000001) :: st) h := gk_lc (by decide)
theorem s_X_frame_32  {a1 : Value} {x : Nat} : wps rm K Q c_X_frame_32 kc ks loc (a1 :: .ref (x + 1) :: st) h = (eg_cls h x 11 ∧ st.length ≤ 4 ∧ eg_Cs n_X_found (.ref (x + 1) :: [a1]) h (fun v h9 => wps rm K Q c_X_frame_35 kc ks loc (v.toList ++ st) h9)) := eg_c1_1
theorem s_X_frame_35 {x : Int64} : wps rm K Q c_X_frame_35 kc ks loc ([.long x]) h = (kc = rm.cells ∧ Q (some (.long x)) h) := gk_lret
theorem s_X_frame_36 {x : Nat} {l : eg_Lo} : wps rm K Q c_X_frame_36 kc ks (some (.ref x) :: l) (st) h = wps rm K Q c_X_frame_37 kc ks (some (.ref x) :: l) (.ref x :: st) h := gk_aload rfl
theorem s_X_frame_37 {x : Nat} : wps rm K Q c_X_frame_37 kc ks loc (.ref (x + 1) :: st) h = eg_gf h x 11 2 (fun v => wps rm K Q c_X_frame_40 kc ks loc (v :: st) h) := gk_gf
theorem s_X_frame_40 {x : Int32} {l0 : Option Value} {l : eg_Lo} : wps rm K Q c_X_frame_40 kc ks (l0 :: some (.int x) :: l) (st) h = wps rm K Q c_X_frame_41 kc ks (l0 :: some (.int x) :: l) (.int x :: st) h := gk_iload rfl
theorem s_X_frame_41 {x : Nat} {i : Int32} : wps rm K Q c_X_frame_41 kc ks loc (.int i :: .ref (x + 1) :: st) h = eg_aa h x i (fun v => wps rm K Q c_X_frame_42 kc ks loc (v :: st) h) := gk_aaload
theorem s_X_frame_42  {x : Nat} : wps rm K Q c_X_frame_42 kc ks loc (.ref (x + 1) :: st) h = (eg_cls h x 2 ∧ st.length ≤ 4 ∧ eg_Cs n_Fig_isOne (.ref (x + 1) :: []) h (fun v h9 => wps rm K Q c_X_frame_45 kc ks loc (v.toList ++ st) h9)) := eg_c1_0
theorem s_X_frame_45 {x : Int32} : wps rm K Q c_X_frame_45 kc ks loc (.int x :: st) h = ((¬ x = 0 → K 56 kc ks loc st h) ∧ (x = 0 → wps rm K Q c_X_frame_48 kc ks loc (st) h)) := gk_if1_ne
theorem s_X_frame_48 {x : Nat} {l : eg_Lo} : wps rm K Q c_X_frame_48 kc ks (some (.ref x) :: l) (st) h = wps rm K Q c_X_frame_49 kc ks (some (.ref x) :: l) (.ref x :: st) h := gk_aload rfl
theorem s_X_frame_49  : wps rm K Q c_X_frame_49 kc ks loc (st) h = wps rm K Q c_X_frame_52 kc ks loc (.long (-1000000000000000006) :: st) h := gk_lc (by decide)
theorem s_X_frame_52  {a1 : Value} {x : Nat} : wps rm K Q c_X_frame_52 kc ks loc (a1 :: .ref (x + 1) :: st) h = (eg_cls h x 11 ∧ st.length ≤ 4 ∧ eg_Cs n_X_found (.ref (x + 1) :: [a1]) h (fun v h9 => wps rm K Q c_X_frame_55 kc ks loc (v.toList ++ st) h9)) := eg_c1_1
theorem s_X_frame_55 {x : Int64} : wps rm K Q c_X_frame_55 kc ks loc ([.long x]) h = (kc = rm.cells ∧ Q (some (.long x)) h) := gk_lret
theorem s_X_frame_56 {x : Nat} {l : eg_Lo} : wps rm K Q c_X_frame_56 kc ks (some (.ref x) :: l) (st) h = wps rm K Q c_X_frame_57 kc ks (some (.ref x) :: l) (.ref x :: st) h := gk_aload rfl
theorem s_X_frame_57 {x : Nat} : wps rm K Q c_X_frame_57 kc ks loc (.ref (x + 1) :: st) h = eg_gf h x 11 2 (fun v => wps rm K Q c_X_frame_60 kc ks loc (v :: st) h) := gk_gf
theorem s_X_frame_60 {x : Int32} {l0 : Option Value} {l : eg_Lo} : wps rm K Q c_X_frame_60 kc ks (l0 :: some (.int x) :: l) (st) h = wps rm K Q c_X_frame_61 kc ks (l0 :: some (.int x) :: l) (.int x :: st) h := gk_iload rfl
theorem s_X_frame_61 {x : Nat} {i : Int32} : wps rm K Q c_X_frame_61 kc ks loc (.int i :: .ref (x + 1) :: st) h = eg_aa h x i (fun v => wps rm K Q c_X_frame_62 kc ks loc (v :: st) h) := gk_aaload
theorem s_X_frame_62 {x : Nat} : wps rm K Q c_X_frame_62 kc ks loc (.ref (x + 1) :: st) h = eg_gf h x 2 5 (fun v => wps rm K Q c_X_frame_65 kc ks loc (v :: st) h) := gk_gf
theorem s_X_frame_65  : wps rm K Q c_X_frame_65 kc ks loc (st) h = wps rm K Q c_X_frame_66 kc ks loc (.int (3) :: st) h := gk_ic (by decide)
theorem s_X_frame_66 {x y : Int32} : wps rm K Q c_X_frame_66 kc ks loc (.int y :: .int x :: st) h = ((x = y → K 77 kc ks loc st h) ∧ (¬ x = y → wps rm K Q c_X_frame_69 kc ks loc (st) h)) := gk_if2_eq
theorem s_X_frame_69 {x : Nat} {l : eg_Lo} : wps rm K Q c_X_frame_69 kc ks (some (.ref x) :: l) (st) h = wps rm K Q c_X_frame_70 kc ks (some (.ref x) :: l) (.ref x :: st) h := gk_aload rfl
theorem s_X_frame_70  : wps rm K Q c_X_frame_70 kc ks loc (st) h = wps rm K Q c_X_frame_73 kc ks loc (.long (-1000000000000000004) :: st) h := gk_lc (by decide)
theorem s_X_frame_73  {a1 : Value} {x : Nat} : wps rm K Q c_X_frame_73 kc ks loc (a1 :: .ref (x + 1) :: st) h = (eg_cls h x 11 ∧ st.length ≤ 4 ∧ eg_Cs n_X_found (.ref (x + 1) :: [a1]) h (fun v h9 => wps rm K Q c_X_frame_76 kc ks loc (v.toList ++ st) h9)) := eg_c1_1
theorem s_X_frame_76 {x : Int64} : wps rm K Q c_X_frame_76 kc ks loc ([.long x]) h = (kc = rm.cells ∧ Q (some (.long x)) h) := gk_lret
theorem s_X_frame_77 {x : Nat} {l : eg_Lo} : wps rm K Q c_X_frame_77 kc ks (some (.ref x) :: l) (st) h = wps rm K Q c_X_frame_78 kc ks (some (.ref x) :: l) (.ref x :: st) h := gk_aload rfl
theorem s_X_frame_78 {x : Nat} : wps rm K Q c_X_frame_78 kc ks loc (.ref (x + 1) :: st) h = eg_gf h x 11 0 (fun v => wps rm K Q c_X_frame_81 kc ks loc (v :: st) h) := gk_gf
theorem s_X_frame_81 {x : Int32} {l0 l1 l2 l3 l4 : Option Value} {l : eg_Lo} : wps rm K Q c_X_frame_81 kc ks (l0 :: l1 :: l2 :: l3 :: l4 :: some (.int x) :: l) (st) h = wps rm K Q c_X_frame_83 kc ks (l0 :: l1 :: l2 :: l3 :: l4 :: some (.int x) :: l) (.int x :: st) h := gk_iload rfl
theorem s_X_frame_83 {x : Nat} {i : Int32} : wps rm K Q c_X_frame_83 kc ks loc (.int i :: .ref (x + 1) :: st) h = eg_aa h x i (fun v => wps rm K Q c_X_frame_84 kc ks loc (v :: st) h) := gk_aaload
theorem s_X_frame_84 {x : Nat} : wps rm K Q c_X_frame_84 kc ks loc (.ref (x + 1) :: st) h = eg_gf h x 8 3 (fun v => wps rm K Q c_X_frame_87 kc ks loc (v :: st) h) := gk_gf
theorem s_X_frame_87 {x : Int32} {l0 l1 l2 l3 l4 l5 : Option Value} {l : eg_Lo} : wps rm K Q c_X_frame_87 kc ks (l0 :: l1 :: l2 :: l3 :: l4 :: l5 :: some (.int x) :: l) (st) h = wps rm K Q c_X_frame_89 kc ks (l0 :: l1 :: l2 :: l3 :: l4 :: l5 :: some (.int x) :: l) (.int x :: st) h := gk_iload rfl
theorem s_X_frame_89 {x : Nat} {i : Int32} : wps rm K Q c_X_frame_89 kc ks loc (.int i :: .ref (x + 1) :: st) h = eg_ba h x i (fun v => wps rm K Q c_X_frame_90 kc ks loc (.int v :: st) h) := gk_baload
theorem s_X_frame_90 {x : Int32} : wps rm K Q c_X_frame_90 kc ks loc (.int x :: st) h = ((x = 0 → K 101 kc ks loc st h) ∧ (¬ x = 0 → wps rm K Q c_X_frame_93 kc ks loc (st) h)) := gk_if1_eq
theorem s_X_frame_93 {x : Nat} {l : eg_Lo} : wps rm K Q c_X_frame_93 kc ks (some (.ref x) :: l) (st) h = wps rm K Q c_X_frame_94 kc ks (some (.ref x) :: l) (.ref x :: st) h := gk_aload rfl
theorem s_X_frame_94  : wps rm K Q c_X_frame_94 kc ks loc (st) h = wps rm K Q c_X_frame_97 kc ks loc (.long (-1000000000000000007) :: st) h := gk_lc (by decide)
theorem s_X_frame_97  {a1 : Value} {x : Nat} : wps rm K Q c_X_frame_97 kc ks loc (a1 :: .ref (x + 1) :: st) h = (eg_cls h x 11 ∧ st.length ≤ 4 ∧ eg_Cs n_X_found (.ref (x + 1) :: [a1]) h (fun v h9 => wps rm K Q c_X_frame_100 kc ks loc (v.toList ++ st) h9)) := eg_c1_1
theorem s_X_frame_100 {x : Int64} : wps rm K Q c_X_frame_100 kc ks loc ([.long x]) h = (kc = rm.cells ∧ Q (some (.long x)) h) := gk_lret
theorem s_X_frame_101 {x : Nat} {l : eg_Lo} : wps rm K Q c_X_frame_101 kc ks (some (.ref x) :: l) (st) h = wps rm K Q c_X_frame_102 kc ks (some (.ref x) :: l) (.ref x :: st) h := gk_aload rfl
theorem s_X_frame_102 {x : Nat} : wps rm K Q c_X_frame_102 kc ks loc (.ref (x + 1) :: st) h = eg_gf h x 11 6 (fun v => wps rm K Q c_X_frame_105 kc ks loc (v :: st) h) := gk_gf
theorem s_X_frame_105 {x : Nat} {l : eg_Lo} : wps rm K Q c_X_frame_105 kc ks (some (.ref x) :: l) (st) h = wps rm K Q c_X_frame_106 kc ks (some (.ref x) :: l) (.ref x :: st) h := gk_aload rfl
theorem s_X_frame_106 {x : Nat} : wps rm K Q c_X_frame_106 kc ks loc (.ref (x + 1) :: st) h = eg_gf h x 11 2 (fun v => wps rm K Q c_X_frame_109 kc ks loc (v :: st) h) := gk_gf
theorem s_X_frame_109 {x : Int32} {l0 : Option Value} {l : eg_Lo} : wps rm K Q c_X_frame_109 kc ks (l0 :: some (.int x) :: l) (st) h = wps rm K Q c_X_frame_110 kc ks (l0 :: some (.int x) :: l) (.int x :: st) h := gk_iload rfl
theorem s_X_frame_110 {x : Nat} {i : Int32} : wps rm K Q c_X_frame_110 kc ks loc (.int i :: .ref (x + 1) :: st) h = eg_aa h x i (fun v => wps rm K Q c_X_frame_111 kc ks loc (v :: st) h) := gk_aaload
theorem s_X_frame_111 {x : Nat} : wps rm K Q c_X_frame_111 kc ks loc (.ref (x + 1) :: st) h = eg_gf h x 2 1 (fun v => wps rm K Q c_X_frame_114 kc ks loc (v :: st) h) := gk_gf
theorem s_X_frame_114 {x : Int32} {l0 l1 : Option Value} {l : eg_Lo} : wps rm K Q c_X_frame_114 kc ks (l0 :: l1 :: some (.int x) :: l) (st) h = wps rm K Q c_X_frame_115 kc ks (l0 :: l1 :: some (.int x) :: l) (.int x :: st) h := gk_iload rfl
theorem s_X_frame_115 {x : Int32} {l0 l1 l2 : Option Value} {l : eg_Lo} : wps rm K Q c_X_frame_115 kc ks (l0 :: l1 :: l2 :: some (.int x) :: l) (st) h = wps rm K Q c_X_frame_116 kc ks (l0 :: l1 :: l2 :: some (.int x) :: l) (.int x :: st) h := gk_iload rfl
theorem s_X_frame_116 {x : Int32} {l0 l1 l2 l3 : Option Value} {l : eg_Lo} : wps rm K Q c_X_frame_116 kc ks (l0 :: l1 :: l2 :: l3 :: some (.int x) :: l) (st) h = wps rm K Q c_X_frame_118 kc ks (l0 :: l1 :: l2 :: l3 :: some (.int x) :: l) (.int x :: st) h := gk_iload rfl
theorem s_X_frame_118  {a1 : Value} {a2 : Value} {a3 : Value} {a4 : Value} {x : Nat} : wps rm K Q c_X_frame_118 kc ks loc (a4 :: a3 :: a2 :: a1 :: .ref (x + 1) :: st) h = (eg_cls h x 5 ∧ st.length ≤ 4 ∧ eg_Cs n_Frame_layWays (.ref (x + 1) :: [a1, a2, a3, a4]) h (fun v h9 => wps rm K Q c_X_frame_121 kc ks loc (v.toList ++ st) h9)) := eg_c1_4
theorem s_X_frame_121 {x : Int32} : wps rm K Q c_X_frame_121 kc ks loc (.int x :: st) h = ((¬ x = 0 → K 132 kc ks loc st h) ∧ (x = 0 → wps rm K Q c_X_frame_124 kc ks loc (st) h)) := gk_if1_ne
theorem s_X_frame_124 {x : Nat} {l : eg_Lo} : wps rm K Q c_X_frame_124 kc ks (some (.ref x) :: l) (st) h = wps rm K Q c_X_frame_125 kc ks (some (.ref x) :: l) (.ref x :: st) h := gk_aload rfl
theorem s_X_frame_125  : wps rm K Q c_X_frame_125 kc ks loc (st) h = wps rm K Q c_X_frame_128 kc ks loc (.long (-1000000000000000003) :: st) h := gk_lc (by decide)
theorem s_X_frame_128  {a1 : Value} {x : Nat} : wps rm K Q c_X_frame_128 kc ks loc (a1 :: .ref (x + 1) :: st) h = (eg_cls h x 11 ∧ st.length ≤ 4 ∧ eg_Cs n_X_found (.ref (x + 1) :: [a1]) h (fun v h9 => wps rm K Q c_X_frame_131 kc ks loc (v.toList ++ st) h9)) := eg_c1_1
theorem s_X_frame_131 {x : Int64} : wps rm K Q c_X_frame_131 kc ks loc ([.long x]) h = (kc = rm.cells ∧ Q (some (.long x)) h) := gk_lret
theorem s_X_frame_132 {x : Nat} {l : eg_Lo} : wps rm K Q c_X_frame_132 kc ks (some (.ref x) :: l) (st) h = wps rm K Q c_X_frame_133 kc ks (some (.ref x) :: l) (.ref x :: st) h := gk_aload rfl
theorem s_X_frame_133 {x : Nat} : wps rm K Q c_X_frame_133 kc ks loc (.ref (x + 1) :: st) h = eg_gf h x 11 6 (fun v => wps rm K Q c_X_frame_136 kc ks loc (v :: st) h) := gk_gf
theorem s_X_frame_136 {x : Nat} {l : eg_Lo} : wps rm K Q c_X_frame_136 kc ks (some (.ref x) :: l) (st) h = wps rm K Q c_X_frame_137 kc ks (some (.ref x) :: l) (.ref x :: st) h := gk_aload rfl
theorem s_X_frame_137 {x : Nat} : wps rm K Q c_X_frame_137 kc ks loc (.ref (x + 1) :: st) h = eg_gf h x 11 0 (fun v => wps rm K Q c_X_frame_140 kc ks loc (v :: st) h) := gk_gf
theorem s_X_frame_140 {x : Int32} {l0 l1 l2 l3 l4 : Option Value} {l : eg_Lo} : wps rm K Q c_X_frame_140 kc ks (l0 :: l1 :: l2 :: l3 :: l4 :: some (.int x) :: l) (st) h = wps rm K Q c_X_frame_142 kc ks (l0 :: l1 :: l2 :: l3 :: l4 :: some (.int x) :: l) (.int x :: st) h := gk_iload rfl
theorem s_X_frame_142 {x : Nat} {i : Int32} : wps rm K Q c_X_frame_142 kc ks loc (.int i :: .ref (x + 1) :: st) h = eg_aa h x i (fun v => wps rm K Q c_X_frame_143 kc ks loc (v :: st) h) := gk_aaload
theorem s_X_frame_143 {x : Int32} {l0 l1 l2 l3 l4 l5 : Option Value} {l : eg_Lo} : wps rm K Q c_X_frame_143 kc ks (l0 :: l1 :: l2 :: l3 :: l4 :: l5 :: some (.int x) :: l) (st) h = wps rm K Q c_X_frame_145 kc ks (l0 :: l1 :: l2 :: l3 :: l4 :: l5 :: some (.int x) :: l) (.int x :: st) h := gk_iload rfl
theorem s_X_frame_145  {a1 : Value} {a2 : Value} {x : Nat} : wps rm K Q c_X_frame_145 kc ks loc (a2 :: a1 :: .ref (x + 1) :: st) h = (eg_cls h x 5 ∧ st.length ≤ 4 ∧ eg_Cs n_Frame_begin (.ref (x + 1) :: [a1, a2]) h (fun v h9 => wps rm K Q c_X_frame_148 kc ks loc (v.toList ++ st) h9)) := eg_c1_2
theorem s_X_frame_148  : wps rm K Q c_X_frame_148 kc ks loc (st) h = wps rm K Q c_X_frame_149 kc ks loc (.long (1) :: st) h := gk_lc (by decide)
theorem s_X_frame_149 {x : Int64} : wps rm K Q c_X_frame_149 kc ks loc ([.long x]) h = (kc = rm.cells ∧ Q (some (.long x)) h) := gk_lret
def T_X_frame : List (Nat × List eg_I) := [(28, c_X_frame_28), (36, c_X_frame_36), (56, c_X_frame_56), (77, c_X_frame_77), (101, c_X_frame_101), (132, c_X_frame_132)]
theorem j_X_frame_28 {R : Nat → Nat → Nat → eg_Lo → List Value → List eg_E → Prop} {f pc0 : Nat} : eg_run rm R Q T_X_frame (f + 1) 28 kc ks loc st h = wps rm (eg_run rm R Q T_X_frame f) Q c_X_frame_28 kc ks loc st h := rfl
theorem j_X_frame_36 {R : Nat → Nat → Nat → eg_Lo → List Value → List eg_E → Prop} {f pc0 : Nat} : eg_run rm R Q T_X_frame (f + 1) 36 kc ks loc st h = wps rm (eg_run rm R Q T_X_frame f) Q c_X_frame_36 kc ks loc st h := rfl
theorem j_X_frame_56 {R : Nat → Nat → Nat → eg_Lo → List Value → List eg_E → Prop} {f pc0 : Nat} : eg_run rm R Q T_X_frame (f + 1) 56 kc ks loc st h = wps rm (eg_run rm R Q T_X_frame f) Q c_X_frame_56 kc ks loc st h := rfl
theorem j_X_frame_77 {R : Nat → Nat → Nat → eg_Lo → List Value → List eg_E → Prop} {f pc0 : Nat} : eg_run rm R Q T_X_frame (f + 1) 77 kc ks loc st h = wps rm (eg_run rm R Q T_X_frame f) Q c_X_frame_77 kc ks loc st h := rfl
theorem j_X_frame_101 {R : Nat → Nat → Nat → eg_Lo → List Value → List eg_E → Prop} {f pc0 : Nat} : eg_run rm R Q T_X_frame (f + 1) 101 kc ks loc st h = wps rm (eg_run rm R Q T_X_frame f) Q c_X_frame_101 kc ks loc st h := rfl
theorem j_X_frame_132 {R : Nat → Nat → Nat → eg_Lo → List Value → List eg_E → Prop} {f pc0 : Nat} : eg_run rm R Q T_X_frame (f + 1) 132 kc ks loc st h = wps rm (eg_run rm R Q T_X_frame f) Q c_X_frame_132 kc ks loc st h := rfl
end
theorem y_X_frame_0 : eg_seq m_X_frame 0 c_X_frame_0 = true := by decide +kernel
theorem y_X_frame_36 : eg_seq m_X_frame 36 c_X_frame_36 = true := by decide +kernel
theorem y_X_frame_56 : eg_seq m_X_frame 56 c_X_frame_56 = true := by decide +kernel
theorem y_X_frame_77 : eg_seq m_X_frame 77 c_X_frame_77 = true := by decide +kernel
theorem y_X_frame_101 : eg_seq m_X_frame 101 c_X_frame_101 = true := by decide +kernel
theorem y_X_frame_132 : eg_seq m_X_frame 132 c_X_frame_132 = true := by decide +kernel
theorem q_X_frame : ∀ q ∈ T_X_frame, eg_seq m_X_frame q.1 q.2 = true := by
  intro q hq
  simp only [T_X_frame, List.mem_cons, List.not_mem_nil, or_false] at hq
  rcases hq with rfl | rfl | rfl | rfl | rfl | rfl
  · exact (eg_seq_drop y_X_frame_0 13 : eg_seq m_X_frame 28 c_X_frame_28 = true)
  · exact y_X_frame_36
  · exact y_X_frame_56
  · exact y_X_frame_77
  · exact y_X_frame_101
  · exact y_X_frame_132
theorem b_X_frame {as : List Value} {h : List eg_E} {Q : Option Value → List eg_E → Prop} (hf : (eg_fl as).length ≤ 7) (hw : wps (eg_rm m_X_frame) (eg_run (eg_rm m_X_frame) (eg_R m_X_frame Q (h.length + 0)) Q T_X_frame 8) Q c_X_frame_0 0 0 (eg_entry 7 as) [] h) : eg_Runs n_X_frame as h Q := eg_begin2 (d := m_X_frame) rfl (by decide) y_X_frame_0 q_X_frame hf hw
/-! ===== X_axis ===== -/
def c_X_axis_57 : List eg_I := .inl (57, 1, .lreturn, 0, 0) :: []
def c_X_axis_56 : List eg_I := .inl (56, 1, .laload, 0, 0) :: c_X_axis_57
def c_X_axis_55 : List eg_I := .inl (55, 1, .iadd, 0, 0) :: c_X_axis_56
def c_X_axis_54 : List eg_I := .inl (54, 1, .iload 2, 0, 0) :: c_X_axis_55
def c_X_axis_53 : List eg_I := .inl (53, 1, .imul, 0, 0) :: c_X_axis_54
def c_X_axis_52 : List eg_I := .inl (52, 1, .iload 1, 0, 0) :: c_X_axis_53
def c_X_axis_51 : List eg_I := .inl (51, 1, .iconst (3), 0, 0) :: c_X_axis_52
def c_X_axis_48 : List eg_I := .inl (48, 3, .getfield 272, 5, 0) :: c_X_axis_51
def c_X_axis_45 : List eg_I := .inl (45, 3, .getfield 51, 11, 6) :: c_X_axis_48
def c_X_axis_44 : List eg_I := .inl (44, 1, .aload 0, 0, 0) :: c_X_axis_45
def c_X_axis_43 : List eg_I := .inl (43, 1, .lreturn, 0, 0) :: []
def c_X_axis_40 : List eg_I := .inr (40, 1, 86, n_X_found, 1, 11, 0, 0) :: c_X_axis_43
def c_X_axis_37 : List eg_I := .inl (37, 3, .sipush (-1000000000000000006), 158, 0) :: c_X_axis_40
def c_X_axis_36 : List eg_I := .inl (36, 1, .aload 0, 0, 0) :: c_X_axis_37
def c_X_axis_33 : List eg_I := .inl (33, 3, .ifCond .ne (11), 44, 0) :: c_X_axis_36
def c_X_axis_30 : List eg_I := .inl (30, 3, .getfield 268, 5, 1) :: c_X_axis_33
def c_X_axis_27 : List eg_I := .inl (27, 3, .getfield 51, 11, 6) :: c_X_axis_30
def c_X_axis_26 : List eg_I := .inl (26, 1, .aload 0, 0, 0) :: c_X_axis_27
def c_X_axis_25 : List eg_I := .inl (25, 1, .lreturn, 0, 0) :: []
def c_X_axis_22 : List eg_I := .inr (22, 1, 86, n_X_found, 1, 11, 0, 0) :: c_X_axis_25
def c_X_axis_19 : List eg_I := .inl (19, 3, .sipush (-1000000000000000001), 84, 0) :: c_X_axis_22
def c_X_axis_18 : List eg_I := .inl (18, 1, .aload 0, 0, 0) :: c_X_axis_19
def c_X_axis_15 : List eg_I := .inl (15, 3, .ifCond .ne (11), 26, 0) :: c_X_axis_18
def c_X_axis_12 : List eg_I := .inr (12, 0, 80, n_X_isWithin, 3, 11, 0, 0) :: c_X_axis_15
def c_X_axis_11 : List eg_I := .inl (11, 1, .iconst (2), 0, 0) :: c_X_axis_12
def c_X_axis_10 : List eg_I := .inl (10, 1, .iconst (0), 0, 0) :: c_X_axis_11
def c_X_axis_9 : List eg_I := .inl (9, 1, .iload 2, 0, 0) :: c_X_axis_10
def c_X_axis_6 : List eg_I := .inl (6, 3, .ifCond .eq (12), 18, 0) :: c_X_axis_9
def c_X_axis_3 : List eg_I := .inr (3, 0, 80, n_X_isWithin, 3, 11, 0, 0) :: c_X_axis_6
def c_X_axis_2 : List eg_I := .inl (2, 1, .iconst (2), 0, 0) :: c_X_axis_3
def c_X_axis_1 : List eg_I := .inl (1, 1, .iconst (0), 0, 0) :: c_X_axis_2
def c_X_axis_0 : List eg_I := .inl (0, 1, .iload 1, 0, 0) :: c_X_axis_1
section
variable {rm : Room} {K : Nat → Nat → Nat → eg_Lo → List Value → List eg_E → Prop} {Q : Option Value → List eg_E → Prop} {kc ks : Nat} {loc : eg_Lo} {st : List Value} {h : List eg_E}
theorem s_X_axis_0 {x : Int32} {l0 : Option Value} {l : eg_Lo} : wps rm K Q c_X_axis_0 kc ks (l0 :: some (.int x) :: l) (st) h = wps rm K Q c_X_axis_1 kc ks (l0 :: some (.int x) :: l) (.int x :: st) h := gk_iload rfl
theorem s_X_axis_1  : wps rm K Q c_X_axis_1 kc ks loc (st) h = wps rm K Q c_X_axis_2 kc ks loc (.int (0) :: st) h := gk_ic (by decide)
theorem s_X_axis_2  : wps rm K Q c_X_axis_2 kc ks loc (st) h = wps rm K Q c_X_axis_3 kc ks loc (.int (2) :: st) h := gk_ic (by decide)
theorem s_X_axis_3  {a1 : Value} {a2 : Value} {a3 : Value} : wps rm K Q c_X_axis_3 kc ks loc (a3 :: a2 :: a1 :: st) h = (st.length ≤ 4 ∧ eg_Cs n_X_isWithin [a1, a2, a3] h (fun v h9 => wps rm K Q c_X_axis_6 kc ks loc (v.toList ++ st) h9)) := eg_c0_3
theorem s_X_axis_6 {x : Int32} : wps rm K Q c_X_axis_6 kc ks loc (.int x :: st) h = ((x = 0 → K 18 kc ks loc st h) ∧ (¬ x = 0 → wps rm K Q c_X_axis_9 kc ks loc (st) h)) := gk_if1_eq
theorem s_X_axis_9 {x : Int32} {l0 l1 : Option Value} {l : eg_Lo} : wps rm K Q c_X_axis_9 kc ks (l0 :: l1 :: some (.int x) :: l) (st) h = wps rm K Q c_X_axis_10 kc ks (l0 :: l1 :: some (.int x) :: l) (.int x :: st) h := gk_iload rfl
theorem s_X_axis_10  : wps rm K Q c_X_axis_10 kc ks loc (st) h = wps rm K Q c_X_axis_11 kc ks loc (.int (0) :: st) h := gk_ic (by decide)
theorem s_X_axis_11  : wps rm K Q c_X_axis_11 kc ks loc (st) h = wps rm K Q c_X_axis_12 kc ks loc (.int (2) :: st) h := gk_ic (by decide)
theorem s_X_axis_12  {a1 : Value} {a2 : Value} {a3 : Value} : wps rm K Q c_X_axis_12 kc ks loc (a3 :: a2 :: a1 :: st) h = (st.length ≤ 4 ∧ eg_Cs n_X_isWithin [a1, a2, a3] h (fun v h9 => wps rm K Q c_X_axis_15 kc ks loc (v.toList ++ st) h9)) := eg_c0_3
theorem s_X_axis_15 {x : Int32} : wps rm K Q c_X_axis_15 kc ks loc (.int x :: st) h = ((¬ x = 0 → K 26 kc ks loc st h) ∧ (x = 0 → wps rm K Q c_X_axis_18 kc ks loc (st) h)) := gk_if1_ne
theorem s_X_axis_18 {x : Nat} {l : eg_Lo} : wps rm K Q c_X_axis_18 kc ks (some (.ref x) :: l) (st) h = wps rm K Q c_X_axis_19 kc ks (some (.ref x) :: l) (.ref x :: st) h := gk_aload rfl
theorem s_X_axis_19  : wps rm K Q c_X_axis_19 kc ks loc (st) h = wps rm K Q c_X_axis_22 kc ks loc (.long (-1000000000000000001) :: st) h := gk_lc (by decide)
theorem s_X_axis_22  {a1 : Value} {x : Nat} : wps rm K Q c_X_axis_22 kc ks loc (a1 :: .ref (x + 1) :: st) h = (eg_cls h x 11 ∧ st.length ≤ 4 ∧ eg_Cs n_X_found (.ref (x + 1) :: [a1]) h (fun v h9 => wps rm K Q c_X_axis_25 kc ks loc (v.toList ++ st) h9)) := eg_c1_1
theorem s_X_axis_25 {x : Int64} : wps rm K Q c_X_axis_25 kc ks loc ([.long x]) h = (kc = rm.cells ∧ Q (some (.long x)) h) := gk_lret
theorem s_X_axis_26 {x : Nat} {l : eg_Lo} : wps rm K Q c_X_axis_26 kc ks (some (.ref x) :: l) (st) h = wps rm K Q c_X_axis_27 kc ks (some (.ref x) :: l) (.ref x :: st) h := gk_aload rfl
theorem s_X_axis_27 {x : Nat} : wps rm K Q c_X_axis_27 kc ks loc (.ref (x + 1) :: st) h = eg_gf h x 11 6 (fun v => wps rm K Q c_X_axis_30 kc ks loc (v :: st) h) := gk_gf
theorem s_X_axis_30 {x : Nat} : wps rm K Q c_X_axis_30 kc ks loc (.ref (x + 1) :: st) h = eg_gf h x 5 1 (fun v => wps rm K Q c_X_axis_33 kc ks loc (v :: st) h) := gk_gf
theorem s_X_axis_33 {x : Int32} : wps rm K Q c_X_axis_33 kc ks loc (.int x :: st) h = ((¬ x = 0 → K 44 kc ks loc st h) ∧ (x = 0 → wps rm K Q c_X_axis_36 kc ks loc (st) h)) := gk_if1_ne
theorem s_X_axis_36 {x : Nat} {l : eg_Lo} : wps rm K Q c_X_axis_36 kc ks (some (.ref x) :: l) (st) h = wps rm K Q c_X_axis_37 kc ks (some (.ref x) :: l) (.ref x :: st) h := gk_aload rfl
theorem s_X_axis_37  : wps rm K Q c_X_axis_37 kc ks loc (st) h = wps rm K Q c_X_axis_40 kc ks loc (.long (-1000000000000000006) :: st) h := gk_lc (by decide)
theorem s_X_axis_40  {a1 : Value} {x : Nat} : wps rm K Q c_X_axis_40 kc ks loc (a1 :: .ref (x + 1) :: st) h = (eg_cls h x 11 ∧ st.length ≤ 4 ∧ eg_Cs n_X_found (.ref (x + 1) :: [a1]) h (fun v h9 => wps rm K Q c_X_axis_43 kc ks loc (v.toList ++ st) h9)) := eg_c1_1
theorem s_X_axis_43 {x : Int64} : wps rm K Q c_X_axis_43 kc ks loc ([.long x]) h = (kc = rm.cells ∧ Q (some (.long x)) h) := gk_lret
theorem s_X_axis_44 {x : Nat} {l : eg_Lo} : wps rm K Q c_X_axis_44 kc ks (some (.ref x) :: l) (st) h = wps rm K Q c_X_axis_45 kc ks (some (.ref x) :: l) (.ref x :: st) h := gk_aload rfl
theorem s_X_axis_45 {x : Nat} : wps rm K Q c_X_axis_45 kc ks loc (.ref (x + 1) :: st) h = eg_gf h x 11 6 (fun v => wps rm K Q c_X_axis_48 kc ks loc (v :: st) h) := gk_gf
theorem s_X_axis_48 {x : Nat} : wps rm K Q c_X_axis_48 kc ks loc (.ref (x + 1) :: st) h = eg_gf h x 5 0 (fun v => wps rm K Q c_X_axis_51 kc ks loc (v :: st) h) := gk_gf
theorem s_X_axis_51  : wps rm K Q c_X_axis_51 kc ks loc (st) h = wps rm K Q c_X_axis_52 kc ks loc (.int (3) :: st) h := gk_ic (by decide)
theorem s_X_axis_52 {x : Int32} {l0 : Option Value} {l : eg_Lo} : wps rm K Q c_X_axis_52 kc ks (l0 :: some (.int x) :: l) (st) h = wps rm K Q c_X_axis_53 kc ks (l0 :: some (.int x) :: l) (.int x :: st) h := gk_iload rfl
theorem s_X_axis_53 {x y : Int32} : wps rm K Q c_X_axis_53 kc ks loc (.int y :: .int x :: st) h = wps rm K Q c_X_axis_54 kc ks loc (.int (x * y) :: st) h := gk_imul
theorem s_X_axis_54 {x : Int32} {l0 l1 : Option Value} {l : eg_Lo} : wps rm K Q c_X_axis_54 kc ks (l0 :: l1 :: some (.int x) :: l) (st) h = wps rm K Q c_X_axis_55 kc ks (l0 :: l1 :: some (.int x) :: l) (.int x :: st) h := gk_iload rfl
theorem s_X_axis_55 {x y : Int32} : wps rm K Q c_X_axis_55 kc ks loc (.int y :: .int x :: st) h = wps rm K Q c_X_axis_56 kc ks loc (.int (x + y) :: st) h := gk_iadd
theorem s_X_axis_56 {x : Nat} {i : Int32} : wps rm K Q c_X_axis_56 kc ks loc (.int i :: .ref (x + 1) :: st) h = eg_la h x i (fun v => wps rm K Q c_X_axis_57 kc ks loc (.long v :: st) h) := gk_laload
theorem s_X_axis_57 {x : Int64} : wps rm K Q c_X_axis_57 kc ks loc ([.long x]) h = (kc = rm.cells ∧ Q (some (.long x)) h) := gk_lret
def T_X_axis : List (Nat × List eg_I) := [(18, c_X_axis_18), (26, c_X_axis_26), (44, c_X_axis_44)]
theorem j_X_axis_18 {R : Nat → Nat → Nat → eg_Lo → List Value → List eg_E → Prop} {f pc0 : Nat} : eg_run rm R Q T_X_axis (f + 1) 18 kc ks loc st h = wps rm (eg_run rm R Q T_X_axis f) Q c_X_axis_18 kc ks loc st h := rfl
theorem j_X_axis_26 {R : Nat → Nat → Nat → eg_Lo → List Value → List eg_E → Prop} {f pc0 : Nat} : eg_run rm R Q T_X_axis (f + 1) 26 kc ks loc st h = wps rm (eg_run rm R Q T_X_axis f) Q c_X_axis_26 kc ks loc st h := rfl
theorem j_X_axis_44 {R : Nat → Nat → Nat → eg_Lo → List Value → List eg_E → Prop} {f pc0 : Nat} : eg_run rm R Q T_X_axis (f + 1) 44 kc ks loc st h = wps rm (eg_run rm R Q T_X_axis f) Q c_X_axis_44 kc ks loc st h := rfl
end
theorem y_X_axis_0 : eg_seq m_X_axis 0 c_X_axis_0 = true := by decide +kernel
theorem y_X_axis_26 : eg_seq m_X_axis 26 c_X_axis_26 = true := by decide +kernel
theorem y_X_axis_44 : eg_seq m_X_axis 44 c_X_axis_44 = true := by decide +kernel
theorem q_X_axis : ∀ q ∈ T_X_axis, eg_seq m_X_axis q.1 q.2 = true := by
  intro q hq
  simp only [T_X_axis, List.mem_cons, List.not_mem_nil, or_false] at hq
  rcases hq with rfl | rfl | rfl
  · exact (eg_seq_drop y_X_axis_0 10 : eg_seq m_X_axis 18 c_X_axis_18 = true)
  · exact y_X_axis_26
  · exact y_X_axis_44
theorem b_X_axis {as : List Value} {h : List eg_E} {Q : Option Value → List eg_E → Prop} (hf : (eg_fl as).length ≤ 3) (hw : wps (eg_rm m_X_axis) (eg_run (eg_rm m_X_axis) (eg_R m_X_axis Q (h.length + 0)) Q T_X_axis 5) Q c_X_axis_0 0 0 (eg_entry 3 as) [] h) : eg_Runs n_X_axis as h Q := eg_begin2 (d := m_X_axis) rfl (by decide) y_X_axis_0 q_X_axis hf hw
/-! ===== X_inFrame ===== -/
def c_X_inFrame_81 : List eg_I := .inl (81, 1, .lreturn, 0, 0) :: []
def c_X_inFrame_78 : List eg_I := .inr (78, 1, 275, n_Frame_along, 3, 5, 0, 0) :: c_X_inFrame_81
def c_X_inFrame_77 : List eg_I := .inl (77, 1, .iload 2, 0, 0) :: c_X_inFrame_78
def c_X_inFrame_76 : List eg_I := .inl (76, 1, .aaload, 0, 0) :: c_X_inFrame_77
def c_X_inFrame_75 : List eg_I := .inl (75, 1, .iload 1, 0, 0) :: c_X_inFrame_76
def c_X_inFrame_72 : List eg_I := .inl (72, 3, .getfield 11, 11, 0) :: c_X_inFrame_75
def c_X_inFrame_71 : List eg_I := .inl (71, 1, .aload 0, 0, 0) :: c_X_inFrame_72
def c_X_inFrame_70 : List eg_I := .inl (70, 1, .iload 3, 0, 0) :: c_X_inFrame_71
def c_X_inFrame_67 : List eg_I := .inl (67, 3, .getfield 51, 11, 6) :: c_X_inFrame_70
def c_X_inFrame_66 : List eg_I := .inl (66, 1, .aload 0, 0, 0) :: c_X_inFrame_67
def c_X_inFrame_65 : List eg_I := .inl (65, 1, .lreturn, 0, 0) :: []
def c_X_inFrame_62 : List eg_I := .inr (62, 1, 86, n_X_found, 1, 11, 0, 0) :: c_X_inFrame_65
def c_X_inFrame_59 : List eg_I := .inl (59, 3, .sipush (-1000000000000000006), 158, 0) :: c_X_inFrame_62
def c_X_inFrame_58 : List eg_I := .inl (58, 1, .aload 0, 0, 0) :: c_X_inFrame_59
def c_X_inFrame_55 : List eg_I := .inl (55, 3, .ifCond .ne (11), 66, 0) :: c_X_inFrame_58
def c_X_inFrame_52 : List eg_I := .inl (52, 3, .getfield 268, 5, 1) :: c_X_inFrame_55
def c_X_inFrame_49 : List eg_I := .inl (49, 3, .getfield 51, 11, 6) :: c_X_inFrame_52
def c_X_inFrame_48 : List eg_I := .inl (48, 1, .aload 0, 0, 0) :: c_X_inFrame_49
def c_X_inFrame_47 : List eg_I := .inl (47, 1, .lreturn, 0, 0) :: []
def c_X_inFrame_44 : List eg_I := .inr (44, 1, 86, n_X_found, 1, 11, 0, 0) :: c_X_inFrame_47
def c_X_inFrame_41 : List eg_I := .inl (41, 3, .sipush (-1000000000000000007), 113, 0) :: c_X_inFrame_44
def c_X_inFrame_40 : List eg_I := .inl (40, 1, .aload 0, 0, 0) :: c_X_inFrame_41
def c_X_inFrame_37 : List eg_I := .inl (37, 3, .ifCond .eq (11), 48, 0) :: c_X_inFrame_40
def c_X_inFrame_36 : List eg_I := .inl (36, 1, .baload, 0, 0) :: c_X_inFrame_37
def c_X_inFrame_35 : List eg_I := .inl (35, 1, .iload 2, 0, 0) :: c_X_inFrame_36
def c_X_inFrame_32 : List eg_I := .inl (32, 3, .getfield 109, 8, 3) :: c_X_inFrame_35
def c_X_inFrame_31 : List eg_I := .inl (31, 1, .aaload, 0, 0) :: c_X_inFrame_32
def c_X_inFrame_30 : List eg_I := .inl (30, 1, .iload 1, 0, 0) :: c_X_inFrame_31
def c_X_inFrame_27 : List eg_I := .inl (27, 3, .getfield 11, 11, 0) :: c_X_inFrame_30
def c_X_inFrame_26 : List eg_I := .inl (26, 1, .aload 0, 0, 0) :: c_X_inFrame_27
def c_X_inFrame_25 : List eg_I := .inl (25, 1, .lreturn, 0, 0) :: []
def c_X_inFrame_22 : List eg_I := .inr (22, 1, 86, n_X_found, 1, 11, 0, 0) :: c_X_inFrame_25
def c_X_inFrame_19 : List eg_I := .inl (19, 3, .sipush (-1000000000000000001), 84, 0) :: c_X_inFrame_22
def c_X_inFrame_18 : List eg_I := .inl (18, 1, .aload 0, 0, 0) :: c_X_inFrame_19
def c_X_inFrame_15 : List eg_I := .inl (15, 3, .ifCond .ne (11), 26, 0) :: c_X_inFrame_18
def c_X_inFrame_12 : List eg_I := .inr (12, 0, 80, n_X_isWithin, 3, 11, 0, 0) :: c_X_inFrame_15
def c_X_inFrame_11 : List eg_I := .inl (11, 1, .iconst (2), 0, 0) :: c_X_inFrame_12
def c_X_inFrame_10 : List eg_I := .inl (10, 1, .iconst (0), 0, 0) :: c_X_inFrame_11
def c_X_inFrame_9 : List eg_I := .inl (9, 1, .iload 3, 0, 0) :: c_X_inFrame_10
def c_X_inFrame_6 : List eg_I := .inl (6, 3, .ifCond .eq (12), 18, 0) :: c_X_inFrame_9
def c_X_inFrame_3 : List eg_I := .inr (3, 1, 106, n_X_isPoint, 2, 11, 0, 0) :: c_X_inFrame_6
def c_X_inFrame_2 : List eg_I := .inl (2, 1, .iload 2, 0, 0) :: c_X_inFrame_3
def c_X_inFrame_1 : List eg_I := .inl (1, 1, .iload 1, 0, 0) :: c_X_inFrame_2
def c_X_inFrame_0 : List eg_I := .inl (0, 1, .aload 0, 0, 0) :: c_X_inFrame_1
section
variable {rm : Room} {K : Nat → Nat → Nat → eg_Lo → List Value → List eg_E → Prop} {Q : Option Value → List eg_E → Prop} {kc ks : Nat} {loc : eg_Lo} {st : List Value} {h : List eg_E}
theorem s_X_inFrame_0 {x : Nat} {l : eg_Lo} : wps rm K Q c_X_inFrame_0 kc ks (some (.ref x) :: l) (st) h = wps rm K Q c_X_inFrame_1 kc ks (some (.ref x) :: l) (.ref x :: st) h := gk_aload rfl
theorem s_X_inFrame_1 {x : Int32} {l0 : Option Value} {l : eg_Lo} : wps rm K Q c_X_inFrame_1 kc ks (l0 :: some (.int x) :: l) (st) h = wps rm K Q c_X_inFrame_2 kc ks (l0 :: some (.int x) :: l) (.int x :: st) h := gk_iload rfl
theorem s_X_inFrame_2 {x : Int32} {l0 l1 : Option Value} {l : eg_Lo} : wps rm K Q c_X_inFrame_2 kc ks (l0 :: l1 :: some (.int x) :: l) (st) h = wps rm K Q c_X_inFrame_3 kc ks (l0 :: l1 :: some (.int x) :: l) (.int x :: st) h := gk_iload rfl
theorem s_X_inFrame_3  {a1 : Value} {a2 : Value} {x : Nat} : wps rm K Q c_X_inFrame_3 kc ks loc (a2 :: a1 :: .ref (x + 1) :: st) h = (eg_cls h x 11 ∧ st.length ≤ 4 ∧ eg_Cs n_X_isPoint (.ref (x + 1) :: [a1, a2]) h (fun v h9 => wps rm K Q c_X_inFrame_6 kc ks loc (v.toList ++ st) h9)) := eg_c1_2
theorem s_X_inFrame_6 {x : Int32} : wps rm K Q c_X_inFrame_6 kc ks loc (.int x :: st) h = ((x = 0 → K 18 kc ks loc st h) ∧ (¬ x = 0 → wps rm K Q c_X_inFrame_9 kc ks loc (st) h)) := gk_if1_eq
theorem s_X_inFrame_9 {x : Int32} {l0 l1 l2 : Option Value} {l : eg_Lo} : wps rm K Q c_X_inFrame_9 kc ks (l0 :: l1 :: l2 :: some (.int x) :: l) (st) h = wps rm K Q c_X_inFrame_10 kc ks (l0 :: l1 :: l2 :: some (.int x) :: l) (.int x :: st) h := gk_iload rfl
theorem s_X_inFrame_10  : wps rm K Q c_X_inFrame_10 kc ks loc (st) h = wps rm K Q c_X_inFrame_11 kc ks loc (.int (0) :: st) h := gk_ic (by decide)
theorem s_X_inFrame_11  : wps rm K Q c_X_inFrame_11 kc ks loc (st) h = wps rm K Q c_X_inFrame_12 kc ks loc (.int (2) :: st) h := gk_ic (by decide)
theorem s_X_inFrame_12  {a1 : Value} {a2 : Value} {a3 : Value} : wps rm K Q c_X_inFrame_12 kc ks loc (a3 :: a2 :: a1 :: st) h = (st.length ≤ 4 ∧ eg_Cs n_X_isWithin [a1, a2, a3] h (fun v h9 => wps rm K Q c_X_inFrame_15 kc ks loc (v.toList ++ st) h9)) := eg_c0_3
theorem s_X_inFrame_15 {x : Int32} : wps rm K Q c_X_inFrame_15 kc ks loc (.int x :: st) h = ((¬ x = 0 → K 26 kc ks loc st h) ∧ (x = 0 → wps rm K Q c_X_inFrame_18 kc ks loc (st) h)) := gk_if1_ne
theorem s_X_inFrame_18 {x : Nat} {l : eg_Lo} : wps rm K Q c_X_inFrame_18 kc ks (some (.ref x) :: l) (st) h = wps rm K Q c_X_inFrame_19 kc ks (some (.ref x) :: l) (.ref x :: st) h := gk_aload rfl
theorem s_X_inFrame_19  : wps rm K Q c_X_inFrame_19 kc ks loc (st) h = wps rm K Q c_X_inFrame_22 kc ks loc (.long (-1000000000000000001) :: st) h := gk_lc (by decide)
theorem s_X_inFrame_22  {a1 : Value} {x : Nat} : wps rm K Q c_X_inFrame_22 kc ks loc (a1 :: .ref (x + 1) :: st) h = (eg_cls h x 11 ∧ st.length ≤ 4 ∧ eg_Cs n_X_found (.ref (x + 1) :: [a1]) h (fun v h9 => wps rm K Q c_X_inFrame_25 kc ks loc (v.toList ++ st) h9)) := eg_c1_1
theorem s_X_inFrame_25 {x : Int64} : wps rm K Q c_X_inFrame_25 kc ks loc ([.long x]) h = (kc = rm.cells ∧ Q (some (.long x)) h) := gk_lret
theorem s_X_inFrame_26 {x : Nat} {l : eg_Lo} : wps rm K Q c_X_inFrame_26 kc ks (some (.ref x) :: l) (st) h = wps rm K Q c_X_inFrame_27 kc ks (some (.ref x) :: l) (.ref x :: st) h := gk_aload rfl
theorem s_X_inFrame_27 {x : Nat} : wps rm K Q c_X_inFrame_27 kc ks loc (.ref (x + 1) :: st) h = eg_gf h x 11 0 (fun v => wps rm K Q c_X_inFrame_30 kc ks loc (v :: st) h) := gk_gf
theorem s_X_inFrame_30 {x : Int32} {l0 : Option Value} {l : eg_Lo} : wps rm K Q c_X_inFrame_30 kc ks (l0 :: some (.int x) :: l) (st) h = wps rm K Q c_X_inFrame_31 kc ks (l0 :: some (.int x) :: l) (.int x :: st) h := gk_iload rfl
theorem s_X_inFrame_31 {x : Nat} {i : Int32} : wps rm K Q c_X_inFrame_31 kc ks loc (.int i :: .ref (x + 1) :: st) h = eg_aa h x i (fun v => wps rm K Q c_X_inFrame_32 kc ks loc (v :: st) h) := gk_aaload
theorem s_X_inFrame_32 {x : Nat} : wps rm K Q c_X_inFrame_32 kc ks loc (.ref (x + 1) :: st) h = eg_gf h x 8 3 (fun v => wps rm K Q c_X_inFrame_35 kc ks loc (v :: st) h) := gk_gf
theorem s_X_inFrame_35 {x : Int32} {l0 l1 : Option Value} {l : eg_Lo} : wps rm K Q c_X_inFrame_35 kc ks (l0 :: l1 :: some (.int x) :: l) (st) h = wps rm K Q c_X_inFrame_36 kc ks (l0 :: l1 :: some (.int x) :: l) (.int x :: st) h := gk_iload rfl
theorem s_X_inFrame_36 {x : Nat} {i : Int32} : wps rm K Q c_X_inFrame_36 kc ks loc (.int i :: .ref (x + 1) :: st) h = eg_ba h x i (fun v => wps rm K Q c_X_inFrame_37 kc ks loc (.int v :: st) h) := gk_baload
theorem s_X_inFrame_37 {x : Int32} : wps rm K Q c_X_inFrame_37 kc ks loc (.int x :: st) h = ((x = 0 → K 48 kc ks loc st h) ∧ (¬ x = 0 → wps rm K Q c_X_inFrame_40 kc ks loc (st) h)) := gk_if1_eq
theorem s_X_inFrame_40 {x : Nat} {l : eg_Lo} : wps rm K Q c_X_inFrame_40 kc ks (some (.ref x) :: l) (st) h = wps rm K Q c_X_inFrame_41 kc ks (some (.ref x) :: l) (.ref x :: st) h := gk_aload rfl
theorem s_X_inFrame_41  : wps rm K Q c_X_inFrame_41 kc ks loc (st) h = wps rm K Q c_X_inFrame_44 kc ks loc (.long (-1000000000000000007) :: st) h := gk_lc (by decide)
theorem s_X_inFrame_44  {a1 : Value} {x : Nat} : wps rm K Q c_X_inFrame_44 kc ks loc (a1 :: .ref (x + 1) :: st) h = (eg_cls h x 11 ∧ st.length ≤ 4 ∧ eg_Cs n_X_found (.ref (x + 1) :: [a1]) h (fun v h9 => wps rm K Q c_X_inFrame_47 kc ks loc (v.toList ++ st) h9)) := eg_c1_1
theorem s_X_inFrame_47 {x : Int64} : wps rm K Q c_X_inFrame_47 kc ks loc ([.long x]) h = (kc = rm.cells ∧ Q (some (.long x)) h) := gk_lret
theorem s_X_inFrame_48 {x : Nat} {l : eg_Lo} : wps rm K Q c_X_inFrame_48 kc ks (some (.ref x) :: l) (st) h = wps rm K Q c_X_inFrame_49 kc ks (some (.ref x) :: l) (.ref x :: st) h := gk_aload rfl
theorem s_X_inFrame_49 {x : Nat} : wps rm K Q c_X_inFrame_49 kc ks loc (.ref (x + 1) :: st) h = eg_gf h x 11 6 (fun v => wps rm K Q c_X_inFrame_52 kc ks loc (v :: st) h) := gk_gf
theorem s_X_inFrame_52 {x : Nat} : wps rm K Q c_X_inFrame_52 kc ks loc (.ref (x + 1) :: st) h = eg_gf h x 5 1 (fun v => wps rm K Q c_X_inFrame_55 kc ks loc (v :: st) h) := gk_gf
theorem s_X_inFrame_55 {x : Int32} : wps rm K Q c_X_inFrame_55 kc ks loc (.int x :: st) h = ((¬ x = 0 → K 66 kc ks loc st h) ∧ (x = 0 → wps rm K Q c_X_inFrame_58 kc ks loc (st) h)) := gk_if1_ne
theorem s_X_inFrame_58 {x : Nat} {l : eg_Lo} : wps rm K Q c_X_inFrame_58 kc ks (some (.ref x) :: l) (st) h = wps rm K Q c_X_inFrame_59 kc ks (some (.ref x) :: l) (.ref x :: st) h := gk_aload rfl
theorem s_X_inFrame_59  : wps rm K Q c_X_inFrame_59 kc ks loc (st) h = wps rm K Q c_X_inFrame_62 kc ks loc (.long (-1000000000000000006) :: st) h := gk_lc (by decide)
theorem s_X_inFrame_62  {a1 : Value} {x : Nat} : wps rm K Q c_X_inFrame_62 kc ks loc (a1 :: .ref (x + 1) :: st) h = (eg_cls h x 11 ∧ st.length ≤ 4 ∧ eg_Cs n_X_found (.ref (x + 1) :: [a1]) h (fun v h9 => wps rm K Q c_X_inFrame_65 kc ks loc (v.toList ++ st) h9)) := eg_c1_1
theorem s_X_inFrame_65 {x : Int64} : wps rm K Q c_X_inFrame_65 kc ks loc ([.long x]) h = (kc = rm.cells ∧ Q (some (.long x)) h) := gk_lret
theorem s_X_inFrame_66 {x : Nat} {l : eg_Lo} : wps rm K Q c_X_inFrame_66 kc ks (some (.ref x) :: l) (st) h = wps rm K Q c_X_inFrame_67 kc ks (some (.ref x) :: l) (.ref x :: st) h := gk_aload rfl
theorem s_X_inFrame_67 {x : Nat} : wps rm K Q c_X_inFrame_67 kc ks loc (.ref (x + 1) :: st) h = eg_gf h x 11 6 (fun v => wps rm K Q c_X_inFrame_70 kc ks loc (v :: st) h) := gk_gf
theorem s_X_inFrame_70 {x : Int32} {l0 l1 l2 : Option Value} {l : eg_Lo} : wps rm K Q c_X_inFrame_70 kc ks (l0 :: l1 :: l2 :: some (.int x) :: l) (st) h = wps rm K Q c_X_inFrame_71 kc ks (l0 :: l1 :: l2 :: some (.int x) :: l) (.int x :: st) h := gk_iload rfl
theorem s_X_inFrame_71 {x : Nat} {l : eg_Lo} : wps rm K Q c_X_inFrame_71 kc ks (some (.ref x) :: l) (st) h = wps rm K Q c_X_inFrame_72 kc ks (some (.ref x) :: l) (.ref x :: st) h := gk_aload rfl
theorem s_X_inFrame_72 {x : Nat} : wps rm K Q c_X_inFrame_72 kc ks loc (.ref (x + 1) :: st) h = eg_gf h x 11 0 (fun v => wps rm K Q c_X_inFrame_75 kc ks loc (v :: st) h) := gk_gf
theorem s_X_inFrame_75 {x : Int32} {l0 : Option Value} {l : eg_Lo} : wps rm K Q c_X_inFrame_75 kc ks (l0 :: some (.int x) :: l) (st) h = wps rm K Q c_X_inFrame_76 kc ks (l0 :: some (.int x) :: l) (.int x :: st) h := gk_iload rfl
theorem s_X_inFrame_76 {x : Nat} {i : Int32} : wps rm K Q c_X_inFrame_76 kc ks loc (.int i :: .ref (x + 1) :: st) h = eg_aa h x i (fun v => wps rm K Q c_X_inFrame_77 kc ks loc (v :: st) h) := gk_aaload
theorem s_X_inFrame_77 {x : Int32} {l0 l1 : Option Value} {l : eg_Lo} : wps rm K Q c_X_inFrame_77 kc ks (l0 :: l1 :: some (.int x) :: l) (st) h = wps rm K Q c_X_inFrame_78 kc ks (l0 :: l1 :: some (.int x) :: l) (.int x :: st) h := gk_iload rfl
theorem s_X_inFrame_78  {a1 : Value} {a2 : Value} {a3 : Value} {x : Nat} : wps rm K Q c_X_inFrame_78 kc ks loc (a3 :: a2 :: a1 :: .ref (x + 1) :: st) h = (eg_cls h x 5 ∧ st.length ≤ 4 ∧ eg_Cs n_Frame_along (.ref (x + 1) :: [a1, a2, a3]) h (fun v h9 => wps rm K Q c_X_inFrame_81 kc ks loc (v.toList ++ st) h9)) := eg_c1_3
theorem s_X_inFrame_81 {x : Int64} : wps rm K Q c_X_inFrame_81 kc ks loc ([.long x]) h = (kc = rm.cells ∧ Q (some (.long x)) h) := gk_lret
def T_X_inFrame : List (Nat × List eg_I) := [(18, c_X_inFrame_18), (26, c_X_inFrame_26), (48, c_X_inFrame_48), (66, c_X_inFrame_66)]
theorem j_X_inFrame_18 {R : Nat → Nat → Nat → eg_Lo → List Value → List eg_E → Prop} {f pc0 : Nat} : eg_run rm R Q T_X_inFrame (f + 1) 18 kc ks loc st h = wps rm (eg_run rm R Q T_X_inFrame f) Q c_X_inFrame_18 kc ks loc st h := rfl
theorem j_X_inFrame_26 {R : Nat → Nat → Nat → eg_Lo → List Value → List eg_E → Prop} {f pc0 : Nat} : eg_run rm R Q T_X_inFrame (f + 1) 26 kc ks loc st h = wps rm (eg_run rm R Q T_X_inFrame f) Q c_X_inFrame_26 kc ks loc st h := rfl
theorem j_X_inFrame_48 {R : Nat → Nat → Nat → eg_Lo → List Value → List eg_E → Prop} {f pc0 : Nat} : eg_run rm R Q T_X_inFrame (f + 1) 48 kc ks loc st h = wps rm (eg_run rm R Q T_X_inFrame f) Q c_X_inFrame_48 kc ks loc st h := rfl
theorem j_X_inFrame_66 {R : Nat → Nat → Nat → eg_Lo → List Value → List eg_E → Prop} {f pc0 : Nat} : eg_run rm R Q T_X_inFrame (f + 1) 66 kc ks loc st h = wps rm (eg_run rm R Q T_X_inFrame f) Q c_X_inFrame_66 kc ks loc st h := rfl
end
theorem y_X_inFrame_0 : eg_seq m_X_inFrame 0 c_X_inFrame_0 = true := by decide +kernel
theorem y_X_inFrame_26 : eg_seq m_X_inFrame 26 c_X_inFrame_26 = true := by decide +kernel
theorem y_X_inFrame_48 : eg_seq m_X_inFrame 48 c_X_inFrame_48 = true := by decide +kernel
theorem y_X_inFrame_66 : eg_seq m_X_inFrame 66 c_X_inFrame_66 = true := by decide +kernel
theorem q_X_inFrame : ∀ q ∈ T_X_inFrame, eg_seq m_X_inFrame q.1 q.2 = true := by
  intro q hq
  simp only [T_X_inFrame, List.mem_cons, List.not_mem_nil, or_false] at hq
  rcases hq with rfl | rfl | rfl | rfl
  · exact (eg_seq_drop y_X_inFrame_0 10 : eg_seq m_X_inFrame 18 c_X_inFrame_18 = true)
  · exact y_X_inFrame_26
  · exact y_X_inFrame_48
  · exact y_X_inFrame_66
theorem b_X_inFrame {as : List Value} {h : List eg_E} {Q : Option Value → List eg_E → Prop} (hf : (eg_fl as).length ≤ 4) (hw : wps (eg_rm m_X_inFrame) (eg_run (eg_rm m_X_inFrame) (eg_R m_X_inFrame Q (h.length + 0)) Q T_X_inFrame 6) Q c_X_inFrame_0 0 0 (eg_entry 4 as) [] h) : eg_Runs n_X_inFrame as h Q := eg_begin2 (d := m_X_inFrame) rfl (by decide) y_X_inFrame_0 q_X_inFrame hf hw
/-! ===== X_corner ===== -/
def c_X_corner_66 : List eg_I := .inl (66, 1, .lreturn, 0, 0) :: []
def c_X_corner_65 : List eg_I := .inl (65, 1, .i2l, 0, 0) :: c_X_corner_66
def c_X_corner_62 : List eg_I := .inr (62, 1, 283, n_Outl_add, 2, 7, 0, 0) :: c_X_corner_65
def c_X_corner_61 : List eg_I := .inl (61, 1, .iload 2, 0, 0) :: c_X_corner_62
def c_X_corner_60 : List eg_I := .inl (60, 1, .iload 1, 0, 0) :: c_X_corner_61
def c_X_corner_57 : List eg_I := .inl (57, 3, .getfield 58, 11, 7) :: c_X_corner_60
def c_X_corner_56 : List eg_I := .inl (56, 1, .aload 0, 0, 0) :: c_X_corner_57
def c_X_corner_55 : List eg_I := .inl (55, 1, .lreturn, 0, 0) :: []
def c_X_corner_52 : List eg_I := .inr (52, 1, 86, n_X_found, 1, 11, 0, 0) :: c_X_corner_55
def c_X_corner_49 : List eg_I := .inl (49, 3, .sipush (-1000000000000000005), 94, 0) :: c_X_corner_52
def c_X_corner_48 : List eg_I := .inl (48, 1, .aload 0, 0, 0) :: c_X_corner_49
def c_X_corner_45 : List eg_I := .inl (45, 3, .if_icmp .lt (11), 56, 0) :: c_X_corner_48
def c_X_corner_43 : List eg_I := .inl (43, 2, .iconst (10), 0, 0) :: c_X_corner_45
def c_X_corner_40 : List eg_I := .inl (40, 3, .getfield 282, 7, 1) :: c_X_corner_43
def c_X_corner_37 : List eg_I := .inl (37, 3, .getfield 58, 11, 7) :: c_X_corner_40
def c_X_corner_36 : List eg_I := .inl (36, 1, .aload 0, 0, 0) :: c_X_corner_37
def c_X_corner_35 : List eg_I := .inl (35, 1, .lreturn, 0, 0) :: []
def c_X_corner_32 : List eg_I := .inr (32, 1, 86, n_X_found, 1, 11, 0, 0) :: c_X_corner_35
def c_X_corner_29 : List eg_I := .inl (29, 3, .sipush (-1000000000000000003), 163, 0) :: c_X_corner_32
def c_X_corner_28 : List eg_I := .inl (28, 1, .aload 0, 0, 0) :: c_X_corner_29
def c_X_corner_25 : List eg_I := .inl (25, 3, .ifCond .eq (11), 36, 0) :: c_X_corner_28
def c_X_corner_22 : List eg_I := .inr (22, 1, 279, n_Outl_endsAt, 2, 7, 0, 0) :: c_X_corner_25
def c_X_corner_21 : List eg_I := .inl (21, 1, .iload 2, 0, 0) :: c_X_corner_22
def c_X_corner_20 : List eg_I := .inl (20, 1, .iload 1, 0, 0) :: c_X_corner_21
def c_X_corner_17 : List eg_I := .inl (17, 3, .getfield 58, 11, 7) :: c_X_corner_20
def c_X_corner_16 : List eg_I := .inl (16, 1, .aload 0, 0, 0) :: c_X_corner_17
def c_X_corner_15 : List eg_I := .inl (15, 1, .lreturn, 0, 0) :: []
def c_X_corner_12 : List eg_I := .inr (12, 1, 86, n_X_found, 1, 11, 0, 0) :: c_X_corner_15
def c_X_corner_9 : List eg_I := .inl (9, 3, .sipush (-1000000000000000001), 84, 0) :: c_X_corner_12
def c_X_corner_8 : List eg_I := .inl (8, 1, .aload 0, 0, 0) :: c_X_corner_9
def c_X_corner_5 : List eg_I := .inl (5, 3, .ifCond .ne (11), 16, 0) :: c_X_corner_8
def c_X_corner_2 : List eg_I := .inr (2, 0, 76, n_X_isPlace, 2, 11, 0, 0) :: c_X_corner_5
def c_X_corner_1 : List eg_I := .inl (1, 1, .iload 2, 0, 0) :: c_X_corner_2
def c_X_corner_0 : List eg_I := .inl (0, 1, .iload 1, 0, 0) :: c_X_corner_1
section
variable {rm : Room} {K : Nat → Nat → Nat → eg_Lo → List Value → List eg_E → Prop} {Q : Option Value → List eg_E → Prop} {kc ks : Nat} {loc : eg_Lo} {st : List Value} {h : List eg_E}
theorem s_X_corner_0 {x : Int32} {l0 : Option Value} {l : eg_Lo} : wps rm K Q c_X_corner_0 kc ks (l0 :: some (.int x) :: l) (st) h = wps rm K Q c_X_corner_1 kc ks (l0 :: some (.int x) :: l) (.int x :: st) h := gk_iload rfl
theorem s_X_corner_1 {x : Int32} {l0 l1 : Option Value} {l : eg_Lo} : wps rm K Q c_X_corner_1 kc ks (l0 :: l1 :: some (.int x) :: l) (st) h = wps rm K Q c_X_corner_2 kc ks (l0 :: l1 :: some (.int x) :: l) (.int x :: st) h := gk_iload rfl
theorem s_X_corner_2  {a1 : Value} {a2 : Value} : wps rm K Q c_X_corner_2 kc ks loc (a2 :: a1 :: st) h = (st.length ≤ 4 ∧ eg_Cs n_X_isPlace [a1, a2] h (fun v h9 => wps rm K Q c_X_corner_5 kc ks loc (v.toList ++ st) h9)) := eg_c0_2
theorem s_X_corner_5 {x : Int32} : wps rm K Q c_X_corner_5 kc ks loc (.int x :: st) h = ((¬ x = 0 → K 16 kc ks loc st h) ∧ (x = 0 → wps rm K Q c_X_corner_8 kc ks loc (st) h)) := gk_if1_ne
theorem s_X_corner_8 {x : Nat} {l : eg_Lo} : wps rm K Q c_X_corner_8 kc ks (some (.ref x) :: l) (st) h = wps rm K Q c_X_corner_9 kc ks (some (.ref x) :: l) (.ref x :: st) h := gk_aload rfl
theorem s_X_corner_9  : wps rm K Q c_X_corner_9 kc ks loc (st) h = wps rm K Q c_X_corner_12 kc ks loc (.long (-1000000000000000001) :: st) h := gk_lc (by decide)
theorem s_X_corner_12  {a1 : Value} {x : Nat} : wps rm K Q c_X_corner_12 kc ks loc (a1 :: .ref (x + 1) :: st) h = (eg_cls h x 11 ∧ st.length ≤ 4 ∧ eg_Cs n_X_found (.ref (x + 1) :: [a1]) h (fun v h9 => wps rm K Q c_X_corner_15 kc ks loc (v.toList ++ st) h9)) := eg_c1_1
theorem s_X_corner_15 {x : Int64} : wps rm K Q c_X_corner_15 kc ks loc ([.long x]) h = (kc = rm.cells ∧ Q (some (.long x)) h) := gk_lret
theorem s_X_corner_16 {x : Nat} {l : eg_Lo} : wps rm K Q c_X_corner_16 kc ks (some (.ref x) :: l) (st) h = wps rm K Q c_X_corner_17 kc ks (some (.ref x) :: l) (.ref x :: st) h := gk_aload rfl
theorem s_X_corner_17 {x : Nat} : wps rm K Q c_X_corner_17 kc ks loc (.ref (x + 1) :: st) h = eg_gf h x 11 7 (fun v => wps rm K Q c_X_corner_20 kc ks loc (v :: st) h) := gk_gf
theorem s_X_corner_20 {x : Int32} {l0 : Option Value} {l : eg_Lo} : wps rm K Q c_X_corner_20 kc ks (l0 :: some (.int x) :: l) (st) h = wps rm K Q c_X_corner_21 kc ks (l0 :: some (.int x) :: l) (.int x :: st) h := gk_iload rfl
theorem s_X_corner_21 {x : Int32} {l0 l1 : Option Value} {l : eg_Lo} : wps rm K Q c_X_corner_21 kc ks (l0 :: l1 :: some (.int x) :: l) (st) h = wps rm K Q c_X_corner_22 kc ks (l0 :: l1 :: some (.int x) :: l) (.int x :: st) h := gk_iload rfl
theorem s_X_corner_22  {a1 : Value} {a2 : Value} {x : Nat} : wps rm K Q c_X_corner_22 kc ks loc (a2 :: a1 :: .ref (x + 1) :: st) h = (eg_cls h x 7 ∧ st.length ≤ 4 ∧ eg_Cs n_Outl_endsAt (.ref (x + 1) :: [a1, a2]) h (fun v h9 => wps rm K Q c_X_corner_25 kc ks loc (v.toList ++ st) h9)) := eg_c1_2
theorem s_X_corner_25 {x : Int32} : wps rm K Q c_X_corner_25 kc ks loc (.int x :: st) h = ((x = 0 → K 36 kc ks loc st h) ∧ (¬ x = 0 → wps rm K Q c_X_corner_28 kc ks loc (st) h)) := gk_if1_eq
theorem s_X_corner_28 {x : Nat} {l : eg_Lo} : wps rm K Q c_X_corner_28 kc ks (some (.ref x) :: l) (st) h = wps rm K Q c_X_corner_29 kc ks (some (.ref x) :: l) (.ref x :: st) h := gk_aload rfl
theorem s_X_corner_29  : wps rm K Q c_X_corner_29 kc ks loc (st) h = wps rm K Q c_X_corner_32 kc ks loc (.long (-1000000000000000003) :: st) h := gk_lc (by decide)
theorem s_X_corner_32  {a1 : Value} {x : Nat} : wps rm K Q c_X_corner_32 kc ks loc (a1 :: .ref (x + 1) :: st) h = (eg_cls h x 11 ∧ st.length ≤ 4 ∧ eg_Cs n_X_found (.ref (x + 1) :: [a1]) h (fun v h9 => wps rm K Q c_X_corner_35 kc ks loc (v.toList ++ st) h9)) := eg_c1_1
theorem s_X_corner_35 {x : Int64} : wps rm K Q c_X_corner_35 kc ks loc ([.long x]) h = (kc = rm.cells ∧ Q (some (.long x)) h) := gk_lret
theorem s_X_corner_36 {x : Nat} {l : eg_Lo} : wps rm K Q c_X_corner_36 kc ks (some (.ref x) :: l) (st) h = wps rm K Q c_X_corner_37 kc ks (some (.ref x) :: l) (.ref x :: st) h := gk_aload rfl
theorem s_X_corner_37 {x : Nat} : wps rm K Q c_X_corner_37 kc ks loc (.ref (x + 1) :: st) h = eg_gf h x 11 7 (fun v => wps rm K Q c_X_corner_40 kc ks loc (v :: st) h) := gk_gf
theorem s_X_corner_40 {x : Nat} : wps rm K Q c_X_corner_40 kc ks loc (.ref (x + 1) :: st) h = eg_gf h x 7 1 (fun v => wps rm K Q c_X_corner_43 kc ks loc (v :: st) h) := gk_gf
theorem s_X_corner_43  : wps rm K Q c_X_corner_43 kc ks loc (st) h = wps rm K Q c_X_corner_45 kc ks loc (.int (10) :: st) h := gk_ic (by decide)
theorem s_X_corner_45 {x y : Int32} : wps rm K Q c_X_corner_45 kc ks loc (.int y :: .int x :: st) h = ((x < y → K 56 kc ks loc st h) ∧ (¬ x < y → wps rm K Q c_X_corner_48 kc ks loc (st) h)) := gk_if2_lt
theorem s_X_corner_48 {x : Nat} {l : eg_Lo} : wps rm K Q c_X_corner_48 kc ks (some (.ref x) :: l) (st) h = wps rm K Q c_X_corner_49 kc ks (some (.ref x) :: l) (.ref x :: st) h := gk_aload rfl
theorem s_X_corner_49  : wps rm K Q c_X_corner_49 kc ks loc (st) h = wps rm K Q c_X_corner_52 kc ks loc (.long (-1000000000000000005) :: st) h := gk_lc (by decide)
theorem s_X_corner_52  {a1 : Value} {x : Nat} : wps rm K Q c_X_corner_52 kc ks loc (a1 :: .ref (x + 1) :: st) h = (eg_cls h x 11 ∧ st.length ≤ 4 ∧ eg_Cs n_X_found (.ref (x + 1) :: [a1]) h (fun v h9 => wps rm K Q c_X_corner_55 kc ks loc (v.toList ++ st) h9)) := eg_c1_1
theorem s_X_corner_55 {x : Int64} : wps rm K Q c_X_corner_55 kc ks loc ([.long x]) h = (kc = rm.cells ∧ Q (some (.long x)) h) := gk_lret
theorem s_X_corner_56 {x : Nat} {l : eg_Lo} : wps rm K Q c_X_corner_56 kc ks (some (.ref x) :: l) (st) h = wps rm K Q c_X_corner_57 kc ks (some (.ref x) :: l) (.ref x :: st) h := gk_aload rfl
theorem s_X_corner_57 {x : Nat} : wps rm K Q c_X_corner_57 kc ks loc (.ref (x + 1) :: st) h = eg_gf h x 11 7 (fun v => wps rm K Q c_X_corner_60 kc ks loc (v :: st) h) := gk_gf
theorem s_X_corner_60 {x : Int32} {l0 : Option Value} {l : eg_Lo} : wps rm K Q c_X_corner_60 kc ks (l0 :: some (.int x) :: l) (st) h = wps rm K Q c_X_corner_61 kc ks (l0 :: some (.int x) :: l) (.int x :: st) h := gk_iload rfl
theorem s_X_corner_61 {x : Int32} {l0 l1 : Option Value} {l : eg_Lo} : wps rm K Q c_X_corner_61 kc ks (l0 :: l1 :: some (.int x) :: l) (st) h = wps rm K Q c_X_corner_62 kc ks (l0 :: l1 :: some (.int x) :: l) (.int x :: st) h := gk_iload rfl
theorem s_X_corner_62  {a1 : Value} {a2 : Value} {x : Nat} : wps rm K Q c_X_corner_62 kc ks loc (a2 :: a1 :: .ref (x + 1) :: st) h = (eg_cls h x 7 ∧ st.length ≤ 4 ∧ eg_Cs n_Outl_add (.ref (x + 1) :: [a1, a2]) h (fun v h9 => wps rm K Q c_X_corner_65 kc ks loc (v.toList ++ st) h9)) := eg_c1_2
theorem s_X_corner_65 {x : Int32} : wps rm K Q c_X_corner_65 kc ks loc (.int x :: st) h = wps rm K Q c_X_corner_66 kc ks loc (.long (x.toInt64) :: st) h := gk_i2l
theorem s_X_corner_66 {x : Int64} : wps rm K Q c_X_corner_66 kc ks loc ([.long x]) h = (kc = rm.cells ∧ Q (some (.long x)) h) := gk_lret
def T_X_corner : List (Nat × List eg_I) := [(16, c_X_corner_16), (36, c_X_corner_36), (56, c_X_corner_56)]
theorem j_X_corner_16 {R : Nat → Nat → Nat → eg_Lo → List Value → List eg_E → Prop} {f pc0 : Nat} : eg_run rm R Q T_X_corner (f + 1) 16 kc ks loc st h = wps rm (eg_run rm R Q T_X_corner f) Q c_X_corner_16 kc ks loc st h := rfl
theorem j_X_corner_36 {R : Nat → Nat → Nat → eg_Lo → List Value → List eg_E → Prop} {f pc0 : Nat} : eg_run rm R Q T_X_corner (f + 1) 36 kc ks loc st h = wps rm (eg_run rm R Q T_X_corner f) Q c_X_corner_36 kc ks loc st h := rfl
theorem j_X_corner_56 {R : Nat → Nat → Nat → eg_Lo → List Value → List eg_E → Prop} {f pc0 : Nat} : eg_run rm R Q T_X_corner (f + 1) 56 kc ks loc st h = wps rm (eg_run rm R Q T_X_corner f) Q c_X_corner_56 kc ks loc st h := rfl
end
theorem y_X_corner_0 : eg_seq m_X_corner 0 c_X_corner_0 = true := by decide +kernel
theorem y_X_corner_16 : eg_seq m_X_corner 16 c_X_corner_16 = true := by decide +kernel
theorem y_X_corner_36 : eg_seq m_X_corner 36 c_X_corner_36 = true := by decide +kernel
theorem y_X_corner_56 : eg_seq m_X_corner 56 c_X_corner_56 = true := by decide +kernel
theorem q_X_corner : ∀ q ∈ T_X_corner, eg_seq m_X_corner q.1 q.2 = true := by
  intro q hq
  simp only [T_X_corner, List.mem_cons, List.not_mem_nil, or_false] at hq
  rcases hq with rfl | rfl | rfl
  · exact y_X_corner_16
  · exact y_X_corner_36
  · exact y_X_corner_56
theorem b_X_corner {as : List Value} {h : List eg_E} {Q : Option Value → List eg_E → Prop} (hf : (eg_fl as).length ≤ 3) (hw : wps (eg_rm m_X_corner) (eg_run (eg_rm m_X_corner) (eg_R m_X_corner Q (h.length + 0)) Q T_X_corner 5) Q c_X_corner_0 0 0 (eg_entry 3 as) [] h) : eg_Runs n_X_corner as h Q := eg_begin2 (d := m_X_corner) rfl (by decide) y_X_corner_0 q_X_corner hf hw
/-! ===== X_open ===== -/
def c_X_open_18 : List eg_I := .inl (18, 1, .lreturn, 0, 0) :: []
def c_X_open_17 : List eg_I := .inl (17, 1, .i2l, 0, 0) :: c_X_open_18
def c_X_open_16 : List eg_I := .inl (16, 1, .iload 1, 0, 0) :: c_X_open_17
def c_X_open_13 : List eg_I := .inl (13, 3, .putfield 282, 7, 1) :: c_X_open_16
def c_X_open_12 : List eg_I := .inl (12, 1, .iconst (0), 0, 0) :: c_X_open_13
def c_X_open_9 : List eg_I := .inl (9, 3, .getfield 58, 11, 7) :: c_X_open_12
def c_X_open_8 : List eg_I := .inl (8, 1, .aload 0, 0, 0) :: c_X_open_9
def c_X_open_7 : List eg_I := .inl (7, 1, .istore 1, 0, 0) :: c_X_open_8
def c_X_open_4 : List eg_I := .inl (4, 3, .getfield 282, 7, 1) :: c_X_open_7
def c_X_open_1 : List eg_I := .inl (1, 3, .getfield 58, 11, 7) :: c_X_open_4
def c_X_open_0 : List eg_I := .inl (0, 1, .aload 0, 0, 0) :: c_X_open_1
section
variable {rm : Room} {K : Nat → Nat → Nat → eg_Lo → List Value → List eg_E → Prop} {Q : Option Value → List eg_E → Prop} {kc ks : Nat} {loc : eg_Lo} {st : List Value} {h : List eg_E}
theorem s_X_open_0 {x : Nat} {l : eg_Lo} : wps rm K Q c_X_open_0 kc ks (some (.ref x) :: l) (st) h = wps rm K Q c_X_open_1 kc ks (some (.ref x) :: l) (.ref x :: st) h := gk_aload rfl
theorem s_X_open_1 {x : Nat} : wps rm K Q c_X_open_1 kc ks loc (.ref (x + 1) :: st) h = eg_gf h x 11 7 (fun v => wps rm K Q c_X_open_4 kc ks loc (v :: st) h) := gk_gf
theorem s_X_open_4 {x : Nat} : wps rm K Q c_X_open_4 kc ks loc (.ref (x + 1) :: st) h = eg_gf h x 7 1 (fun v => wps rm K Q c_X_open_7 kc ks loc (v :: st) h) := gk_gf
theorem s_X_open_7 {x : Int32} : wps rm K Q c_X_open_7 kc ks loc (.int x :: st) h = wps rm K Q c_X_open_8 kc ks (eg_set1 loc 1 (.int x)) (st) h := gk_istore
theorem s_X_open_8 {x : Nat} {l : eg_Lo} : wps rm K Q c_X_open_8 kc ks (some (.ref x) :: l) (st) h = wps rm K Q c_X_open_9 kc ks (some (.ref x) :: l) (.ref x :: st) h := gk_aload rfl
theorem s_X_open_9 {x : Nat} : wps rm K Q c_X_open_9 kc ks loc (.ref (x + 1) :: st) h = eg_gf h x 11 7 (fun v => wps rm K Q c_X_open_12 kc ks loc (v :: st) h) := gk_gf
theorem s_X_open_12  : wps rm K Q c_X_open_12 kc ks loc (st) h = wps rm K Q c_X_open_13 kc ks loc (.int (0) :: st) h := gk_ic (by decide)
theorem s_X_open_13 {x : Nat} {v : Value} : wps rm K Q c_X_open_13 kc ks loc (v :: .ref (x + 1) :: st) h = eg_pf h x 7 1 v (fun h9 => wps rm K Q c_X_open_16 kc ks loc (st) h9) := gk_pf
theorem s_X_open_16 {x : Int32} {l0 : Option Value} {l : eg_Lo} : wps rm K Q c_X_open_16 kc ks (l0 :: some (.int x) :: l) (st) h = wps rm K Q c_X_open_17 kc ks (l0 :: some (.int x) :: l) (.int x :: st) h := gk_iload rfl
theorem s_X_open_17 {x : Int32} : wps rm K Q c_X_open_17 kc ks loc (.int x :: st) h = wps rm K Q c_X_open_18 kc ks loc (.long (x.toInt64) :: st) h := gk_i2l
theorem s_X_open_18 {x : Int64} : wps rm K Q c_X_open_18 kc ks loc ([.long x]) h = (kc = rm.cells ∧ Q (some (.long x)) h) := gk_lret
def T_X_open : List (Nat × List eg_I) := []
end
theorem y_X_open_0 : eg_seq m_X_open 0 c_X_open_0 = true := by decide +kernel
theorem q_X_open : ∀ q ∈ T_X_open, eg_seq m_X_open q.1 q.2 = true := by
  intro q hq
  cases hq
theorem b_X_open {as : List Value} {h : List eg_E} {Q : Option Value → List eg_E → Prop} (hf : (eg_fl as).length ≤ 2) (hw : wps (eg_rm m_X_open) (eg_run (eg_rm m_X_open) (eg_R m_X_open Q (h.length + 0)) Q T_X_open 2) Q c_X_open_0 0 0 (eg_entry 2 as) [] h) : eg_Runs n_X_open as h Q := eg_begin2 (d := m_X_open) rfl (by decide) y_X_open_0 q_X_open hf hw
/-! ===== X_nearest ===== -/
def c_X_nearest_49 : List eg_I := .inl (49, 1, .lreturn, 0, 0) :: []
def c_X_nearest_48 : List eg_I := .inl (48, 1, .i2l, 0, 0) :: c_X_nearest_49
def c_X_nearest_45 : List eg_I := .inr (45, 1, 289, n_Outl_findNearest, 2, 7, 0, 0) :: c_X_nearest_48
def c_X_nearest_44 : List eg_I := .inl (44, 1, .iaload, 0, 0) :: c_X_nearest_45
def c_X_nearest_43 : List eg_I := .inl (43, 1, .iload 2, 0, 0) :: c_X_nearest_44
def c_X_nearest_40 : List eg_I := .inl (40, 3, .getfield 119, 8, 1) :: c_X_nearest_43
def c_X_nearest_39 : List eg_I := .inl (39, 1, .aaload, 0, 0) :: c_X_nearest_40
def c_X_nearest_38 : List eg_I := .inl (38, 1, .iload 1, 0, 0) :: c_X_nearest_39
def c_X_nearest_35 : List eg_I := .inl (35, 3, .getfield 11, 11, 0) :: c_X_nearest_38
def c_X_nearest_34 : List eg_I := .inl (34, 1, .aload 0, 0, 0) :: c_X_nearest_35
def c_X_nearest_33 : List eg_I := .inl (33, 1, .iaload, 0, 0) :: c_X_nearest_34
def c_X_nearest_32 : List eg_I := .inl (32, 1, .iload 2, 0, 0) :: c_X_nearest_33
def c_X_nearest_29 : List eg_I := .inl (29, 3, .getfield 115, 8, 0) :: c_X_nearest_32
def c_X_nearest_28 : List eg_I := .inl (28, 1, .aaload, 0, 0) :: c_X_nearest_29
def c_X_nearest_27 : List eg_I := .inl (27, 1, .iload 1, 0, 0) :: c_X_nearest_28
def c_X_nearest_24 : List eg_I := .inl (24, 3, .getfield 11, 11, 0) :: c_X_nearest_27
def c_X_nearest_23 : List eg_I := .inl (23, 1, .aload 0, 0, 0) :: c_X_nearest_24
def c_X_nearest_20 : List eg_I := .inl (20, 3, .getfield 58, 11, 7) :: c_X_nearest_23
def c_X_nearest_19 : List eg_I := .inl (19, 1, .aload 0, 0, 0) :: c_X_nearest_20
def c_X_nearest_18 : List eg_I := .inl (18, 1, .lreturn, 0, 0) :: []
def c_X_nearest_15 : List eg_I := .inr (15, 1, 86, n_X_found, 1, 11, 0, 0) :: c_X_nearest_18
def c_X_nearest_14 : List eg_I := .inl (14, 1, .lload 3, 0, 0) :: c_X_nearest_15
def c_X_nearest_13 : List eg_I := .inl (13, 1, .aload 0, 0, 0) :: c_X_nearest_14
def c_X_nearest_10 : List eg_I := .inl (10, 3, .ifCond .eq (9), 19, 0) :: c_X_nearest_13
def c_X_nearest_9 : List eg_I := .inl (9, 1, .lcmp, 0, 0) :: c_X_nearest_10
def c_X_nearest_8 : List eg_I := .inl (8, 1, .sipush (0), 0, 0) :: c_X_nearest_9
def c_X_nearest_7 : List eg_I := .inl (7, 1, .lload 3, 0, 0) :: c_X_nearest_8
def c_X_nearest_6 : List eg_I := .inl (6, 1, .lstore 3, 0, 0) :: c_X_nearest_7
def c_X_nearest_3 : List eg_I := .inr (3, 1, 285, n_X_outlineFinding, 2, 11, 0, 0) :: c_X_nearest_6
def c_X_nearest_2 : List eg_I := .inl (2, 1, .iload 2, 0, 0) :: c_X_nearest_3
def c_X_nearest_1 : List eg_I := .inl (1, 1, .iload 1, 0, 0) :: c_X_nearest_2
def c_X_nearest_0 : List eg_I := .inl (0, 1, .aload 0, 0, 0) :: c_X_nearest_1
section
variable {rm : Room} {K : Nat → Nat → Nat → eg_Lo → List Value → List eg_E → Prop} {Q : Option Value → List eg_E → Prop} {kc ks : Nat} {loc : eg_Lo} {st : List Value} {h : List eg_E}
theorem s_X_nearest_0 {x : Nat} {l : eg_Lo} : wps rm K Q c_X_nearest_0 kc ks (some (.ref x) :: l) (st) h = wps rm K Q c_X_nearest_1 kc ks (some (.ref x) :: l) (.ref x :: st) h := gk_aload rfl
theorem s_X_nearest_1 {x : Int32} {l0 : Option Value} {l : eg_Lo} : wps rm K Q c_X_nearest_1 kc ks (l0 :: some (.int x) :: l) (st) h = wps rm K Q c_X_nearest_2 kc ks (l0 :: some (.int x) :: l) (.int x :: st) h := gk_iload rfl
theorem s_X_nearest_2 {x : Int32} {l0 l1 : Option Value} {l : eg_Lo} : wps rm K Q c_X_nearest_2 kc ks (l0 :: l1 :: some (.int x) :: l) (st) h = wps rm K Q c_X_nearest_3 kc ks (l0 :: l1 :: some (.int x) :: l) (.int x :: st) h := gk_iload rfl
theorem s_X_nearest_3  {a1 : Value} {a2 : Value} {x : Nat} : wps rm K Q c_X_nearest_3 kc ks loc (a2 :: a1 :: .ref (x + 1) :: st) h = (eg_cls h x 11 ∧ st.length ≤ 4 ∧ eg_Cs n_X_outlineFinding (.ref (x + 1) :: [a1, a2]) h (fun v h9 => wps rm K Q c_X_nearest_6 kc ks loc (v.toList ++ st) h9)) := eg_c1_2
theorem s_X_nearest_6 {x : Int64} : wps rm K Q c_X_nearest_6 kc ks loc (.long x :: st) h = wps rm K Q c_X_nearest_7 kc ks (eg_set2 loc 3 (.long x)) (st) h := gk_lstore
theorem s_X_nearest_7 {x : Int64} {l0 l1 l2 : Option Value} {l : eg_Lo} : wps rm K Q c_X_nearest_7 kc ks (l0 :: l1 :: l2 :: some (.long x) :: l) (st) h = wps rm K Q c_X_nearest_8 kc ks (l0 :: l1 :: l2 :: some (.long x) :: l) (.long x :: st) h := gk_lload rfl
theorem s_X_nearest_8  : wps rm K Q c_X_nearest_8 kc ks loc (st) h = wps rm K Q c_X_nearest_9 kc ks loc (.long (0) :: st) h := gk_lc (by decide)
theorem s_X_nearest_9 {x y : Int64} : wps rm K Q c_X_nearest_9 kc ks loc (.long y :: .long x :: st) h = wps rm K Q c_X_nearest_10 kc ks loc (.int (lg_cmp x y) :: st) h := gk_lcmp
theorem s_X_nearest_10 {x : Int32} : wps rm K Q c_X_nearest_10 kc ks loc (.int x :: st) h = ((x = 0 → K 19 kc ks loc st h) ∧ (¬ x = 0 → wps rm K Q c_X_nearest_13 kc ks loc (st) h)) := gk_if1_eq
theorem s_X_nearest_13 {x : Nat} {l : eg_Lo} : wps rm K Q c_X_nearest_13 kc ks (some (.ref x) :: l) (st) h = wps rm K Q c_X_nearest_14 kc ks (some (.ref x) :: l) (.ref x :: st) h := gk_aload rfl
theorem s_X_nearest_14 {x : Int64} {l0 l1 l2 : Option Value} {l : eg_Lo} : wps rm K Q c_X_nearest_14 kc ks (l0 :: l1 :: l2 :: some (.long x) :: l) (st) h = wps rm K Q c_X_nearest_15 kc ks (l0 :: l1 :: l2 :: some (.long x) :: l) (.long x :: st) h := gk_lload rfl
theorem s_X_nearest_15  {a1 : Value} {x : Nat} : wps rm K Q c_X_nearest_15 kc ks loc (a1 :: .ref (x + 1) :: st) h = (eg_cls h x 11 ∧ st.length ≤ 4 ∧ eg_Cs n_X_found (.ref (x + 1) :: [a1]) h (fun v h9 => wps rm K Q c_X_nearest_18 kc ks loc (v.toList ++ st) h9)) := eg_c1_1
theorem s_X_nearest_18 {x : Int64} : wps rm K Q c_X_nearest_18 kc ks loc ([.long x]) h = (kc = rm.cells ∧ Q (some (.long x)) h) := gk_lret
theorem s_X_nearest_19 {x : Nat} {l : eg_Lo} : wps rm K Q c_X_nearest_19 kc ks (some (.ref x) :: l) (st) h = wps rm K Q c_X_nearest_20 kc ks (some (.ref x) :: l) (.ref x :: st) h := gk_aload rfl
theorem s_X_nearest_20 {x : Nat} : wps rm K Q c_X_nearest_20 kc ks loc (.ref (x + 1) :: st) h = eg_gf h x 11 7 (fun v => wps rm K Q c_X_nearest_23 kc ks loc (v :: st) h) := gk_gf
theorem s_X_nearest_23 {x : Nat} {l : eg_Lo} : wps rm K Q c_X_nearest_23 kc ks (some (.ref x) :: l) (st) h = wps rm K Q c_X_nearest_24 kc ks (some (.ref x) :: l) (.ref x :: st) h := gk_aload rfl
theorem s_X_nearest_24 {x : Nat} : wps rm K Q c_X_nearest_24 kc ks loc (.ref (x + 1) :: st) h = eg_gf h x 11 0 (fun v => wps rm K Q c_X_nearest_27 kc ks loc (v :: st) h) := gk_gf
theorem s_X_nearest_27 {x : Int32} {l0 : Option Value} {l : eg_Lo} : wps rm K Q c_X_nearest_27 kc ks (l0 :: some (.int x) :: l) (st) h = wps rm K Q c_X_nearest_28 kc ks (l0 :: some (.int x) :: l) (.int x :: st) h := gk_iload rfl
theorem s_X_nearest_28 {x : Nat} {i : Int32} : wps rm K Q c_X_nearest_28 kc ks loc (.int i :: .ref (x + 1) :: st) h = eg_aa h x i (fun v => wps rm K Q c_X_nearest_29 kc ks loc (v :: st) h) := gk_aaload
theorem s_X_nearest_29 {x : Nat} : wps rm K Q c_X_nearest_29 kc ks loc (.ref (x + 1) :: st) h = eg_gf h x 8 0 (fun v => wps rm K Q c_X_nearest_32 kc ks loc (v :: st) h) := gk_gf
theorem s_X_nearest_32 {x : Int32} {l0 l1 : Option Value} {l : eg_Lo} : wps rm K Q c_X_nearest_32 kc ks (l0 :: l1 :: some (.int x) :: l) (st) h = wps rm K Q c_X_nearest_33 kc ks (l0 :: l1 :: some (.int x) :: l) (.int x :: st) h := gk_iload rfl
theorem s_X_nearest_33 {x : Nat} {i : Int32} : wps rm K Q c_X_nearest_33 kc ks loc (.int i :: .ref (x + 1) :: st) h = eg_ia h x i (fun v => wps rm K Q c_X_nearest_34 kc ks loc (.int v :: st) h) := gk_iaload
theorem s_X_nearest_34 {x : Nat} {l : eg_Lo} : wps rm K Q c_X_nearest_34 kc ks (some (.ref x) :: l) (st) h = wps rm K Q c_X_nearest_35 kc ks (some (.ref x) :: l) (.ref x :: st) h := gk_aload rfl
theorem s_X_nearest_35 {x : Nat} : wps rm K Q c_X_nearest_35 kc ks loc (.ref (x + 1) :: st) h = eg_gf h x 11 0 (fun v => wps rm K Q c_X_nearest_38 kc ks loc (v :: st) h) := gk_gf
theorem s_X_nearest_38 {x : Int32} {l0 : Option Value} {l : eg_Lo} : wps rm K Q c_X_nearest_38 kc ks (l0 :: some (.int x) :: l) (st) h = wps rm K Q c_X_nearest_39 kc ks (l0 :: some (.int x) :: l) (.int x :: st) h := gk_iload rfl
theorem s_X_nearest_39 {x : Nat} {i : Int32} : wps rm K Q c_X_nearest_39 kc ks loc (.int i :: .ref (x + 1) :: st) h = eg_aa h x i (fun v => wps rm K Q c_X_nearest_40 kc ks loc (v :: st) h) := gk_aaload
theorem s_X_nearest_40 {x : Nat} : wps rm K Q c_X_nearest_40 kc ks loc (.ref (x + 1) :: st) h = eg_gf h x 8 1 (fun v => wps rm K Q c_X_nearest_43 kc ks loc (v :: st) h) := gk_gf
theorem s_X_nearest_43 {x : Int32} {l0 l1 : Option Value} {l : eg_Lo} : wps rm K Q c_X_nearest_43 kc ks (l0 :: l1 :: some (.int x) :: l) (st) h = wps rm K Q c_X_nearest_44 kc ks (l0 :: l1 :: some (.int x) :: l) (.int x :: st) h := gk_iload rfl
theorem s_X_nearest_44 {x : Nat} {i : Int32} : wps rm K Q c_X_nearest_44 kc ks loc (.int i :: .ref (x + 1) :: st) h = eg_ia h x i (fun v => wps rm K Q c_X_nearest_45 kc ks loc (.int v :: st) h) := gk_iaload
theorem s_X_nearest_45  {a1 : Value} {a2 : Value} {x : Nat} : wps rm K Q c_X_nearest_45 kc ks loc (a2 :: a1 :: .ref (x + 1) :: st) h = (eg_cls h x 7 ∧ st.length ≤ 4 ∧ eg_Cs n_Outl_findNearest (.ref (x + 1) :: [a1, a2]) h (fun v h9 => wps rm K Q c_X_nearest_48 kc ks loc (v.toList ++ st) h9)) := eg_c1_2
theorem s_X_nearest_48 {x : Int32} : wps rm K Q c_X_nearest_48 kc ks loc (.int x :: st) h = wps rm K Q c_X_nearest_49 kc ks loc (.long (x.toInt64) :: st) h := gk_i2l
theorem s_X_nearest_49 {x : Int64} : wps rm K Q c_X_nearest_49 kc ks loc ([.long x]) h = (kc = rm.cells ∧ Q (some (.long x)) h) := gk_lret
def T_X_nearest : List (Nat × List eg_I) := [(19, c_X_nearest_19)]
theorem j_X_nearest_19 {R : Nat → Nat → Nat → eg_Lo → List Value → List eg_E → Prop} {f pc0 : Nat} : eg_run rm R Q T_X_nearest (f + 1) 19 kc ks loc st h = wps rm (eg_run rm R Q T_X_nearest f) Q c_X_nearest_19 kc ks loc st h := rfl
end
theorem y_X_nearest_0 : eg_seq m_X_nearest 0 c_X_nearest_0 = true := by decide +kernel
theorem y_X_nearest_19 : eg_seq m_X_nearest 19 c_X_nearest_19 = true := by decide +kernel
theorem q_X_nearest : ∀ q ∈ T_X_nearest, eg_seq m_X_nearest q.1 q.2 = true := by
  intro q hq
  simp only [T_X_nearest, List.mem_cons, List.not_mem_nil, or_false] at hq
  rcases hq with rfl
  · exact y_X_nearest_19
theorem b_X_nearest {as : List Value} {h : List eg_E} {Q : Option Value → List eg_E → Prop} (hf : (eg_fl as).length ≤ 5) (hw : wps (eg_rm m_X_nearest) (eg_run (eg_rm m_X_nearest) (eg_R m_X_nearest Q (h.length + 0)) Q T_X_nearest 3) Q c_X_nearest_0 0 0 (eg_entry 5 as) [] h) : eg_Runs n_X_nearest as h Q := eg_begin2 (d := m_X_nearest) rfl (by decide) y_X_nearest_0 q_X_nearest hf hw
/-! ===== X_far ===== -/
def c_X_far_63 : List eg_I := .inl (63, 1, .lreturn, 0, 0) :: []
def c_X_far_60 : List eg_I := .inr (60, 1, 232, n_Frac_side, 1, 4, 0, 0) :: c_X_far_63
def c_X_far_59 : List eg_I := .inl (59, 1, .iload 3, 0, 0) :: c_X_far_60
def c_X_far_56 : List eg_I := .inl (56, 3, .getfield 292, 7, 0) :: c_X_far_59
def c_X_far_53 : List eg_I := .inl (53, 3, .getfield 58, 11, 7) :: c_X_far_56
def c_X_far_52 : List eg_I := .inl (52, 1, .aload 0, 0, 0) :: c_X_far_53
def c_X_far_51 : List eg_I := .inl (51, 1, .pop, 0, 0) :: c_X_far_52
def c_X_far_48 : List eg_I := .inr (48, 1, 289, n_Outl_findNearest, 2, 7, 0, 0) :: c_X_far_51
def c_X_far_47 : List eg_I := .inl (47, 1, .iaload, 0, 0) :: c_X_far_48
def c_X_far_46 : List eg_I := .inl (46, 1, .iload 2, 0, 0) :: c_X_far_47
def c_X_far_43 : List eg_I := .inl (43, 3, .getfield 119, 8, 1) :: c_X_far_46
def c_X_far_42 : List eg_I := .inl (42, 1, .aaload, 0, 0) :: c_X_far_43
def c_X_far_41 : List eg_I := .inl (41, 1, .iload 1, 0, 0) :: c_X_far_42
def c_X_far_38 : List eg_I := .inl (38, 3, .getfield 11, 11, 0) :: c_X_far_41
def c_X_far_37 : List eg_I := .inl (37, 1, .aload 0, 0, 0) :: c_X_far_38
def c_X_far_36 : List eg_I := .inl (36, 1, .iaload, 0, 0) :: c_X_far_37
def c_X_far_35 : List eg_I := .inl (35, 1, .iload 2, 0, 0) :: c_X_far_36
def c_X_far_32 : List eg_I := .inl (32, 3, .getfield 115, 8, 0) :: c_X_far_35
def c_X_far_31 : List eg_I := .inl (31, 1, .aaload, 0, 0) :: c_X_far_32
def c_X_far_30 : List eg_I := .inl (30, 1, .iload 1, 0, 0) :: c_X_far_31
def c_X_far_27 : List eg_I := .inl (27, 3, .getfield 11, 11, 0) :: c_X_far_30
def c_X_far_26 : List eg_I := .inl (26, 1, .aload 0, 0, 0) :: c_X_far_27
def c_X_far_23 : List eg_I := .inl (23, 3, .getfield 58, 11, 7) :: c_X_far_26
def c_X_far_22 : List eg_I := .inl (22, 1, .aload 0, 0, 0) :: c_X_far_23
def c_X_far_21 : List eg_I := .inl (21, 1, .lreturn, 0, 0) :: []
def c_X_far_18 : List eg_I := .inr (18, 1, 86, n_X_found, 1, 11, 0, 0) :: c_X_far_21
def c_X_far_16 : List eg_I := .inl (16, 2, .lload 4, 0, 0) :: c_X_far_18
def c_X_far_15 : List eg_I := .inl (15, 1, .aload 0, 0, 0) :: c_X_far_16
def c_X_far_12 : List eg_I := .inl (12, 3, .ifCond .eq (10), 22, 0) :: c_X_far_15
def c_X_far_11 : List eg_I := .inl (11, 1, .lcmp, 0, 0) :: c_X_far_12
def c_X_far_10 : List eg_I := .inl (10, 1, .sipush (0), 0, 0) :: c_X_far_11
def c_X_far_8 : List eg_I := .inl (8, 2, .lload 4, 0, 0) :: c_X_far_10
def c_X_far_6 : List eg_I := .inl (6, 2, .lstore 4, 0, 0) :: c_X_far_8
def c_X_far_3 : List eg_I := .inr (3, 1, 285, n_X_outlineFinding, 2, 11, 0, 0) :: c_X_far_6
def c_X_far_2 : List eg_I := .inl (2, 1, .iload 2, 0, 0) :: c_X_far_3
def c_X_far_1 : List eg_I := .inl (1, 1, .iload 1, 0, 0) :: c_X_far_2
def c_X_far_0 : List eg_I := .inl (0, 1, .aload 0, 0, 0) :: c_X_far_1
section
variable {rm : Room} {K : Nat → Nat → Nat → eg_Lo → List Value → List eg_E → Prop} {Q : Option Value → List eg_E → Prop} {kc ks : Nat} {loc : eg_Lo} {st : List Value} {h : List eg_E}
theorem s_X_far_0 {x : Nat} {l : eg_Lo} : wps rm K Q c_X_far_0 kc ks (some (.ref x) :: l) (st) h = wps rm K Q c_X_far_1 kc ks (some (.ref x) :: l) (.ref x :: st) h := gk_aload rfl
theorem s_X_far_1 {x : Int32} {l0 : Option Value} {l : eg_Lo} : wps rm K Q c_X_far_1 kc ks (l0 :: some (.int x) :: l) (st) h = wps rm K Q c_X_far_2 kc ks (l0 :: some (.int x) :: l) (.int x :: st) h := gk_iload rfl
theorem s_X_far_2 {x : Int32} {l0 l1 : Option Value} {l : eg_Lo} : wps rm K Q c_X_far_2 kc ks (l0 :: l1 :: some (.int x) :: l) (st) h = wps rm K Q c_X_far_3 kc ks (l0 :: l1 :: some (.int x) :: l) (.int x :: st) h := gk_iload rfl
theorem s_X_far_3  {a1 : Value} {a2 : Value} {x : Nat} : wps rm K Q c_X_far_3 kc ks loc (a2 :: a1 :: .ref (x + 1) :: st) h = (eg_cls h x 11 ∧ st.length ≤ 4 ∧ eg_Cs n_X_outlineFinding (.ref (x + 1) :: [a1, a2]) h (fun v h9 => wps rm K Q c_X_far_6 kc ks loc (v.toList ++ st) h9)) := eg_c1_2
theorem s_X_far_6 {x : Int64} : wps rm K Q c_X_far_6 kc ks loc (.long x :: st) h = wps rm K Q c_X_far_8 kc ks (eg_set2 loc 4 (.long x)) (st) h := gk_lstore
theorem s_X_far_8 {x : Int64} {l0 l1 l2 l3 : Option Value} {l : eg_Lo} : wps rm K Q c_X_far_8 kc ks (l0 :: l1 :: l2 :: l3 :: some (.long x) :: l) (st) h = wps rm K Q c_X_far_10 kc ks (l0 :: l1 :: l2 :: l3 :: some (.long x) :: l) (.long x :: st) h := gk_lload rfl
theorem s_X_far_10  : wps rm K Q c_X_far_10 kc ks loc (st) h = wps rm K Q c_X_far_11 kc ks loc (.long (0) :: st) h := gk_lc (by decide)
theorem s_X_far_11 {x y : Int64} : wps rm K Q c_X_far_11 kc ks loc (.long y :: .long x :: st) h = wps rm K Q c_X_far_12 kc ks loc (.int (lg_cmp x y) :: st) h := gk_lcmp
theorem s_X_far_12 {x : Int32} : wps rm K Q c_X_far_12 kc ks loc (.int x :: st) h = ((x = 0 → K 22 kc ks loc st h) ∧ (¬ x = 0 → wps rm K Q c_X_far_15 kc ks loc (st) h)) := gk_if1_eq
theorem s_X_far_15 {x : Nat} {l : eg_Lo} : wps rm K Q c_X_far_15 kc ks (some (.ref x) :: l) (st) h = wps rm K Q c_X_far_16 kc ks (some (.ref x) :: l) (.ref x :: st) h := gk_aload rfl
theorem s_X_far_16 {x : Int64} {l0 l1 l2 l3 : Option Value} {l : eg_Lo} : wps rm K Q c_X_far_16 kc ks (l0 :: l1 :: l2 :: l3 :: some (.long x) :: l) (st) h = wps rm K Q c_X_far_18 kc ks (l0 :: l1 :: l2 :: l3 :: some (.long x) :: l) (.long x :: st) h := gk_lload rfl
theorem s_X_far_18  {a1 : Value} {x : Nat} : wps rm K Q c_X_far_18 kc ks loc (a1 :: .ref (x + 1) :: st) h = (eg_cls h x 11 ∧ st.length ≤ 4 ∧ eg_Cs n_X_found (.ref (x + 1) :: [a1]) h (fun v h9 => wps rm K Q c_X_far_21 kc ks loc (v.toList ++ st) h9)) := eg_c1_1
theorem s_X_far_21 {x : Int64} : wps rm K Q c_X_far_21 kc ks loc ([.long x]) h = (kc = rm.cells ∧ Q (some (.long x)) h) := gk_lret
theorem s_X_far_22 {x : Nat} {l : eg_Lo} : wps rm K Q c_X_far_22 kc ks (some (.ref x) :: l) (st) h = wps rm K Q c_X_far_23 kc ks (some (.ref x) :: l) (.ref x :: st) h := gk_aload rfl
theorem s_X_far_23 {x : Nat} : wps rm K Q c_X_far_23 kc ks loc (.ref (x + 1) :: st) h = eg_gf h x 11 7 (fun v => wps rm K Q c_X_far_26 kc ks loc (v :: st) h) := gk_gf
theorem s_X_far_26 {x : Nat} {l : eg_Lo} : wps rm K Q c_X_far_26 kc ks (some (.ref x) :: l) (st) h = wps rm K Q c_X_far_27 kc ks (some (.ref x) :: l) (.ref x :: st) h := gk_aload rfl
theorem s_X_far_27 {x : Nat} : wps rm K Q c_X_far_27 kc ks loc (.ref (x + 1) :: st) h = eg_gf h x 11 0 (fun v => wps rm K Q c_X_far_30 kc ks loc (v :: st) h) := gk_gf
theorem s_X_far_30 {x : Int32} {l0 : Option Value} {l : eg_Lo} : wps rm K Q c_X_far_30 kc ks (l0 :: some (.int x) :: l) (st) h = wps rm K Q c_X_far_31 kc ks (l0 :: some (.int x) :: l) (.int x :: st) h := gk_iload rfl
theorem s_X_far_31 {x : Nat} {i : Int32} : wps rm K Q c_X_far_31 kc ks loc (.int i :: .ref (x + 1) :: st) h = eg_aa h x i (fun v => wps rm K Q c_X_far_32 kc ks loc (v :: st) h) := gk_aaload
theorem s_X_far_32 {x : Nat} : wps rm K Q c_X_far_32 kc ks loc (.ref (x + 1) :: st) h = eg_gf h x 8 0 (fun v => wps rm K Q c_X_far_35 kc ks loc (v :: st) h) := gk_gf
theorem s_X_far_35 {x : Int32} {l0 l1 : Option Value} {l : eg_Lo} : wps rm K Q c_X_far_35 kc ks (l0 :: l1 :: some (.int x) :: l) (st) h = wps rm K Q c_X_far_36 kc ks (l0 :: l1 :: some (.int x) :: l) (.int x :: st) h := gk_iload rfl
theorem s_X_far_36 {x : Nat} {i : Int32} : wps rm K Q c_X_far_36 kc ks loc (.int i :: .ref (x + 1) :: st) h = eg_ia h x i (fun v => wps rm K Q c_X_far_37 kc ks loc (.int v :: st) h) := gk_iaload
theorem s_X_far_37 {x : Nat} {l : eg_Lo} : wps rm K Q c_X_far_37 kc ks (some (.ref x) :: l) (st) h = wps rm K Q c_X_far_38 kc ks (some (.ref x) :: l) (.ref x :: st) h := gk_aload rfl
theorem s_X_far_38 {x : Nat} : wps rm K Q c_X_far_38 kc ks loc (.ref (x + 1) :: st) h = eg_gf h x 11 0 (fun v => wps rm K Q c_X_far_41 kc ks loc (v :: st) h) := gk_gf
theorem s_X_far_41 {x : Int32} {l0 : Option Value} {l : eg_Lo} : wps rm K Q c_X_far_41 kc ks (l0 :: some (.int x) :: l) (st) h = wps rm K Q c_X_far_42 kc ks (l0 :: some (.int x) :: l) (.int x :: st) h := gk_iload rfl
theorem s_X_far_42 {x : Nat} {i : Int32} : wps rm K Q c_X_far_42 kc ks loc (.int i :: .ref (x + 1) :: st) h = eg_aa h x i (fun v => wps rm K Q c_X_far_43 kc ks loc (v :: st) h) := gk_aaload
theorem s_X_far_43 {x : Nat} : wps rm K Q c_X_far_43 kc ks loc (.ref (x + 1) :: st) h = eg_gf h x 8 1 (fun v => wps rm K Q c_X_far_46 kc ks loc (v :: st) h) := gk_gf
theorem s_X_far_46 {x : Int32} {l0 l1 : Option Value} {l : eg_Lo} : wps rm K Q c_X_far_46 kc ks (l0 :: l1 :: some (.int x) :: l) (st) h = wps rm K Q c_X_far_47 kc ks (l0 :: l1 :: some (.int x) :: l) (.int x :: st) h := gk_iload rfl
theorem s_X_far_47 {x : Nat} {i : Int32} : wps rm K Q c_X_far_47 kc ks loc (.int i :: .ref (x + 1) :: st) h = eg_ia h x i (fun v => wps rm K Q c_X_far_48 kc ks loc (.int v :: st) h) := gk_iaload
theorem s_X_far_48  {a1 : Value} {a2 : Value} {x : Nat} : wps rm K Q c_X_far_48 kc ks loc (a2 :: a1 :: .ref (x + 1) :: st) h = (eg_cls h x 7 ∧ st.length ≤ 4 ∧ eg_Cs n_Outl_findNearest (.ref (x + 1) :: [a1, a2]) h (fun v h9 => wps rm K Q c_X_far_51 kc ks loc (v.toList ++ st) h9)) := eg_c1_2
theorem s_X_far_51 {x : Int32} : wps rm K Q c_X_far_51 kc ks loc (.int x :: st) h = wps rm K Q c_X_far_52 kc ks loc (st) h := gk_pop
theorem s_X_far_52 {x : Nat} {l : eg_Lo} : wps rm K Q c_X_far_52 kc ks (some (.ref x) :: l) (st) h = wps rm K Q c_X_far_53 kc ks (some (.ref x) :: l) (.ref x :: st) h := gk_aload rfl
theorem s_X_far_53 {x : Nat} : wps rm K Q c_X_far_53 kc ks loc (.ref (x + 1) :: st) h = eg_gf h x 11 7 (fun v => wps rm K Q c_X_far_56 kc ks loc (v :: st) h) := gk_gf
theorem s_X_far_56 {x : Nat} : wps rm K Q c_X_far_56 kc ks loc (.ref (x + 1) :: st) h = eg_gf h x 7 0 (fun v => wps rm K Q c_X_far_59 kc ks loc (v :: st) h) := gk_gf
theorem s_X_far_59 {x : Int32} {l0 l1 l2 : Option Value} {l : eg_Lo} : wps rm K Q c_X_far_59 kc ks (l0 :: l1 :: l2 :: some (.int x) :: l) (st) h = wps rm K Q c_X_far_60 kc ks (l0 :: l1 :: l2 :: some (.int x) :: l) (.int x :: st) h := gk_iload rfl
theorem s_X_far_60  {a1 : Value} {x : Nat} : wps rm K Q c_X_far_60 kc ks loc (a1 :: .ref (x + 1) :: st) h = (eg_cls h x 4 ∧ st.length ≤ 4 ∧ eg_Cs n_Frac_side (.ref (x + 1) :: [a1]) h (fun v h9 => wps rm K Q c_X_far_63 kc ks loc (v.toList ++ st) h9)) := eg_c1_1
theorem s_X_far_63 {x : Int64} : wps rm K Q c_X_far_63 kc ks loc ([.long x]) h = (kc = rm.cells ∧ Q (some (.long x)) h) := gk_lret
def T_X_far : List (Nat × List eg_I) := [(22, c_X_far_22)]
theorem j_X_far_22 {R : Nat → Nat → Nat → eg_Lo → List Value → List eg_E → Prop} {f pc0 : Nat} : eg_run rm R Q T_X_far (f + 1) 22 kc ks loc st h = wps rm (eg_run rm R Q T_X_far f) Q c_X_far_22 kc ks loc st h := rfl
end
theorem y_X_far_0 : eg_seq m_X_far 0 c_X_far_0 = true := by decide +kernel
theorem y_X_far_22 : eg_seq m_X_far 22 c_X_far_22 = true := by decide +kernel
theorem q_X_far : ∀ q ∈ T_X_far, eg_seq m_X_far q.1 q.2 = true := by
  intro q hq
  simp only [T_X_far, List.mem_cons, List.not_mem_nil, or_false] at hq
  rcases hq with rfl
  · exact y_X_far_22
theorem b_X_far {as : List Value} {h : List eg_E} {Q : Option Value → List eg_E → Prop} (hf : (eg_fl as).length ≤ 6) (hw : wps (eg_rm m_X_far) (eg_run (eg_rm m_X_far) (eg_R m_X_far Q (h.length + 0)) Q T_X_far 3) Q c_X_far_0 0 0 (eg_entry 6 as) [] h) : eg_Runs n_X_far as h Q := eg_begin2 (d := m_X_far) rfl (by decide) y_X_far_0 q_X_far hf hw
/-! ===== X_box ===== -/
def c_X_box_111 : List eg_I := .inl (111, 1, .lreturn, 0, 0) :: []
def c_X_box_110 : List eg_I := .inl (110, 1, .i2l, 0, 0) :: c_X_box_111
def c_X_box_109 : List eg_I := .inl (109, 1, .isub, 0, 0) :: c_X_box_110
def c_X_box_108 : List eg_I := .inl (108, 1, .iconst (1), 0, 0) :: c_X_box_109
def c_X_box_105 : List eg_I := .inl (105, 3, .getfield 298, 0, 0) :: c_X_box_108
def c_X_box_102 : List eg_I := .inl (102, 3, .getfield 65, 11, 8) :: c_X_box_105
def c_X_box_101 : List eg_I := .inl (101, 1, .aload 0, 0, 0) :: c_X_box_102
def c_X_box_98 : List eg_I := .inl (98, 3, .putfield 298, 0, 0) :: c_X_box_101
def c_X_box_97 : List eg_I := .inl (97, 1, .iadd, 0, 0) :: c_X_box_98
def c_X_box_96 : List eg_I := .inl (96, 1, .iconst (1), 0, 0) :: c_X_box_97
def c_X_box_93 : List eg_I := .inl (93, 3, .getfield 298, 0, 0) :: c_X_box_96
def c_X_box_92 : List eg_I := .inl (92, 1, .dup, 0, 0) :: c_X_box_93
def c_X_box_89 : List eg_I := .inl (89, 3, .getfield 65, 11, 8) :: c_X_box_92
def c_X_box_88 : List eg_I := .inl (88, 1, .aload 0, 0, 0) :: c_X_box_89
def c_X_box_85 : List eg_I := .inr (85, 1, 299, n_Boxes_setSide, 3, 0, 0, 0) :: c_X_box_88
def c_X_box_83 : List eg_I := .inl (83, 2, .iload 6, 0, 0) :: c_X_box_85
def c_X_box_82 : List eg_I := .inl (82, 1, .iload 3, 0, 0) :: c_X_box_83
def c_X_box_81 : List eg_I := .inl (81, 1, .iconst (2), 0, 0) :: c_X_box_82
def c_X_box_78 : List eg_I := .inl (78, 3, .getfield 65, 11, 8) :: c_X_box_81
def c_X_box_77 : List eg_I := .inl (77, 1, .aload 0, 0, 0) :: c_X_box_78
def c_X_box_74 : List eg_I := .inr (74, 1, 299, n_Boxes_setSide, 3, 0, 0, 0) :: c_X_box_77
def c_X_box_72 : List eg_I := .inl (72, 2, .iload 5, 0, 0) :: c_X_box_74
def c_X_box_71 : List eg_I := .inl (71, 1, .iload 2, 0, 0) :: c_X_box_72
def c_X_box_70 : List eg_I := .inl (70, 1, .iconst (1), 0, 0) :: c_X_box_71
def c_X_box_67 : List eg_I := .inl (67, 3, .getfield 65, 11, 8) :: c_X_box_70
def c_X_box_66 : List eg_I := .inl (66, 1, .aload 0, 0, 0) :: c_X_box_67
def c_X_box_63 : List eg_I := .inr (63, 1, 299, n_Boxes_setSide, 3, 0, 0, 0) :: c_X_box_66
def c_X_box_61 : List eg_I := .inl (61, 2, .iload 4, 0, 0) :: c_X_box_63
def c_X_box_60 : List eg_I := .inl (60, 1, .iload 1, 0, 0) :: c_X_box_61
def c_X_box_59 : List eg_I := .inl (59, 1, .iconst (0), 0, 0) :: c_X_box_60
def c_X_box_56 : List eg_I := .inl (56, 3, .getfield 65, 11, 8) :: c_X_box_59
def c_X_box_55 : List eg_I := .inl (55, 1, .aload 0, 0, 0) :: c_X_box_56
def c_X_box_54 : List eg_I := .inl (54, 1, .lreturn, 0, 0) :: []
def c_X_box_51 : List eg_I := .inr (51, 1, 86, n_X_found, 1, 11, 0, 0) :: c_X_box_54
def c_X_box_48 : List eg_I := .inl (48, 3, .sipush (-1000000000000000005), 94, 0) :: c_X_box_51
def c_X_box_47 : List eg_I := .inl (47, 1, .aload 0, 0, 0) :: c_X_box_48
def c_X_box_44 : List eg_I := .inl (44, 3, .if_icmp .lt (11), 55, 0) :: c_X_box_47
def c_X_box_42 : List eg_I := .inl (42, 2, .iconst (6), 0, 0) :: c_X_box_44
def c_X_box_39 : List eg_I := .inl (39, 3, .getfield 298, 0, 0) :: c_X_box_42
def c_X_box_36 : List eg_I := .inl (36, 3, .getfield 65, 11, 8) :: c_X_box_39
def c_X_box_35 : List eg_I := .inl (35, 1, .aload 0, 0, 0) :: c_X_box_36
def c_X_box_34 : List eg_I := .inl (34, 1, .lreturn, 0, 0) :: []
def c_X_box_31 : List eg_I := .inr (31, 1, 86, n_X_found, 1, 11, 0, 0) :: c_X_box_34
def c_X_box_28 : List eg_I := .inl (28, 3, .sipush (-1000000000000000001), 84, 0) :: c_X_box_31
def c_X_box_27 : List eg_I := .inl (27, 1, .aload 0, 0, 0) :: c_X_box_28
def c_X_box_24 : List eg_I := .inl (24, 3, .ifCond .ne (11), 35, 0) :: c_X_box_27
def c_X_box_21 : List eg_I := .inr (21, 0, 295, n_X_isBoxSide, 2, 11, 0, 0) :: c_X_box_24
def c_X_box_19 : List eg_I := .inl (19, 2, .iload 6, 0, 0) :: c_X_box_21
def c_X_box_18 : List eg_I := .inl (18, 1, .iload 3, 0, 0) :: c_X_box_19
def c_X_box_15 : List eg_I := .inl (15, 3, .ifCond .eq (12), 27, 0) :: c_X_box_18
def c_X_box_12 : List eg_I := .inr (12, 0, 295, n_X_isBoxSide, 2, 11, 0, 0) :: c_X_box_15
def c_X_box_10 : List eg_I := .inl (10, 2, .iload 5, 0, 0) :: c_X_box_12
def c_X_box_9 : List eg_I := .inl (9, 1, .iload 2, 0, 0) :: c_X_box_10
def c_X_box_6 : List eg_I := .inl (6, 3, .ifCond .eq (21), 27, 0) :: c_X_box_9
def c_X_box_3 : List eg_I := .inr (3, 0, 295, n_X_isBoxSide, 2, 11, 0, 0) :: c_X_box_6
def c_X_box_1 : List eg_I := .inl (1, 2, .iload 4, 0, 0) :: c_X_box_3
def c_X_box_0 : List eg_I := .inl (0, 1, .iload 1, 0, 0) :: c_X_box_1
section
variable {rm : Room} {K : Nat → Nat → Nat → eg_Lo → List Value → List eg_E → Prop} {Q : Option Value → List eg_E → Prop} {kc ks : Nat} {loc : eg_Lo} {st : List Value} {h : List eg_E}
theorem s_X_box_0 {x : Int32} {l0 : Option Value} {l : eg_Lo} : wps rm K Q c_X_box_0 kc ks (l0 :: some (.int x) :: l) (st) h = wps rm K Q c_X_box_1 kc ks (l0 :: some (.int x) :: l) (.int x :: st) h := gk_iload rfl
theorem s_X_box_1 {x : Int32} {l0 l1 l2 l3 : Option Value} {l : eg_Lo} : wps rm K Q c_X_box_1 kc ks (l0 :: l1 :: l2 :: l3 :: some (.int x) :: l) (st) h = wps rm K Q c_X_box_3 kc ks (l0 :: l1 :: l2 :: l3 :: some (.int x) :: l) (.int x :: st) h := gk_iload rfl
theorem s_X_box_3  {a1 : Value} {a2 : Value} : wps rm K Q c_X_box_3 kc ks loc (a2 :: a1 :: st) h = (st.length ≤ 4 ∧ eg_Cs n_X_isBoxSide [a1, a2] h (fun v h9 => wps rm K Q c_X_box_6 kc ks loc (v.toList ++ st) h9)) := eg_c0_2
theorem s_X_box_6 {x : Int32} : wps rm K Q c_X_box_6 kc ks loc (.int x :: st) h = ((x = 0 → K 27 kc ks loc st h) ∧ (¬ x = 0 → wps rm K Q c_X_box_9 kc ks loc (st) h)) := gk_if1_eq
theorem s_X_box_9 {x : Int32} {l0 l1 : Option Value} {l : eg_Lo} : wps rm K Q c_X_box_9 kc ks (l0 :: l1 :: some (.int x) :: l) (st) h = wps rm K Q c_X_box_10 kc ks (l0 :: l1 :: some (.int x) :: l) (.int x :: st) h := gk_iload rfl
theorem s_X_box_10 {x : Int32} {l0 l1 l2 l3 l4 : Option Value} {l : eg_Lo} : wps rm K Q c_X_box_10 kc ks (l0 :: l1 :: l2 :: l3 :: l4 :: some (.int x) :: l) (st) h = wps rm K Q c_X_box_12 kc ks (l0 :: l1 :: l2 :: l3 :: l4 :: some (.int x) :: l) (.int x :: st) h := gk_iload rfl
theorem s_X_box_12  {a1 : Value} {a2 : Value} : wps rm K Q c_X_box_12 kc ks loc (a2 :: a1 :: st) h = (st.length ≤ 4 ∧ eg_Cs n_X_isBoxSide [a1, a2] h (fun v h9 => wps rm K Q c_X_box_15 kc ks loc (v.toList ++ st) h9)) := eg_c0_2
theorem s_X_box_15 {x : Int32} : wps rm K Q c_X_box_15 kc ks loc (.int x :: st) h = ((x = 0 → K 27 kc ks loc st h) ∧ (¬ x = 0 → wps rm K Q c_X_box_18 kc ks loc (st) h)) := gk_if1_eq
theorem s_X_box_18 {x : Int32} {l0 l1 l2 : Option Value} {l : eg_Lo} : wps rm K Q c_X_box_18 kc ks (l0 :: l1 :: l2 :: some (.int x) :: l) (st) h = wps rm K Q c_X_box_19 kc ks (l0 :: l1 :: l2 :: some (.int x) :: l) (.int x :: st) h := gk_iload rfl
theorem s_X_box_19 {x : Int32} {l0 l1 l2 l3 l4 l5 : Option Value} {l : eg_Lo} : wps rm K Q c_X_box_19 kc ks (l0 :: l1 :: l2 :: l3 :: l4 :: l5 :: some (.int x) :: l) (st) h = wps rm K Q c_X_box_21 kc ks (l0 :: l1 :: l2 :: l3 :: l4 :: l5 :: some (.int x) :: l) (.int x :: st) h := gk_iload rfl
theorem s_X_box_21  {a1 : Value} {a2 : Value} : wps rm K Q c_X_box_21 kc ks loc (a2 :: a1 :: st) h = (st.length ≤ 4 ∧ eg_Cs n_X_isBoxSide [a1, a2] h (fun v h9 => wps rm K Q c_X_box_24 kc ks loc (v.toList ++ st) h9)) := eg_c0_2
theorem s_X_box_24 {x : Int32} : wps rm K Q c_X_box_24 kc ks loc (.int x :: st) h = ((¬ x = 0 → K 35 kc ks loc st h) ∧ (x = 0 → wps rm K Q c_X_box_27 kc ks loc (st) h)) := gk_if1_ne
theorem s_X_box_27 {x : Nat} {l : eg_Lo} : wps rm K Q c_X_box_27 kc ks (some (.ref x) :: l) (st) h = wps rm K Q c_X_box_28 kc ks (some (.ref x) :: l) (.ref x :: st) h := gk_aload rfl
theorem s_X_box_28  : wps rm K Q c_X_box_28 kc ks loc (st) h = wps rm K Q c_X_box_31 kc ks loc (.long (-1000000000000000001) :: st) h := gk_lc (by decide)
theorem s_X_box_31  {a1 : Value} {x : Nat} : wps rm K Q c_X_box_31 kc ks loc (a1 :: .ref (x + 1) :: st) h = (eg_cls h x 11 ∧ st.length ≤ 4 ∧ eg_Cs n_X_found (.ref (x + 1) :: [a1]) h (fun v h9 => wps rm K Q c_X_box_34 kc ks loc (v.toList ++ st) h9)) := eg_c1_1
theorem s_X_box_34 {x : Int64} : wps rm K Q c_X_box_34 kc ks loc ([.long x]) h = (kc = rm.cells ∧ Q (some (.long x)) h) := gk_lret
theorem s_X_box_35 {x : Nat} {l : eg_Lo} : wps rm K Q c_X_box_35 kc ks (some (.ref x) :: l) (st) h = wps rm K Q c_X_box_36 kc ks (some (.ref x) :: l) (.ref x :: st) h := gk_aload rfl
theorem s_X_box_36 {x : Nat} : wps rm K Q c_X_box_36 kc ks loc (.ref (x + 1) :: st) h = eg_gf h x 11 8 (fun v => wps rm K Q c_X_box_39 kc ks loc (v :: st) h) := gk_gf
theorem s_X_box_39 {x : Nat} : wps rm K Q c_X_box_39 kc ks loc (.ref (x + 1) :: st) h = eg_gf h x 0 0 (fun v => wps rm K Q c_X_box_42 kc ks loc (v :: st) h) := gk_gf
theorem s_X_box_42  : wps rm K Q c_X_box_42 kc ks loc (st) h = wps rm K Q c_X_box_44 kc ks loc (.int (6) :: st) h := gk_ic (by decide)
theorem s_X_box_44 {x y : Int32} : wps rm K Q c_X_box_44 kc ks loc (.int y :: .int x :: st) h = ((x < y → K 55 kc ks loc st h) ∧ (¬ x < y → wps rm K Q c_X_box_47 kc ks loc (st) h)) := gk_if2_lt
theorem s_X_box_47 {x : Nat} {l : eg_Lo} : wps rm K Q c_X_box_47 kc ks (some (.ref x) :: l) (st) h = wps rm K Q c_X_box_48 kc ks (some (.ref x) :: l) (.ref x :: st) h := gk_aload rfl
theorem s_X_box_48  : wps rm K Q c_X_box_48 kc ks loc (st) h = wps rm K Q c_X_box_51 kc ks loc (.long (-1000000000000000005) :: st) h := gk_lc (by decide)
theorem s_X_box_51  {a1 : Value} {x : Nat} : wps rm K Q c_X_box_51 kc ks loc (a1 :: .ref (x + 1) :: st) h = (eg_cls h x 11 ∧ st.length ≤ 4 ∧ eg_Cs n_X_found (.ref (x + 1) :: [a1]) h (fun v h9 => wps rm K Q c_X_box_54 kc ks loc (v.toList ++ st) h9)) := eg_c1_1
theorem s_X_box_54 {x : Int64} : wps rm K Q c_X_box_54 kc ks loc ([.long x]) h = (kc = rm.cells ∧ Q (some (.long x)) h) := gk_lret
theorem s_X_box_55 {x : Nat} {l : eg_Lo} : wps rm K Q c_X_box_55 kc ks (some (.ref x) :: l) (st) h = wps rm K Q c_X_box_56 kc ks (some (.ref x) :: l) (.ref x :: st) h := gk_aload rfl
theorem s_X_box_56 {x : Nat} : wps rm K Q c_X_box_56 kc ks loc (.ref (x + 1) :: st) h = eg_gf h x 11 8 (fun v => wps rm K Q c_X_box_59 kc ks loc (v :: st) h) := gk_gf
theorem s_X_box_59  : wps rm K Q c_X_box_59 kc ks loc (st) h = wps rm K Q c_X_box_60 kc ks loc (.int (0) :: st) h := gk_ic (by decide)
theorem s_X_box_60 {x : Int32} {l0 : Option Value} {l : eg_Lo} : wps rm K Q c_X_box_60 kc ks (l0 :: some (.int x) :: l) (st) h = wps rm K Q c_X_box_61 kc ks (l0 :: some (.int x) :: l) (.int x :: st) h := gk_iload rfl
theorem s_X_box_61 {x : Int32} {l0 l1 l2 l3 : Option Value} {l : eg_Lo} : wps rm K Q c_X_box_61 kc ks (l0 :: l1 :: l2 :: l3 :: some (.int x) :: l) (st) h = wps rm K Q c_X_box_63 kc ks (l0 :: l1 :: l2 :: l3 :: some (.int x) :: l) (.int x :: st) h := gk_iload rfl
theorem s_X_box_63  {a1 : Value} {a2 : Value} {a3 : Value} {x : Nat} : wps rm K Q c_X_box_63 kc ks loc (a3 :: a2 :: a1 :: .ref (x + 1) :: st) h = (eg_cls h x 0 ∧ st.length ≤ 4 ∧ eg_Cs n_Boxes_setSide (.ref (x + 1) :: [a1, a2, a3]) h (fun v h9 => wps rm K Q c_X_box_66 kc ks loc (v.toList ++ st) h9)) := eg_c1_3
theorem s_X_box_66 {x : Nat} {l : eg_Lo} : wps rm K Q c_X_box_66 kc ks (some (.ref x) :: l) (st) h = wps rm K Q c_X_box_67 kc ks (some (.ref x) :: l) (.ref x :: st) h := gk_aload rfl
theorem s_X_box_67 {x : Nat} : wps rm K Q c_X_box_67 kc ks loc (.ref (x + 1) :: st) h = eg_gf h x 11 8 (fun v => wps rm K Q c_X_box_70 kc ks loc (v :: st) h) := gk_gf
theorem s_X_box_70  : wps rm K Q c_X_box_70 kc ks loc (st) h = wps rm K Q c_X_box_71 kc ks loc (.int (1) :: st) h := gk_ic (by decide)
theorem s_X_box_71 {x : Int32} {l0 l1 : Option Value} {l : eg_Lo} : wps rm K Q c_X_box_71 kc ks (l0 :: l1 :: some (.int x) :: l) (st) h = wps rm K Q c_X_box_72 kc ks (l0 :: l1 :: some (.int x) :: l) (.int x :: st) h := gk_iload rfl
theorem s_X_box_72 {x : Int32} {l0 l1 l2 l3 l4 : Option Value} {l : eg_Lo} : wps rm K Q c_X_box_72 kc ks (l0 :: l1 :: l2 :: l3 :: l4 :: some (.int x) :: l) (st) h = wps rm K Q c_X_box_74 kc ks (l0 :: l1 :: l2 :: l3 :: l4 :: some (.int x) :: l) (.int x :: st) h := gk_iload rfl
theorem s_X_box_74  {a1 : Value} {a2 : Value} {a3 : Value} {x : Nat} : wps rm K Q c_X_box_74 kc ks loc (a3 :: a2 :: a1 :: .ref (x + 1) :: st) h = (eg_cls h x 0 ∧ st.length ≤ 4 ∧ eg_Cs n_Boxes_setSide (.ref (x + 1) :: [a1, a2, a3]) h (fun v h9 => wps rm K Q c_X_box_77 kc ks loc (v.toList ++ st) h9)) := eg_c1_3
theorem s_X_box_77 {x : Nat} {l : eg_Lo} : wps rm K Q c_X_box_77 kc ks (some (.ref x) :: l) (st) h = wps rm K Q c_X_box_78 kc ks (some (.ref x) :: l) (.ref x :: st) h := gk_aload rfl
theorem s_X_box_78 {x : Nat} : wps rm K Q c_X_box_78 kc ks loc (.ref (x + 1) :: st) h = eg_gf h x 11 8 (fun v => wps rm K Q c_X_box_81 kc ks loc (v :: st) h) := gk_gf
theorem s_X_box_81  : wps rm K Q c_X_box_81 kc ks loc (st) h = wps rm K Q c_X_box_82 kc ks loc (.int (2) :: st) h := gk_ic (by decide)
theorem s_X_box_82 {x : Int32} {l0 l1 l2 : Option Value} {l : eg_Lo} : wps rm K Q c_X_box_82 kc ks (l0 :: l1 :: l2 :: some (.int x) :: l) (st) h = wps rm K Q c_X_box_83 kc ks (l0 :: l1 :: l2 :: some (.int x) :: l) (.int x :: st) h := gk_iload rfl
theorem s_X_box_83 {x : Int32} {l0 l1 l2 l3 l4 l5 : Option Value} {l : eg_Lo} : wps rm K Q c_X_box_83 kc ks (l0 :: l1 :: l2 :: l3 :: l4 :: l5 :: some (.int x) :: l) (st) h = wps rm K Q c_X_box_85 kc ks (l0 :: l1 :: l2 :: l3 :: l4 :: l5 :: some (.int x) :: l) (.int x :: st) h := gk_iload rfl
theorem s_X_box_85  {a1 : Value} {a2 : Value} {a3 : Value} {x : Nat} : wps rm K Q c_X_box_85 kc ks loc (a3 :: a2 :: a1 :: .ref (x + 1) :: st) h = (eg_cls h x 0 ∧ st.length ≤ 4 ∧ eg_Cs n_Boxes_setSide (.ref (x + 1) :: [a1, a2, a3]) h (fun v h9 => wps rm K Q c_X_box_88 kc ks loc (v.toList ++ st) h9)) := eg_c1_3
theorem s_X_box_88 {x : Nat} {l : eg_Lo} : wps rm K Q c_X_box_88 kc ks (some (.ref x) :: l) (st) h = wps rm K Q c_X_box_89 kc ks (some (.ref x) :: l) (.ref x :: st) h := gk_aload rfl
theorem s_X_box_89 {x : Nat} : wps rm K Q c_X_box_89 kc ks loc (.ref (x + 1) :: st) h = eg_gf h x 11 8 (fun v => wps rm K Q c_X_box_92 kc ks loc (v :: st) h) := gk_gf
theorem s_X_box_92 {x : Nat} : wps rm K Q c_X_box_92 kc ks loc (.ref x :: st) h = wps rm K Q c_X_box_93 kc ks loc (.ref x :: .ref x :: st) h := gk_dup
theorem s_X_box_93 {x : Nat} : wps rm K Q c_X_box_93 kc ks loc (.ref (x + 1) :: st) h = eg_gf h x 0 0 (fun v => wps rm K Q c_X_box_96 kc ks loc (v :: st) h) := gk_gf
theorem s_X_box_96  : wps rm K Q c_X_box_96 kc ks loc (st) h = wps rm K Q c_X_box_97 kc ks loc (.int (1) :: st) h := gk_ic (by decide)
theorem s_X_box_97 {x y : Int32} : wps rm K Q c_X_box_97 kc ks loc (.int y :: .int x :: st) h = wps rm K Q c_X_box_98 kc ks loc (.int (x + y) :: st) h := gk_iadd
theorem s_X_box_98 {x : Nat} {v : Value} : wps rm K Q c_X_box_98 kc ks loc (v :: .ref (x + 1) :: st) h = eg_pf h x 0 0 v (fun h9 => wps rm K Q c_X_box_101 kc ks loc (st) h9) := gk_pf
theorem s_X_box_101 {x : Nat} {l : eg_Lo} : wps rm K Q c_X_box_101 kc ks (some (.ref x) :: l) (st) h = wps rm K Q c_X_box_102 kc ks (some (.ref x) :: l) (.ref x :: st) h := gk_aload rfl
theorem s_X_box_102 {x : Nat} : wps rm K Q c_X_box_102 kc ks loc (.ref (x + 1) :: st) h = eg_gf h x 11 8 (fun v => wps rm K Q c_X_box_105 kc ks loc (v :: st) h) := gk_gf
theorem s_X_box_105 {x : Nat} : wps rm K Q c_X_box_105 kc ks loc (.ref (x + 1) :: st) h = eg_gf h x 0 0 (fun v => wps rm K Q c_X_box_108 kc ks loc (v :: st) h) := gk_gf
theorem s_X_box_108  : wps rm K Q c_X_box_108 kc ks loc (st) h = wps rm K Q c_X_box_109 kc ks loc (.int (1) :: st) h := gk_ic (by decide)
theorem s_X_box_109 {x y : Int32} : wps rm K Q c_X_box_109 kc ks loc (.int y :: .int x :: st) h = wps rm K Q c_X_box_110 kc ks loc (.int (x - y) :: st) h := gk_isub
theorem s_X_box_110 {x : Int32} : wps rm K Q c_X_box_110 kc ks loc (.int x :: st) h = wps rm K Q c_X_box_111 kc ks loc (.long (x.toInt64) :: st) h := gk_i2l
theorem s_X_box_111 {x : Int64} : wps rm K Q c_X_box_111 kc ks loc ([.long x]) h = (kc = rm.cells ∧ Q (some (.long x)) h) := gk_lret
def T_X_box : List (Nat × List eg_I) := [(27, c_X_box_27), (35, c_X_box_35), (55, c_X_box_55)]
theorem j_X_box_27 {R : Nat → Nat → Nat → eg_Lo → List Value → List eg_E → Prop} {f pc0 : Nat} : eg_run rm R Q T_X_box (f + 1) 27 kc ks loc st h = wps rm (eg_run rm R Q T_X_box f) Q c_X_box_27 kc ks loc st h := rfl
theorem j_X_box_35 {R : Nat → Nat → Nat → eg_Lo → List Value → List eg_E → Prop} {f pc0 : Nat} : eg_run rm R Q T_X_box (f + 1) 35 kc ks loc st h = wps rm (eg_run rm R Q T_X_box f) Q c_X_box_35 kc ks loc st h := rfl
theorem j_X_box_55 {R : Nat → Nat → Nat → eg_Lo → List Value → List eg_E → Prop} {f pc0 : Nat} : eg_run rm R Q T_X_box (f + 1) 55 kc ks loc st h = wps rm (eg_run rm R Q T_X_box f) Q c_X_box_55 kc ks loc st h := rfl
end
theorem y_X_box_0 : eg_seq m_X_box 0 c_X_box_0 = true := by decide +kernel
theorem y_X_box_35 : eg_seq m_X_box 35 c_X_box_35 = true := by decide +kernel
theorem y_X_box_55 : eg_seq m_X_box 55 c_X_box_55 = true := by decide +kernel
theorem q_X_box : ∀ q ∈ T_X_box, eg_seq m_X_box q.1 q.2 = true := by
  intro q hq
  simp only [T_X_box, List.mem_cons, List.not_mem_nil, or_false] at hq
  rcases hq with rfl | rfl | rfl
  · exact (eg_seq_drop y_X_box_0 12 : eg_seq m_X_box 27 c_X_box_27 = true)
  · exact y_X_box_35
  · exact y_X_box_55
theorem b_X_box {as : List Value} {h : List eg_E} {Q : Option Value → List eg_E → Prop} (hf : (eg_fl as).length ≤ 7) (hw : wps (eg_rm m_X_box) (eg_run (eg_rm m_X_box) (eg_R m_X_box Q (h.length + 0)) Q T_X_box 5) Q c_X_box_0 0 0 (eg_entry 7 as) [] h) : eg_Runs n_X_box as h Q := eg_begin2 (d := m_X_box) rfl (by decide) y_X_box_0 q_X_box hf hw
/-! ===== X_unbox ===== -/
def c_X_unbox_18 : List eg_I := .inl (18, 1, .lreturn, 0, 0) :: []
def c_X_unbox_17 : List eg_I := .inl (17, 1, .i2l, 0, 0) :: c_X_unbox_18
def c_X_unbox_16 : List eg_I := .inl (16, 1, .iload 1, 0, 0) :: c_X_unbox_17
def c_X_unbox_13 : List eg_I := .inl (13, 3, .putfield 298, 0, 0) :: c_X_unbox_16
def c_X_unbox_12 : List eg_I := .inl (12, 1, .iconst (0), 0, 0) :: c_X_unbox_13
def c_X_unbox_9 : List eg_I := .inl (9, 3, .getfield 65, 11, 8) :: c_X_unbox_12
def c_X_unbox_8 : List eg_I := .inl (8, 1, .aload 0, 0, 0) :: c_X_unbox_9
def c_X_unbox_7 : List eg_I := .inl (7, 1, .istore 1, 0, 0) :: c_X_unbox_8
def c_X_unbox_4 : List eg_I := .inl (4, 3, .getfield 298, 0, 0) :: c_X_unbox_7
def c_X_unbox_1 : List eg_I := .inl (1, 3, .getfield 65, 11, 8) :: c_X_unbox_4
def c_X_unbox_0 : List eg_I := .inl (0, 1, .aload 0, 0, 0) :: c_X_unbox_1
section
variable {rm : Room} {K : Nat → Nat → Nat → eg_Lo → List Value → List eg_E → Prop} {Q : Option Value → List eg_E → Prop} {kc ks : Nat} {loc : eg_Lo} {st : List Value} {h : List eg_E}
theorem s_X_unbox_0 {x : Nat} {l : eg_Lo} : wps rm K Q c_X_unbox_0 kc ks (some (.ref x) :: l) (st) h = wps rm K Q c_X_unbox_1 kc ks (some (.ref x) :: l) (.ref x :: st) h := gk_aload rfl
theorem s_X_unbox_1 {x : Nat} : wps rm K Q c_X_unbox_1 kc ks loc (.ref (x + 1) :: st) h = eg_gf h x 11 8 (fun v => wps rm K Q c_X_unbox_4 kc ks loc (v :: st) h) := gk_gf
theorem s_X_unbox_4 {x : Nat} : wps rm K Q c_X_unbox_4 kc ks loc (.ref (x + 1) :: st) h = eg_gf h x 0 0 (fun v => wps rm K Q c_X_unbox_7 kc ks loc (v :: st) h) := gk_gf
theorem s_X_unbox_7 {x : Int32} : wps rm K Q c_X_unbox_7 kc ks loc (.int x :: st) h = wps rm K Q c_X_unbox_8 kc ks (eg_set1 loc 1 (.int x)) (st) h := gk_istore
theorem s_X_unbox_8 {x : Nat} {l : eg_Lo} : wps rm K Q c_X_unbox_8 kc ks (some (.ref x) :: l) (st) h = wps rm K Q c_X_unbox_9 kc ks (some (.ref x) :: l) (.ref x :: st) h := gk_aload rfl
theorem s_X_unbox_9 {x : Nat} : wps rm K Q c_X_unbox_9 kc ks loc (.ref (x + 1) :: st) h = eg_gf h x 11 8 (fun v => wps rm K Q c_X_unbox_12 kc ks loc (v :: st) h) := gk_gf
theorem s_X_unbox_12  : wps rm K Q c_X_unbox_12 kc ks loc (st) h = wps rm K Q c_X_unbox_13 kc ks loc (.int (0) :: st) h := gk_ic (by decide)
theorem s_X_unbox_13 {x : Nat} {v : Value} : wps rm K Q c_X_unbox_13 kc ks loc (v :: .ref (x + 1) :: st) h = eg_pf h x 0 0 v (fun h9 => wps rm K Q c_X_unbox_16 kc ks loc (st) h9) := gk_pf
theorem s_X_unbox_16 {x : Int32} {l0 : Option Value} {l : eg_Lo} : wps rm K Q c_X_unbox_16 kc ks (l0 :: some (.int x) :: l) (st) h = wps rm K Q c_X_unbox_17 kc ks (l0 :: some (.int x) :: l) (.int x :: st) h := gk_iload rfl
theorem s_X_unbox_17 {x : Int32} : wps rm K Q c_X_unbox_17 kc ks loc (.int x :: st) h = wps rm K Q c_X_unbox_18 kc ks loc (.long (x.toInt64) :: st) h := gk_i2l
theorem s_X_unbox_18 {x : Int64} : wps rm K Q c_X_unbox_18 kc ks loc ([.long x]) h = (kc = rm.cells ∧ Q (some (.long x)) h) := gk_lret
def T_X_unbox : List (Nat × List eg_I) := []
end
theorem y_X_unbox_0 : eg_seq m_X_unbox 0 c_X_unbox_0 = true := by decide +kernel
theorem q_X_unbox : ∀ q ∈ T_X_unbox, eg_seq m_X_unbox q.1 q.2 = true := by
  intro q hq
  cases hq
theorem b_X_unbox {as : List Value} {h : List eg_E} {Q : Option Value → List eg_E → Prop} (hf : (eg_fl as).length ≤ 2) (hw : wps (eg_rm m_X_unbox) (eg_run (eg_rm m_X_unbox) (eg_R m_X_unbox Q (h.length + 0)) Q T_X_unbox 2) Q c_X_unbox_0 0 0 (eg_entry 2 as) [] h) : eg_Runs n_X_unbox as h Q := eg_begin2 (d := m_X_unbox) rfl (by decide) y_X_unbox_0 q_X_unbox hf hw
/-! ===== X_move ===== -/
def c_X_move_78 : List eg_I := .inl (78, 1, .lreturn, 0, 0) :: []
def c_X_move_77 : List eg_I := .inl (77, 1, .i2l, 0, 0) :: c_X_move_78
def c_X_move_74 : List eg_I := .inr (74, 1, 303, n_Boxes_firstEntered, 3, 0, 0, 0) :: c_X_move_77
def c_X_move_73 : List eg_I := .inl (73, 1, .iload 3, 0, 0) :: c_X_move_74
def c_X_move_72 : List eg_I := .inl (72, 1, .iload 2, 0, 0) :: c_X_move_73
def c_X_move_71 : List eg_I := .inl (71, 1, .aaload, 0, 0) :: c_X_move_72
def c_X_move_70 : List eg_I := .inl (70, 1, .iload 1, 0, 0) :: c_X_move_71
def c_X_move_67 : List eg_I := .inl (67, 3, .getfield 11, 11, 0) :: c_X_move_70
def c_X_move_66 : List eg_I := .inl (66, 1, .aload 0, 0, 0) :: c_X_move_67
def c_X_move_63 : List eg_I := .inl (63, 3, .getfield 65, 11, 8) :: c_X_move_66
def c_X_move_62 : List eg_I := .inl (62, 1, .aload 0, 0, 0) :: c_X_move_63
def c_X_move_61 : List eg_I := .inl (61, 1, .lreturn, 0, 0) :: []
def c_X_move_58 : List eg_I := .inr (58, 1, 86, n_X_found, 1, 11, 0, 0) :: c_X_move_61
def c_X_move_55 : List eg_I := .inl (55, 3, .sipush (-1000000000000000007), 113, 0) :: c_X_move_58
def c_X_move_54 : List eg_I := .inl (54, 1, .aload 0, 0, 0) :: c_X_move_55
def c_X_move_51 : List eg_I := .inl (51, 3, .ifCond .eq (11), 62, 0) :: c_X_move_54
def c_X_move_50 : List eg_I := .inl (50, 1, .baload, 0, 0) :: c_X_move_51
def c_X_move_49 : List eg_I := .inl (49, 1, .iload 3, 0, 0) :: c_X_move_50
def c_X_move_46 : List eg_I := .inl (46, 3, .getfield 109, 8, 3) :: c_X_move_49
def c_X_move_45 : List eg_I := .inl (45, 1, .aaload, 0, 0) :: c_X_move_46
def c_X_move_44 : List eg_I := .inl (44, 1, .iload 1, 0, 0) :: c_X_move_45
def c_X_move_41 : List eg_I := .inl (41, 3, .getfield 11, 11, 0) :: c_X_move_44
def c_X_move_40 : List eg_I := .inl (40, 1, .aload 0, 0, 0) :: c_X_move_41
def c_X_move_37 : List eg_I := .inl (37, 3, .ifCond .ne (17), 54, 0) :: c_X_move_40
def c_X_move_36 : List eg_I := .inl (36, 1, .baload, 0, 0) :: c_X_move_37
def c_X_move_35 : List eg_I := .inl (35, 1, .iload 2, 0, 0) :: c_X_move_36
def c_X_move_32 : List eg_I := .inl (32, 3, .getfield 109, 8, 3) :: c_X_move_35
def c_X_move_31 : List eg_I := .inl (31, 1, .aaload, 0, 0) :: c_X_move_32
def c_X_move_30 : List eg_I := .inl (30, 1, .iload 1, 0, 0) :: c_X_move_31
def c_X_move_27 : List eg_I := .inl (27, 3, .getfield 11, 11, 0) :: c_X_move_30
def c_X_move_26 : List eg_I := .inl (26, 1, .aload 0, 0, 0) :: c_X_move_27
def c_X_move_25 : List eg_I := .inl (25, 1, .lreturn, 0, 0) :: []
def c_X_move_22 : List eg_I := .inr (22, 1, 86, n_X_found, 1, 11, 0, 0) :: c_X_move_25
def c_X_move_19 : List eg_I := .inl (19, 3, .sipush (-1000000000000000001), 84, 0) :: c_X_move_22
def c_X_move_18 : List eg_I := .inl (18, 1, .aload 0, 0, 0) :: c_X_move_19
def c_X_move_15 : List eg_I := .inl (15, 3, .ifCond .ne (11), 26, 0) :: c_X_move_18
def c_X_move_12 : List eg_I := .inr (12, 1, 106, n_X_isPoint, 2, 11, 0, 0) :: c_X_move_15
def c_X_move_11 : List eg_I := .inl (11, 1, .iload 3, 0, 0) :: c_X_move_12
def c_X_move_10 : List eg_I := .inl (10, 1, .iload 1, 0, 0) :: c_X_move_11
def c_X_move_9 : List eg_I := .inl (9, 1, .aload 0, 0, 0) :: c_X_move_10
def c_X_move_6 : List eg_I := .inl (6, 3, .ifCond .eq (12), 18, 0) :: c_X_move_9
def c_X_move_3 : List eg_I := .inr (3, 1, 106, n_X_isPoint, 2, 11, 0, 0) :: c_X_move_6
def c_X_move_2 : List eg_I := .inl (2, 1, .iload 2, 0, 0) :: c_X_move_3
def c_X_move_1 : List eg_I := .inl (1, 1, .iload 1, 0, 0) :: c_X_move_2
def c_X_move_0 : List eg_I := .inl (0, 1, .aload 0, 0, 0) :: c_X_move_1
section
variable {rm : Room} {K : Nat → Nat → Nat → eg_Lo → List Value → List eg_E → Prop} {Q : Option Value → List eg_E → Prop} {kc ks : Nat} {loc : eg_Lo} {st : List Value} {h : List eg_E}
theorem s_X_move_0 {x : Nat} {l : eg_Lo} : wps rm K Q c_X_move_0 kc ks (some (.ref x) :: l) (st) h = wps rm K Q c_X_move_1 kc ks (some (.ref x) :: l) (.ref x :: st) h := gk_aload rfl
theorem s_X_move_1 {x : Int32} {l0 : Option Value} {l : eg_Lo} : wps rm K Q c_X_move_1 kc ks (l0 :: some (.int x) :: l) (st) h = wps rm K Q c_X_move_2 kc ks (l0 :: some (.int x) :: l) (.int x :: st) h := gk_iload rfl
theorem s_X_move_2 {x : Int32} {l0 l1 : Option Value} {l : eg_Lo} : wps rm K Q c_X_move_2 kc ks (l0 :: l1 :: some (.int x) :: l) (st) h = wps rm K Q c_X_move_3 kc ks (l0 :: l1 :: some (.int x) :: l) (.int x :: st) h := gk_iload rfl
theorem s_X_move_3  {a1 : Value} {a2 : Value} {x : Nat} : wps rm K Q c_X_move_3 kc ks loc (a2 :: a1 :: .ref (x + 1) :: st) h = (eg_cls h x 11 ∧ st.length ≤ 4 ∧ eg_Cs n_X_isPoint (.ref (x + 1) :: [a1, a2]) h (fun v h9 => wps rm K Q c_X_move_6 kc ks loc (v.toList ++ st) h9)) := eg_c1_2
theorem s_X_move_6 {x : Int32} : wps rm K Q c_X_move_6 kc ks loc (.int x :: st) h = ((x = 0 → K 18 kc ks loc st h) ∧ (¬ x = 0 → wps rm K Q c_X_move_9 kc ks loc (st) h)) := gk_if1_eq
theorem s_X_move_9 {x : Nat} {l : eg_Lo} : wps rm K Q c_X_move_9 kc ks (some (.ref x) :: l) (st) h = wps rm K Q c_X_move_10 kc ks (some (.ref x) :: l) (.ref x :: st) h := gk_aload rfl
theorem s_X_move_10 {x : Int32} {l0 : Option Value} {l : eg_Lo} : wps rm K Q c_X_move_10 kc ks (l0 :: some (.int x) :: l) (st) h = wps rm K Q c_X_move_11 kc ks (l0 :: some (.int x) :: l) (.int x :: st) h := gk_iload rfl
theorem s_X_move_11 {x : Int32} {l0 l1 l2 : Option Value} {l : eg_Lo} : wps rm K Q c_X_move_11 kc ks (l0 :: l1 :: l2 :: some (.int x) :: l) (st) h = wps rm K Q c_X_move_12 kc ks (l0 :: l1 :: l2 :: some (.int x) :: l) (.int x :: st) h := gk_iload rfl
theorem s_X_move_12  {a1 : Value} {a2 : Value} {x : Nat} : wps rm K Q c_X_move_12 kc ks loc (a2 :: a1 :: .ref (x + 1) :: st) h = (eg_cls h x 11 ∧ st.length ≤ 4 ∧ eg_Cs n_X_isPoint (.ref (x + 1) :: [a1, a2]) h (fun v h9 => wps rm K Q c_X_move_15 kc ks loc (v.toList ++ st) h9)) := eg_c1_2
theorem s_X_move_15 {x : Int32} : wps rm K Q c_X_move_15 kc ks loc (.int x :: st) h = ((¬ x = 0 → K 26 kc ks loc st h) ∧ (x = 0 → wps rm K Q c_X_move_18 kc ks loc (st) h)) := gk_if1_ne
theorem s_X_move_18 {x : Nat} {l : eg_Lo} : wps rm K Q c_X_move_18 kc ks (some (.ref x) :: l) (st) h = wps rm K Q c_X_move_19 kc ks (some (.ref x) :: l) (.ref x :: st) h := gk_aload rfl
theorem s_X_move_19  : wps rm K Q c_X_move_19 kc ks loc (st) h = wps rm K Q c_X_move_22 kc ks loc (.long (-1000000000000000001) :: st) h := gk_lc (by decide)
theorem s_X_move_22  {a1 : Value} {x : Nat} : wps rm K Q c_X_move_22 kc ks loc (a1 :: .ref (x + 1) :: st) h = (eg_cls h x 11 ∧ st.length ≤ 4 ∧ eg_Cs n_X_found (.ref (x + 1) :: [a1]) h (fun v h9 => wps rm K Q c_X_move_25 kc ks loc (v.toList ++ st) h9)) := eg_c1_1
theorem s_X_move_25 {x : Int64} : wps rm K Q c_X_move_25 kc ks loc ([.long x]) h = (kc = rm.cells ∧ Q (some (.long x)) h) := gk_lret
theorem s_X_move_26 {x : Nat} {l : eg_Lo} : wps rm K Q c_X_move_26 kc ks (some (.ref x) :: l) (st) h = wps rm K Q c_X_move_27 kc ks (some (.ref x) :: l) (.ref x :: st) h := gk_aload rfl
theorem s_X_move_27 {x : Nat} : wps rm K Q c_X_move_27 kc ks loc (.ref (x + 1) :: st) h = eg_gf h x 11 0 (fun v => wps rm K Q c_X_move_30 kc ks loc (v :: st) h) := gk_gf
theorem s_X_move_30 {x : Int32} {l0 : Option Value} {l : eg_Lo} : wps rm K Q c_X_move_30 kc ks (l0 :: some (.int x) :: l) (st) h = wps rm K Q c_X_move_31 kc ks (l0 :: some (.int x) :: l) (.int x :: st) h := gk_iload rfl
theorem s_X_move_31 {x : Nat} {i : Int32} : wps rm K Q c_X_move_31 kc ks loc (.int i :: .ref (x + 1) :: st) h = eg_aa h x i (fun v => wps rm K Q c_X_move_32 kc ks loc (v :: st) h) := gk_aaload
theorem s_X_move_32 {x : Nat} : wps rm K Q c_X_move_32 kc ks loc (.ref (x + 1) :: st) h = eg_gf h x 8 3 (fun v => wps rm K Q c_X_move_35 kc ks loc (v :: st) h) := gk_gf
theorem s_X_move_35 {x : Int32} {l0 l1 : Option Value} {l : eg_Lo} : wps rm K Q c_X_move_35 kc ks (l0 :: l1 :: some (.int x) :: l) (st) h = wps rm K Q c_X_move_36 kc ks (l0 :: l1 :: some (.int x) :: l) (.int x :: st) h := gk_iload rfl
theorem s_X_move_36 {x : Nat} {i : Int32} : wps rm K Q c_X_move_36 kc ks loc (.int i :: .ref (x + 1) :: st) h = eg_ba h x i (fun v => wps rm K Q c_X_move_37 kc ks loc (.int v :: st) h) := gk_baload
theorem s_X_move_37 {x : Int32} : wps rm K Q c_X_move_37 kc ks loc (.int x :: st) h = ((¬ x = 0 → K 54 kc ks loc st h) ∧ (x = 0 → wps rm K Q c_X_move_40 kc ks loc (st) h)) := gk_if1_ne
theorem s_X_move_40 {x : Nat} {l : eg_Lo} : wps rm K Q c_X_move_40 kc ks (some (.ref x) :: l) (st) h = wps rm K Q c_X_move_41 kc ks (some (.ref x) :: l) (.ref x :: st) h := gk_aload rfl
theorem s_X_move_41 {x : Nat} : wps rm K Q c_X_move_41 kc ks loc (.ref (x + 1) :: st) h = eg_gf h x 11 0 (fun v => wps rm K Q c_X_move_44 kc ks loc (v :: st) h) := gk_gf
theorem s_X_move_44 {x : Int32} {l0 : Option Value} {l : eg_Lo} : wps rm K Q c_X_move_44 kc ks (l0 :: some (.int x) :: l) (st) h = wps rm K Q c_X_move_45 kc ks (l0 :: some (.int x) :: l) (.int x :: st) h := gk_iload rfl
theorem s_X_move_45 {x : Nat} {i : Int32} : wps rm K Q c_X_move_45 kc ks loc (.int i :: .ref (x + 1) :: st) h = eg_aa h x i (fun v => wps rm K Q c_X_move_46 kc ks loc (v :: st) h) := gk_aaload
theorem s_X_move_46 {x : Nat} : wps rm K Q c_X_move_46 kc ks loc (.ref (x + 1) :: st) h = eg_gf h x 8 3 (fun v => wps rm K Q c_X_move_49 kc ks loc (v :: st) h) := gk_gf
theorem s_X_move_49 {x : Int32} {l0 l1 l2 : Option Value} {l : eg_Lo} : wps rm K Q c_X_move_49 kc ks (l0 :: l1 :: l2 :: some (.int x) :: l) (st) h = wps rm K Q c_X_move_50 kc ks (l0 :: l1 :: l2 :: some (.int x) :: l) (.int x :: st) h := gk_iload rfl
theorem s_X_move_50 {x : Nat} {i : Int32} : wps rm K Q c_X_move_50 kc ks loc (.int i :: .ref (x + 1) :: st) h = eg_ba h x i (fun v => wps rm K Q c_X_move_51 kc ks loc (.int v :: st) h) := gk_baload
theorem s_X_move_51 {x : Int32} : wps rm K Q c_X_move_51 kc ks loc (.int x :: st) h = ((x = 0 → K 62 kc ks loc st h) ∧ (¬ x = 0 → wps rm K Q c_X_move_54 kc ks loc (st) h)) := gk_if1_eq
theorem s_X_move_54 {x : Nat} {l : eg_Lo} : wps rm K Q c_X_move_54 kc ks (some (.ref x) :: l) (st) h = wps rm K Q c_X_move_55 kc ks (some (.ref x) :: l) (.ref x :: st) h := gk_aload rfl
theorem s_X_move_55  : wps rm K Q c_X_move_55 kc ks loc (st) h = wps rm K Q c_X_move_58 kc ks loc (.long (-1000000000000000007) :: st) h := gk_lc (by decide)
theorem s_X_move_58  {a1 : Value} {x : Nat} : wps rm K Q c_X_move_58 kc ks loc (a1 :: .ref (x + 1) :: st) h = (eg_cls h x 11 ∧ st.length ≤ 4 ∧ eg_Cs n_X_found (.ref (x + 1) :: [a1]) h (fun v h9 => wps rm K Q c_X_move_61 kc ks loc (v.toList ++ st) h9)) := eg_c1_1
theorem s_X_move_61 {x : Int64} : wps rm K Q c_X_move_61 kc ks loc ([.long x]) h = (kc = rm.cells ∧ Q (some (.long x)) h) := gk_lret
theorem s_X_move_62 {x : Nat} {l : eg_Lo} : wps rm K Q c_X_move_62 kc ks (some (.ref x) :: l) (st) h = wps rm K Q c_X_move_63 kc ks (some (.ref x) :: l) (.ref x :: st) h := gk_aload rfl
theorem s_X_move_63 {x : Nat} : wps rm K Q c_X_move_63 kc ks loc (.ref (x + 1) :: st) h = eg_gf h x 11 8 (fun v => wps rm K Q c_X_move_66 kc ks loc (v :: st) h) := gk_gf
theorem s_X_move_66 {x : Nat} {l : eg_Lo} : wps rm K Q c_X_move_66 kc ks (some (.ref x) :: l) (st) h = wps rm K Q c_X_move_67 kc ks (some (.ref x) :: l) (.ref x :: st) h := gk_aload rfl
theorem s_X_move_67 {x : Nat} : wps rm K Q c_X_move_67 kc ks loc (.ref (x + 1) :: st) h = eg_gf h x 11 0 (fun v => wps rm K Q c_X_move_70 kc ks loc (v :: st) h) := gk_gf
theorem s_X_move_70 {x : Int32} {l0 : Option Value} {l : eg_Lo} : wps rm K Q c_X_move_70 kc ks (l0 :: some (.int x) :: l) (st) h = wps rm K Q c_X_move_71 kc ks (l0 :: some (.int x) :: l) (.int x :: st) h := gk_iload rfl
theorem s_X_move_71 {x : Nat} {i : Int32} : wps rm K Q c_X_move_71 kc ks loc (.int i :: .ref (x + 1) :: st) h = eg_aa h x i (fun v => wps rm K Q c_X_move_72 kc ks loc (v :: st) h) := gk_aaload
theorem s_X_move_72 {x : Int32} {l0 l1 : Option Value} {l : eg_Lo} : wps rm K Q c_X_move_72 kc ks (l0 :: l1 :: some (.int x) :: l) (st) h = wps rm K Q c_X_move_73 kc ks (l0 :: l1 :: some (.int x) :: l) (.int x :: st) h := gk_iload rfl
theorem s_X_move_73 {x : Int32} {l0 l1 l2 : Option Value} {l : eg_Lo} : wps rm K Q c_X_move_73 kc ks (l0 :: l1 :: l2 :: some (.int x) :: l) (st) h = wps rm K Q c_X_move_74 kc ks (l0 :: l1 :: l2 :: some (.int x) :: l) (.int x :: st) h := gk_iload rfl
theorem s_X_move_74  {a1 : Value} {a2 : Value} {a3 : Value} {x : Nat} : wps rm K Q c_X_move_74 kc ks loc (a3 :: a2 :: a1 :: .ref (x + 1) :: st) h = (eg_cls h x 0 ∧ st.length ≤ 4 ∧ eg_Cs n_Boxes_firstEntered (.ref (x + 1) :: [a1, a2, a3]) h (fun v h9 => wps rm K Q c_X_move_77 kc ks loc (v.toList ++ st) h9)) := eg_c1_3
theorem s_X_move_77 {x : Int32} : wps rm K Q c_X_move_77 kc ks loc (.int x :: st) h = wps rm K Q c_X_move_78 kc ks loc (.long (x.toInt64) :: st) h := gk_i2l
theorem s_X_move_78 {x : Int64} : wps rm K Q c_X_move_78 kc ks loc ([.long x]) h = (kc = rm.cells ∧ Q (some (.long x)) h) := gk_lret
def T_X_move : List (Nat × List eg_I) := [(18, c_X_move_18), (26, c_X_move_26), (54, c_X_move_54), (62, c_X_move_62)]
theorem j_X_move_18 {R : Nat → Nat → Nat → eg_Lo → List Value → List eg_E → Prop} {f pc0 : Nat} : eg_run rm R Q T_X_move (f + 1) 18 kc ks loc st h = wps rm (eg_run rm R Q T_X_move f) Q c_X_move_18 kc ks loc st h := rfl
theorem j_X_move_26 {R : Nat → Nat → Nat → eg_Lo → List Value → List eg_E → Prop} {f pc0 : Nat} : eg_run rm R Q T_X_move (f + 1) 26 kc ks loc st h = wps rm (eg_run rm R Q T_X_move f) Q c_X_move_26 kc ks loc st h := rfl
theorem j_X_move_54 {R : Nat → Nat → Nat → eg_Lo → List Value → List eg_E → Prop} {f pc0 : Nat} : eg_run rm R Q T_X_move (f + 1) 54 kc ks loc st h = wps rm (eg_run rm R Q T_X_move f) Q c_X_move_54 kc ks loc st h := rfl
theorem j_X_move_62 {R : Nat → Nat → Nat → eg_Lo → List Value → List eg_E → Prop} {f pc0 : Nat} : eg_run rm R Q T_X_move (f + 1) 62 kc ks loc st h = wps rm (eg_run rm R Q T_X_move f) Q c_X_move_62 kc ks loc st h := rfl
end
theorem y_X_move_0 : eg_seq m_X_move 0 c_X_move_0 = true := by decide +kernel
theorem y_X_move_26 : eg_seq m_X_move 26 c_X_move_26 = true := by decide +kernel
theorem y_X_move_62 : eg_seq m_X_move 62 c_X_move_62 = true := by decide +kernel
theorem q_X_move : ∀ q ∈ T_X_move, eg_seq m_X_move q.1 q.2 = true := by
  intro q hq
  simp only [T_X_move, List.mem_cons, List.not_mem_nil, or_false] at hq
  rcases hq with rfl | rfl | rfl | rfl
  · exact (eg_seq_drop y_X_move_0 10 : eg_seq m_X_move 18 c_X_move_18 = true)
  · exact y_X_move_26
  · exact (eg_seq_drop y_X_move_26 16 : eg_seq m_X_move 54 c_X_move_54 = true)
  · exact y_X_move_62
theorem b_X_move {as : List Value} {h : List eg_E} {Q : Option Value → List eg_E → Prop} (hf : (eg_fl as).length ≤ 4) (hw : wps (eg_rm m_X_move) (eg_run (eg_rm m_X_move) (eg_R m_X_move Q (h.length + 0)) Q T_X_move 6) Q c_X_move_0 0 0 (eg_entry 4 as) [] h) : eg_Runs n_X_move as h Q := eg_begin2 (d := m_X_move) rfl (by decide) y_X_move_0 q_X_move hf hw
/-! ===== X_path ===== -/
def z_X_path_27 : List eg_I := [.inl (27, 0, .nop, 0, 0)]
def c_X_path_82 : List eg_I := .inl (82, 1, .lreturn, 0, 0) :: []
def c_X_path_79 : List eg_I := .inl (79, 3, .sipush (-1), 152, 0) :: c_X_path_82
def c_X_path_76 : List eg_I := .inl (76, 3, .goto (-49), 27, 0) :: []
def c_X_path_73 : List eg_I := .inl (73, 3, .iinc 4 (1), 0, 0) :: c_X_path_76
def c_X_path_72 : List eg_I := .inl (72, 1, .istore 3, 0, 0) :: c_X_path_73
def c_X_path_70 : List eg_I := .inl (70, 2, .iload 4, 0, 0) :: c_X_path_72
def c_X_path_69 : List eg_I := .inl (69, 1, .lreturn, 0, 0) :: []
def c_X_path_68 : List eg_I := .inl (68, 1, .i2l, 0, 0) :: c_X_path_69
def c_X_path_67 : List eg_I := .inl (67, 1, .iload 3, 0, 0) :: c_X_path_68
def c_X_path_64 : List eg_I := .inl (64, 3, .ifCond .lt (6), 70, 0) :: c_X_path_67
def c_X_path_61 : List eg_I := .inr (61, 1, 303, n_Boxes_firstEntered, 3, 0, 0, 0) :: c_X_path_64
def c_X_path_59 : List eg_I := .inl (59, 2, .iload 4, 0, 0) :: c_X_path_61
def c_X_path_58 : List eg_I := .inl (58, 1, .iload 3, 0, 0) :: c_X_path_59
def c_X_path_57 : List eg_I := .inl (57, 1, .aload 2, 0, 0) :: c_X_path_58
def c_X_path_54 : List eg_I := .inl (54, 3, .getfield 65, 11, 8) :: c_X_path_57
def c_X_path_53 : List eg_I := .inl (53, 1, .aload 0, 0, 0) :: c_X_path_54
def c_X_path_50 : List eg_I := .inl (50, 3, .ifCond .lt (20), 70, 0) :: c_X_path_53
def c_X_path_49 : List eg_I := .inl (49, 1, .iload 3, 0, 0) :: c_X_path_50
def c_X_path_46 : List eg_I := .inl (46, 3, .goto (27), 73, 0) :: []
def c_X_path_43 : List eg_I := .inl (43, 3, .ifCond .eq (6), 49, 0) :: c_X_path_46
def c_X_path_42 : List eg_I := .inl (42, 1, .baload, 0, 0) :: c_X_path_43
def c_X_path_40 : List eg_I := .inl (40, 2, .iload 4, 0, 0) :: c_X_path_42
def c_X_path_37 : List eg_I := .inl (37, 3, .getfield 109, 8, 3) :: c_X_path_40
def c_X_path_36 : List eg_I := .inl (36, 1, .aload 2, 0, 0) :: c_X_path_37
def c_X_path_33 : List eg_I := .inl (33, 3, .if_icmp .ge (46), 79, 0) :: c_X_path_36
def c_X_path_30 : List eg_I := .inl (30, 3, .getfield 128, 8, 4) :: c_X_path_33
def c_X_path_29 : List eg_I := .inl (29, 1, .aload 2, 0, 0) :: c_X_path_30
def c_X_path_27 : List eg_I := .inl (27, 2, .iload 4, 0, 0) :: c_X_path_29
def c_X_path_25 : List eg_I := .inl (25, 2, .istore 4, 0, 0) :: z_X_path_27
def c_X_path_24 : List eg_I := .inl (24, 1, .iconst (0), 0, 0) :: c_X_path_25
def c_X_path_23 : List eg_I := .inl (23, 1, .istore 3, 0, 0) :: c_X_path_24
def c_X_path_22 : List eg_I := .inl (22, 1, .iconst (-1), 0, 0) :: c_X_path_23
def c_X_path_21 : List eg_I := .inl (21, 1, .astore 2, 0, 0) :: c_X_path_22
def c_X_path_20 : List eg_I := .inl (20, 1, .aaload, 0, 0) :: c_X_path_21
def c_X_path_19 : List eg_I := .inl (19, 1, .iload 1, 0, 0) :: c_X_path_20
def c_X_path_16 : List eg_I := .inl (16, 3, .getfield 11, 11, 0) :: c_X_path_19
def c_X_path_15 : List eg_I := .inl (15, 1, .aload 0, 0, 0) :: c_X_path_16
def c_X_path_14 : List eg_I := .inl (14, 1, .lreturn, 0, 0) :: []
def c_X_path_11 : List eg_I := .inr (11, 1, 86, n_X_found, 1, 11, 0, 0) :: c_X_path_14
def c_X_path_8 : List eg_I := .inl (8, 3, .sipush (-1000000000000000001), 84, 0) :: c_X_path_11
def c_X_path_7 : List eg_I := .inl (7, 1, .aload 0, 0, 0) :: c_X_path_8
def c_X_path_4 : List eg_I := .inl (4, 3, .ifCond .ne (11), 15, 0) :: c_X_path_7
def c_X_path_1 : List eg_I := .inr (1, 0, 72, n_X_isPart, 1, 11, 0, 0) :: c_X_path_4
def c_X_path_0 : List eg_I := .inl (0, 1, .iload 1, 0, 0) :: c_X_path_1
section
variable {rm : Room} {K : Nat → Nat → Nat → eg_Lo → List Value → List eg_E → Prop} {Q : Option Value → List eg_E → Prop} {kc ks : Nat} {loc : eg_Lo} {st : List Value} {h : List eg_E}
theorem s_X_path_0 {x : Int32} {l0 : Option Value} {l : eg_Lo} : wps rm K Q c_X_path_0 kc ks (l0 :: some (.int x) :: l) (st) h = wps rm K Q c_X_path_1 kc ks (l0 :: some (.int x) :: l) (.int x :: st) h := gk_iload rfl
theorem s_X_path_1  {a1 : Value} : wps rm K Q c_X_path_1 kc ks loc (a1 :: st) h = (st.length ≤ 4 ∧ eg_Cs n_X_isPart [a1] h (fun v h9 => wps rm K Q c_X_path_4 kc ks loc (v.toList ++ st) h9)) := eg_c0_1
theorem s_X_path_4 {x : Int32} : wps rm K Q c_X_path_4 kc ks loc (.int x :: st) h = ((¬ x = 0 → K 15 kc ks loc st h) ∧ (x = 0 → wps rm K Q c_X_path_7 kc ks loc (st) h)) := gk_if1_ne
theorem s_X_path_7 {x : Nat} {l : eg_Lo} : wps rm K Q c_X_path_7 kc ks (some (.ref x) :: l) (st) h = wps rm K Q c_X_path_8 kc ks (some (.ref x) :: l) (.ref x :: st) h := gk_aload rfl
theorem s_X_path_8  : wps rm K Q c_X_path_8 kc ks loc (st) h = wps rm K Q c_X_path_11 kc ks loc (.long (-1000000000000000001) :: st) h := gk_lc (by decide)
theorem s_X_path_11  {a1 : Value} {x : Nat} : wps rm K Q c_X_path_11 kc ks loc (a1 :: .ref (x + 1) :: st) h = (eg_cls h x 11 ∧ st.length ≤ 4 ∧ eg_Cs n_X_found (.ref (x + 1) :: [a1]) h (fun v h9 => wps rm K Q c_X_path_14 kc ks loc (v.toList ++ st) h9)) := eg_c1_1
theorem s_X_path_14 {x : Int64} : wps rm K Q c_X_path_14 kc ks loc ([.long x]) h = (kc = rm.cells ∧ Q (some (.long x)) h) := gk_lret
theorem s_X_path_15 {x : Nat} {l : eg_Lo} : wps rm K Q c_X_path_15 kc ks (some (.ref x) :: l) (st) h = wps rm K Q c_X_path_16 kc ks (some (.ref x) :: l) (.ref x :: st) h := gk_aload rfl
theorem s_X_path_16 {x : Nat} : wps rm K Q c_X_path_16 kc ks loc (.ref (x + 1) :: st) h = eg_gf h x 11 0 (fun v => wps rm K Q c_X_path_19 kc ks loc (v :: st) h) := gk_gf
theorem s_X_path_19 {x : Int32} {l0 : Option Value} {l : eg_Lo} : wps rm K Q c_X_path_19 kc ks (l0 :: some (.int x) :: l) (st) h = wps rm K Q c_X_path_20 kc ks (l0 :: some (.int x) :: l) (.int x :: st) h := gk_iload rfl
theorem s_X_path_20 {x : Nat} {i : Int32} : wps rm K Q c_X_path_20 kc ks loc (.int i :: .ref (x + 1) :: st) h = eg_aa h x i (fun v => wps rm K Q c_X_path_21 kc ks loc (v :: st) h) := gk_aaload
theorem s_X_path_21 {x : Nat} : wps rm K Q c_X_path_21 kc ks loc (.ref x :: st) h = wps rm K Q c_X_path_22 kc ks (eg_set1 loc 2 (.ref x)) (st) h := gk_astore
theorem s_X_path_22  : wps rm K Q c_X_path_22 kc ks loc (st) h = wps rm K Q c_X_path_23 kc ks loc (.int (-1) :: st) h := gk_ic (by decide)
theorem s_X_path_23 {x : Int32} : wps rm K Q c_X_path_23 kc ks loc (.int x :: st) h = wps rm K Q c_X_path_24 kc ks (eg_set1 loc 3 (.int x)) (st) h := gk_istore
theorem s_X_path_24  : wps rm K Q c_X_path_24 kc ks loc (st) h = wps rm K Q c_X_path_25 kc ks loc (.int (0) :: st) h := gk_ic (by decide)
theorem s_X_path_25 {x : Int32} : wps rm K Q c_X_path_25 kc ks loc (.int x :: st) h = wps rm K Q z_X_path_27 kc ks (eg_set1 loc 4 (.int x)) (st) h := gk_istore
theorem s_X_path_27 {x : Int32} {l0 l1 l2 l3 : Option Value} {l : eg_Lo} : wps rm K Q c_X_path_27 kc ks (l0 :: l1 :: l2 :: l3 :: some (.int x) :: l) (st) h = wps rm K Q c_X_path_29 kc ks (l0 :: l1 :: l2 :: l3 :: some (.int x) :: l) (.int x :: st) h := gk_iload rfl
theorem s_X_path_29 {x : Nat} {l0 l1 : Option Value} {l : eg_Lo} : wps rm K Q c_X_path_29 kc ks (l0 :: l1 :: some (.ref x) :: l) (st) h = wps rm K Q c_X_path_30 kc ks (l0 :: l1 :: some (.ref x) :: l) (.ref x :: st) h := gk_aload rfl
theorem s_X_path_30 {x : Nat} : wps rm K Q c_X_path_30 kc ks loc (.ref (x + 1) :: st) h = eg_gf h x 8 4 (fun v => wps rm K Q c_X_path_33 kc ks loc (v :: st) h) := gk_gf
theorem s_X_path_33 {x y : Int32} : wps rm K Q c_X_path_33 kc ks loc (.int y :: .int x :: st) h = ((y ≤ x → K 79 kc ks loc st h) ∧ (¬ y ≤ x → wps rm K Q c_X_path_36 kc ks loc (st) h)) := gk_if2_ge
theorem s_X_path_36 {x : Nat} {l0 l1 : Option Value} {l : eg_Lo} : wps rm K Q c_X_path_36 kc ks (l0 :: l1 :: some (.ref x) :: l) (st) h = wps rm K Q c_X_path_37 kc ks (l0 :: l1 :: some (.ref x) :: l) (.ref x :: st) h := gk_aload rfl
theorem s_X_path_37 {x : Nat} : wps rm K Q c_X_path_37 kc ks loc (.ref (x + 1) :: st) h = eg_gf h x 8 3 (fun v => wps rm K Q c_X_path_40 kc ks loc (v :: st) h) := gk_gf
theorem s_X_path_40 {x : Int32} {l0 l1 l2 l3 : Option Value} {l : eg_Lo} : wps rm K Q c_X_path_40 kc ks (l0 :: l1 :: l2 :: l3 :: some (.int x) :: l) (st) h = wps rm K Q c_X_path_42 kc ks (l0 :: l1 :: l2 :: l3 :: some (.int x) :: l) (.int x :: st) h := gk_iload rfl
theorem s_X_path_42 {x : Nat} {i : Int32} : wps rm K Q c_X_path_42 kc ks loc (.int i :: .ref (x + 1) :: st) h = eg_ba h x i (fun v => wps rm K Q c_X_path_43 kc ks loc (.int v :: st) h) := gk_baload
theorem s_X_path_43 {x : Int32} : wps rm K Q c_X_path_43 kc ks loc (.int x :: st) h = ((x = 0 → K 49 kc ks loc st h) ∧ (¬ x = 0 → wps rm K Q c_X_path_46 kc ks loc (st) h)) := gk_if1_eq
theorem s_X_path_46  : wps rm K Q c_X_path_46 kc ks loc (st) h = K 73 kc ks loc st h := gk_goto
theorem s_X_path_49 {x : Int32} {l0 l1 l2 : Option Value} {l : eg_Lo} : wps rm K Q c_X_path_49 kc ks (l0 :: l1 :: l2 :: some (.int x) :: l) (st) h = wps rm K Q c_X_path_50 kc ks (l0 :: l1 :: l2 :: some (.int x) :: l) (.int x :: st) h := gk_iload rfl
theorem s_X_path_50 {x : Int32} : wps rm K Q c_X_path_50 kc ks loc (.int x :: st) h = ((x < 0 → K 70 kc ks loc st h) ∧ (¬ x < 0 → wps rm K Q c_X_path_53 kc ks loc (st) h)) := gk_if1_lt
theorem s_X_path_53 {x : Nat} {l : eg_Lo} : wps rm K Q c_X_path_53 kc ks (some (.ref x) :: l) (st) h = wps rm K Q c_X_path_54 kc ks (some (.ref x) :: l) (.ref x :: st) h := gk_aload rfl
theorem s_X_path_54 {x : Nat} : wps rm K Q c_X_path_54 kc ks loc (.ref (x + 1) :: st) h = eg_gf h x 11 8 (fun v => wps rm K Q c_X_path_57 kc ks loc (v :: st) h) := gk_gf
theorem s_X_path_57 {x : Nat} {l0 l1 : Option Value} {l : eg_Lo} : wps rm K Q c_X_path_57 kc ks (l0 :: l1 :: some (.ref x) :: l) (st) h = wps rm K Q c_X_path_58 kc ks (l0 :: l1 :: some (.ref x) :: l) (.ref x :: st) h := gk_aload rfl
theorem s_X_path_58 {x : Int32} {l0 l1 l2 : Option Value} {l : eg_Lo} : wps rm K Q c_X_path_58 kc ks (l0 :: l1 :: l2 :: some (.int x) :: l) (st) h = wps rm K Q c_X_path_59 kc ks (l0 :: l1 :: l2 :: some (.int x) :: l) (.int x :: st) h := gk_iload rfl
theorem s_X_path_59 {x : Int32} {l0 l1 l2 l3 : Option Value} {l : eg_Lo} : wps rm K Q c_X_path_59 kc ks (l0 :: l1 :: l2 :: l3 :: some (.int x) :: l) (st) h = wps rm K Q c_X_path_61 kc ks (l0 :: l1 :: l2 :: l3 :: some (.int x) :: l) (.int x :: st) h := gk_iload rfl
theorem s_X_path_61  {a1 : Value} {a2 : Value} {a3 : Value} {x : Nat} : wps rm K Q c_X_path_61 kc ks loc (a3 :: a2 :: a1 :: .ref (x + 1) :: st) h = (eg_cls h x 0 ∧ st.length ≤ 4 ∧ eg_Cs n_Boxes_firstEntered (.ref (x + 1) :: [a1, a2, a3]) h (fun v h9 => wps rm K Q c_X_path_64 kc ks loc (v.toList ++ st) h9)) := eg_c1_3
theorem s_X_path_64 {x : Int32} : wps rm K Q c_X_path_64 kc ks loc (.int x :: st) h = ((x < 0 → K 70 kc ks loc st h) ∧ (¬ x < 0 → wps rm K Q c_X_path_67 kc ks loc (st) h)) := gk_if1_lt
theorem s_X_path_67 {x : Int32} {l0 l1 l2 : Option Value} {l : eg_Lo} : wps rm K Q c_X_path_67 kc ks (l0 :: l1 :: l2 :: some (.int x) :: l) (st) h = wps rm K Q c_X_path_68 kc ks (l0 :: l1 :: l2 :: some (.int x) :: l) (.int x :: st) h := gk_iload rfl
theorem s_X_path_68 {x : Int32} : wps rm K Q c_X_path_68 kc ks loc (.int x :: st) h = wps rm K Q c_X_path_69 kc ks loc (.long (x.toInt64) :: st) h := gk_i2l
theorem s_X_path_69 {x : Int64} : wps rm K Q c_X_path_69 kc ks loc ([.long x]) h = (kc = rm.cells ∧ Q (some (.long x)) h) := gk_lret
theorem s_X_path_70 {x : Int32} {l0 l1 l2 l3 : Option Value} {l : eg_Lo} : wps rm K Q c_X_path_70 kc ks (l0 :: l1 :: l2 :: l3 :: some (.int x) :: l) (st) h = wps rm K Q c_X_path_72 kc ks (l0 :: l1 :: l2 :: l3 :: some (.int x) :: l) (.int x :: st) h := gk_iload rfl
theorem s_X_path_72 {x : Int32} : wps rm K Q c_X_path_72 kc ks loc (.int x :: st) h = wps rm K Q c_X_path_73 kc ks (eg_set1 loc 3 (.int x)) (st) h := gk_istore
theorem s_X_path_73 {x : Int32} {l0 l1 l2 l3 : Option Value} {lz : eg_Lo} : wps rm K Q c_X_path_73 kc ks (l0 :: l1 :: l2 :: l3 :: some (.int x) :: lz) (st) h = wps rm K Q c_X_path_76 kc ks (eg_set1 (l0 :: l1 :: l2 :: l3 :: some (.int x) :: lz) 4 (.int (x + (1)))) (st) h := gk_iinc rfl (by decide)
theorem s_X_path_76  : wps rm K Q c_X_path_76 kc ks loc (st) h = K 27 kc ks loc st h := gk_goto
theorem s_X_path_79  : wps rm K Q c_X_path_79 kc ks loc (st) h = wps rm K Q c_X_path_82 kc ks loc (.long (-1) :: st) h := gk_lc (by decide)
theorem s_X_path_82 {x : Int64} : wps rm K Q c_X_path_82 kc ks loc ([.long x]) h = (kc = rm.cells ∧ Q (some (.long x)) h) := gk_lret
theorem sz_X_path_27 : wps rm K Q z_X_path_27 kc ks loc st h = K 27 kc ks loc st h := gk_nop
def T_X_path : List (Nat × List eg_I) := [(15, c_X_path_15), (49, c_X_path_49), (70, c_X_path_70), (73, c_X_path_73), (79, c_X_path_79)]
theorem j_X_path_15 {R : Nat → Nat → Nat → eg_Lo → List Value → List eg_E → Prop} {f pc0 : Nat} : eg_run rm R Q T_X_path (f + 1) 15 kc ks loc st h = wps rm (eg_run rm R Q T_X_path f) Q c_X_path_15 kc ks loc st h := rfl
theorem j_X_path_49 {R : Nat → Nat → Nat → eg_Lo → List Value → List eg_E → Prop} {f pc0 : Nat} : eg_run rm R Q T_X_path (f + 1) 49 kc ks loc st h = wps rm (eg_run rm R Q T_X_path f) Q c_X_path_49 kc ks loc st h := rfl
theorem j_X_path_70 {R : Nat → Nat → Nat → eg_Lo → List Value → List eg_E → Prop} {f pc0 : Nat} : eg_run rm R Q T_X_path (f + 1) 70 kc ks loc st h = wps rm (eg_run rm R Q T_X_path f) Q c_X_path_70 kc ks loc st h := rfl
theorem j_X_path_73 {R : Nat → Nat → Nat → eg_Lo → List Value → List eg_E → Prop} {f pc0 : Nat} : eg_run rm R Q T_X_path (f + 1) 73 kc ks loc st h = wps rm (eg_run rm R Q T_X_path f) Q c_X_path_73 kc ks loc st h := rfl
theorem j_X_path_79 {R : Nat → Nat → Nat → eg_Lo → List Value → List eg_E → Prop} {f pc0 : Nat} : eg_run rm R Q T_X_path (f + 1) 79 kc ks loc st h = wps rm (eg_run rm R Q T_X_path f) Q c_X_path_79 kc ks loc st h := rfl
theorem j_X_path_27 {R : Nat → Nat → Nat → eg_Lo → List Value → List eg_E → Prop} {f pc0 : Nat} : eg_run rm R Q T_X_path (f + 1) 27 kc ks loc st h = R 27 kc ks loc st h := rfl
end
theorem y_X_path_0 : eg_seq m_X_path 0 c_X_path_0 = true := by decide +kernel
theorem y_X_path_15 : eg_seq m_X_path 15 c_X_path_15 = true := by decide +kernel
theorem y_X_path_27 : eg_seq m_X_path 27 c_X_path_27 = true := by decide +kernel
theorem y_X_path_49 : eg_seq m_X_path 49 c_X_path_49 = true := by decide +kernel
theorem y_X_path_70 : eg_seq m_X_path 70 c_X_path_70 = true := by decide +kernel
theorem y_X_path_79 : eg_seq m_X_path 79 c_X_path_79 = true := by decide +kernel
theorem q_X_path : ∀ q ∈ T_X_path, eg_seq m_X_path q.1 q.2 = true := by
  intro q hq
  simp only [T_X_path, List.mem_cons, List.not_mem_nil, or_false] at hq
  rcases hq with rfl | rfl | rfl | rfl | rfl
  · exact y_X_path_15
  · exact y_X_path_49
  · exact y_X_path_70
  · exact (eg_seq_drop y_X_path_70 2 : eg_seq m_X_path 73 c_X_path_73 = true)
  · exact y_X_path_79
theorem b_X_path {as : List Value} {h : List eg_E} {Q : Option Value → List eg_E → Prop} (hf : (eg_fl as).length ≤ 5) (hw : wps (eg_rm m_X_path) (eg_run (eg_rm m_X_path) (eg_R m_X_path Q (h.length + 0)) Q T_X_path 7) Q c_X_path_0 0 0 (eg_entry 5 as) [] h) : eg_Runs n_X_path as h Q := eg_begin2 (d := m_X_path) rfl (by decide) y_X_path_0 q_X_path hf hw
theorem p_X_path_27 {Q : Option Value → List eg_E → Prop} {n0 kc ks : Nat} {loc : eg_Lo} {st : List Value} {h : List eg_E} (hw : wps (eg_rm m_X_path) (eg_run (eg_rm m_X_path) (eg_R m_X_path Q n0) Q T_X_path 7) Q c_X_path_27 kc ks loc st h) : eg_R m_X_path Q n0 27 kc ks loc st h := eg_go2 y_X_path_27 q_X_path hw
/-! ===== X_told ===== -/
def c_X_told_68 : List eg_I := .inl (68, 1, .lreturn, 0, 0) :: []
def c_X_told_65 : List eg_I := .inr (65, 1, 86, n_X_found, 1, 11, 0, 0) :: c_X_told_68
def c_X_told_62 : List eg_I := .inl (62, 3, .sipush (-1000000000000000001), 84, 0) :: c_X_told_65
def c_X_told_61 : List eg_I := .inl (61, 1, .aload 0, 0, 0) :: c_X_told_62
def c_X_told_60 : List eg_I := .inl (60, 1, .lreturn, 0, 0) :: []
def c_X_told_57 : List eg_I := .inl (57, 3, .getfield 310, 11, 9) :: c_X_told_60
def c_X_told_56 : List eg_I := .inl (56, 1, .aload 0, 0, 0) :: c_X_told_57
def c_X_told_55 : List eg_I := .inl (55, 1, .lreturn, 0, 0) :: []
def c_X_told_54 : List eg_I := .inl (54, 1, .i2l, 0, 0) :: c_X_told_55
def c_X_told_51 : List eg_I := .inl (51, 3, .getfield 298, 0, 0) :: c_X_told_54
def c_X_told_48 : List eg_I := .inl (48, 3, .getfield 65, 11, 8) :: c_X_told_51
def c_X_told_47 : List eg_I := .inl (47, 1, .aload 0, 0, 0) :: c_X_told_48
def c_X_told_46 : List eg_I := .inl (46, 1, .lreturn, 0, 0) :: []
def c_X_told_45 : List eg_I := .inl (45, 1, .i2l, 0, 0) :: c_X_told_46
def c_X_told_42 : List eg_I := .inl (42, 3, .getfield 282, 7, 1) :: c_X_told_45
def c_X_told_39 : List eg_I := .inl (39, 3, .getfield 58, 11, 7) :: c_X_told_42
def c_X_told_38 : List eg_I := .inl (38, 1, .aload 0, 0, 0) :: c_X_told_39
def c_X_told_37 : List eg_I := .inl (37, 1, .lreturn, 0, 0) :: []
def c_X_told_36 : List eg_I := .inl (36, 1, .i2l, 0, 0) :: c_X_told_37
def c_X_told_33 : List eg_I := .inr (33, 1, 307, n_X_figureCount, 0, 11, 0, 0) :: c_X_told_36
def c_X_told_32 : List eg_I := .inl (32, 1, .aload 0, 0, 0) :: c_X_told_33
def c_X_told_1 : List eg_I := .inl (1, 31, .tableswitch 60 0 3 #[31, 37, 46, 55], 0, 0) :: []
def c_X_told_0 : List eg_I := .inl (0, 1, .iload 1, 0, 0) :: c_X_told_1
section
variable {rm : Room} {K : Nat → Nat → Nat → eg_Lo → List Value → List eg_E → Prop} {Q : Option Value → List eg_E → Prop} {kc ks : Nat} {loc : eg_Lo} {st : List Value} {h : List eg_E}
theorem s_X_told_0 {x : Int32} {l0 : Option Value} {l : eg_Lo} : wps rm K Q c_X_told_0 kc ks (l0 :: some (.int x) :: l) (st) h = wps rm K Q c_X_told_1 kc ks (l0 :: some (.int x) :: l) (.int x :: st) h := gk_iload rfl
theorem s_X_told_1 {x : Int32} : wps rm K Q c_X_told_1 kc ks loc (.int x :: st) h = ((x.toInt < 0 ∨ 3 < x.toInt → K 61 kc ks loc st h) ∧ (¬ x.toInt < 0 → ¬ 3 < x.toInt → ∀ off, (#[31, 37, 46, 55] : Array Int)[(x.toInt - 0).toNat]? = some off → K (Int.toNat ((1 : Int) + off)) kc ks loc st h)) := rfl
theorem s_X_told_32 {x : Nat} {l : eg_Lo} : wps rm K Q c_X_told_32 kc ks (some (.ref x) :: l) (st) h = wps rm K Q c_X_told_33 kc ks (some (.ref x) :: l) (.ref x :: st) h := gk_aload rfl
theorem s_X_told_33  {x : Nat} : wps rm K Q c_X_told_33 kc ks loc (.ref (x + 1) :: st) h = (eg_cls h x 11 ∧ st.length ≤ 4 ∧ eg_Cs n_X_figureCount (.ref (x + 1) :: []) h (fun v h9 => wps rm K Q c_X_told_36 kc ks loc (v.toList ++ st) h9)) := eg_c1_0
theorem s_X_told_36 {x : Int32} : wps rm K Q c_X_told_36 kc ks loc (.int x :: st) h = wps rm K Q c_X_told_37 kc ks loc (.long (x.toInt64) :: st) h := gk_i2l
theorem s_X_told_37 {x : Int64} : wps rm K Q c_X_told_37 kc ks loc ([.long x]) h = (kc = rm.cells ∧ Q (some (.long x)) h) := gk_lret
theorem s_X_told_38 {x : Nat} {l : eg_Lo} : wps rm K Q c_X_told_38 kc ks (some (.ref x) :: l) (st) h = wps rm K Q c_X_told_39 kc ks (some (.ref x) :: l) (.ref x :: st) h := gk_aload rfl
theorem s_X_told_39 {x : Nat} : wps rm K Q c_X_told_39 kc ks loc (.ref (x + 1) :: st) h = eg_gf h x 11 7 (fun v => wps rm K Q c_X_told_42 kc ks loc (v :: st) h) := gk_gf
theorem s_X_told_42 {x : Nat} : wps rm K Q c_X_told_42 kc ks loc (.ref (x + 1) :: st) h = eg_gf h x 7 1 (fun v => wps rm K Q c_X_told_45 kc ks loc (v :: st) h) := gk_gf
theorem s_X_told_45 {x : Int32} : wps rm K Q c_X_told_45 kc ks loc (.int x :: st) h = wps rm K Q c_X_told_46 kc ks loc (.long (x.toInt64) :: st) h := gk_i2l
theorem s_X_told_46 {x : Int64} : wps rm K Q c_X_told_46 kc ks loc ([.long x]) h = (kc = rm.cells ∧ Q (some (.long x)) h) := gk_lret
theorem s_X_told_47 {x : Nat} {l : eg_Lo} : wps rm K Q c_X_told_47 kc ks (some (.ref x) :: l) (st) h = wps rm K Q c_X_told_48 kc ks (some (.ref x) :: l) (.ref x :: st) h := gk_aload rfl
theorem s_X_told_48 {x : Nat} : wps rm K Q c_X_told_48 kc ks loc (.ref (x + 1) :: st) h = eg_gf h x 11 8 (fun v => wps rm K Q c_X_told_51 kc ks loc (v :: st) h) := gk_gf
theorem s_X_told_51 {x : Nat} : wps rm K Q c_X_told_51 kc ks loc (.ref (x + 1) :: st) h = eg_gf h x 0 0 (fun v => wps rm K Q c_X_told_54 kc ks loc (v :: st) h) := gk_gf
theorem s_X_told_54 {x : Int32} : wps rm K Q c_X_told_54 kc ks loc (.int x :: st) h = wps rm K Q c_X_told_55 kc ks loc (.long (x.toInt64) :: st) h := gk_i2l
theorem s_X_told_55 {x : Int64} : wps rm K Q c_X_told_55 kc ks loc ([.long x]) h = (kc = rm.cells ∧ Q (some (.long x)) h) := gk_lret
theorem s_X_told_56 {x : Nat} {l : eg_Lo} : wps rm K Q c_X_told_56 kc ks (some (.ref x) :: l) (st) h = wps rm K Q c_X_told_57 kc ks (some (.ref x) :: l) (.ref x :: st) h := gk_aload rfl
theorem s_X_told_57 {x : Nat} : wps rm K Q c_X_told_57 kc ks loc (.ref (x + 1) :: st) h = eg_gf h x 11 9 (fun v => wps rm K Q c_X_told_60 kc ks loc (v :: st) h) := gk_gf
theorem s_X_told_60 {x : Int64} : wps rm K Q c_X_told_60 kc ks loc ([.long x]) h = (kc = rm.cells ∧ Q (some (.long x)) h) := gk_lret
theorem s_X_told_61 {x : Nat} {l : eg_Lo} : wps rm K Q c_X_told_61 kc ks (some (.ref x) :: l) (st) h = wps rm K Q c_X_told_62 kc ks (some (.ref x) :: l) (.ref x :: st) h := gk_aload rfl
theorem s_X_told_62  : wps rm K Q c_X_told_62 kc ks loc (st) h = wps rm K Q c_X_told_65 kc ks loc (.long (-1000000000000000001) :: st) h := gk_lc (by decide)
theorem s_X_told_65  {a1 : Value} {x : Nat} : wps rm K Q c_X_told_65 kc ks loc (a1 :: .ref (x + 1) :: st) h = (eg_cls h x 11 ∧ st.length ≤ 4 ∧ eg_Cs n_X_found (.ref (x + 1) :: [a1]) h (fun v h9 => wps rm K Q c_X_told_68 kc ks loc (v.toList ++ st) h9)) := eg_c1_1
theorem s_X_told_68 {x : Int64} : wps rm K Q c_X_told_68 kc ks loc ([.long x]) h = (kc = rm.cells ∧ Q (some (.long x)) h) := gk_lret
def T_X_told : List (Nat × List eg_I) := [(32, c_X_told_32), (38, c_X_told_38), (47, c_X_told_47), (56, c_X_told_56), (61, c_X_told_61)]
theorem j_X_told_32 {R : Nat → Nat → Nat → eg_Lo → List Value → List eg_E → Prop} {f pc0 : Nat} : eg_run rm R Q T_X_told (f + 1) 32 kc ks loc st h = wps rm (eg_run rm R Q T_X_told f) Q c_X_told_32 kc ks loc st h := rfl
theorem j_X_told_38 {R : Nat → Nat → Nat → eg_Lo → List Value → List eg_E → Prop} {f pc0 : Nat} : eg_run rm R Q T_X_told (f + 1) 38 kc ks loc st h = wps rm (eg_run rm R Q T_X_told f) Q c_X_told_38 kc ks loc st h := rfl
theorem j_X_told_47 {R : Nat → Nat → Nat → eg_Lo → List Value → List eg_E → Prop} {f pc0 : Nat} : eg_run rm R Q T_X_told (f + 1) 47 kc ks loc st h = wps rm (eg_run rm R Q T_X_told f) Q c_X_told_47 kc ks loc st h := rfl
theorem j_X_told_56 {R : Nat → Nat → Nat → eg_Lo → List Value → List eg_E → Prop} {f pc0 : Nat} : eg_run rm R Q T_X_told (f + 1) 56 kc ks loc st h = wps rm (eg_run rm R Q T_X_told f) Q c_X_told_56 kc ks loc st h := rfl
theorem j_X_told_61 {R : Nat → Nat → Nat → eg_Lo → List Value → List eg_E → Prop} {f pc0 : Nat} : eg_run rm R Q T_X_told (f + 1) 61 kc ks loc st h = wps rm (eg_run rm R Q T_X_told f) Q c_X_told_61 kc ks loc st h := rfl
end
theorem y_X_told_0 : eg_seq m_X_told 0 c_X_told_0 = true := by decide +kernel
theorem y_X_told_32 : eg_seq m_X_told 32 c_X_told_32 = true := by decide +kernel
theorem y_X_told_38 : eg_seq m_X_told 38 c_X_told_38 = true := by decide +kernel
theorem y_X_told_47 : eg_seq m_X_told 47 c_X_told_47 = true := by decide +kernel
theorem y_X_told_56 : eg_seq m_X_told 56 c_X_told_56 = true := by decide +kernel
theorem y_X_told_61 : eg_seq m_X_told 61 c_X_told_61 = true := by decide +kernel
theorem q_X_told : ∀ q ∈ T_X_told, eg_seq m_X_told q.1 q.2 = true := by
  intro q hq
  simp only [T_X_told, List.mem_cons, List.not_mem_nil, or_false] at hq
  rcases hq with rfl | rfl | rfl | rfl | rfl
  · exact y_X_told_32
  · exact y_X_told_38
  · exact y_X_told_47
  · exact y_X_told_56
  · exact y_X_told_61
theorem b_X_told {as : List Value} {h : List eg_E} {Q : Option Value → List eg_E → Prop} (hf : (eg_fl as).length ≤ 2) (hw : wps (eg_rm m_X_told) (eg_run (eg_rm m_X_told) (eg_R m_X_told Q (h.length + 0)) Q T_X_told 7) Q c_X_told_0 0 0 (eg_entry 2 as) [] h) : eg_Runs n_X_told as h Q := eg_begin2 (d := m_X_told) rfl (by decide) y_X_told_0 q_X_told hf hw
/-! ===== X_found ===== -/
def c_X_found_11 : List eg_I := .inl (11, 1, .lreturn, 0, 0) :: []
def c_X_found_10 : List eg_I := .inl (10, 1, .lload 1, 0, 0) :: c_X_found_11
def c_X_found_7 : List eg_I := .inl (7, 3, .putfield 310, 11, 9) :: c_X_found_10
def c_X_found_6 : List eg_I := .inl (6, 1, .ladd, 0, 0) :: c_X_found_7
def c_X_found_5 : List eg_I := .inl (5, 1, .sipush (1), 0, 0) :: c_X_found_6
def c_X_found_2 : List eg_I := .inl (2, 3, .getfield 310, 11, 9) :: c_X_found_5
def c_X_found_1 : List eg_I := .inl (1, 1, .dup, 0, 0) :: c_X_found_2
def c_X_found_0 : List eg_I := .inl (0, 1, .aload 0, 0, 0) :: c_X_found_1
section
variable {rm : Room} {K : Nat → Nat → Nat → eg_Lo → List Value → List eg_E → Prop} {Q : Option Value → List eg_E → Prop} {kc ks : Nat} {loc : eg_Lo} {st : List Value} {h : List eg_E}
theorem s_X_found_0 {x : Nat} {l : eg_Lo} : wps rm K Q c_X_found_0 kc ks (some (.ref x) :: l) (st) h = wps rm K Q c_X_found_1 kc ks (some (.ref x) :: l) (.ref x :: st) h := gk_aload rfl
theorem s_X_found_1 {x : Nat} : wps rm K Q c_X_found_1 kc ks loc (.ref x :: st) h = wps rm K Q c_X_found_2 kc ks loc (.ref x :: .ref x :: st) h := gk_dup
theorem s_X_found_2 {x : Nat} : wps rm K Q c_X_found_2 kc ks loc (.ref (x + 1) :: st) h = eg_gf h x 11 9 (fun v => wps rm K Q c_X_found_5 kc ks loc (v :: st) h) := gk_gf
theorem s_X_found_5  : wps rm K Q c_X_found_5 kc ks loc (st) h = wps rm K Q c_X_found_6 kc ks loc (.long (1) :: st) h := gk_lc (by decide)
theorem s_X_found_6 {x y : Int64} : wps rm K Q c_X_found_6 kc ks loc (.long y :: .long x :: st) h = wps rm K Q c_X_found_7 kc ks loc (.long (x + y) :: st) h := gk_ladd
theorem s_X_found_7 {x : Nat} {v : Value} : wps rm K Q c_X_found_7 kc ks loc (v :: .ref (x + 1) :: st) h = eg_pf h x 11 9 v (fun h9 => wps rm K Q c_X_found_10 kc ks loc (st) h9) := gk_pf
theorem s_X_found_10 {x : Int64} {l0 : Option Value} {l : eg_Lo} : wps rm K Q c_X_found_10 kc ks (l0 :: some (.long x) :: l) (st) h = wps rm K Q c_X_found_11 kc ks (l0 :: some (.long x) :: l) (.long x :: st) h := gk_lload rfl
theorem s_X_found_11 {x : Int64} : wps rm K Q c_X_found_11 kc ks loc ([.long x]) h = (kc = rm.cells ∧ Q (some (.long x)) h) := gk_lret
def T_X_found : List (Nat × List eg_I) := []
end
theorem y_X_found_0 : eg_seq m_X_found 0 c_X_found_0 = true := by decide +kernel
theorem q_X_found : ∀ q ∈ T_X_found, eg_seq m_X_found q.1 q.2 = true := by
  intro q hq
  cases hq
theorem b_X_found {as : List Value} {h : List eg_E} {Q : Option Value → List eg_E → Prop} (hf : (eg_fl as).length ≤ 3) (hw : wps (eg_rm m_X_found) (eg_run (eg_rm m_X_found) (eg_R m_X_found Q (h.length + 0)) Q T_X_found 2) Q c_X_found_0 0 0 (eg_entry 3 as) [] h) : eg_Runs n_X_found as h Q := eg_begin2 (d := m_X_found) rfl (by decide) y_X_found_0 q_X_found hf hw
/-! ===== X_isWithin ===== -/
def c_X_isWithin_15 : List eg_I := .inl (15, 1, .ireturn, 0, 1) :: []
def c_X_isWithin_14 : List eg_I := .inl (14, 1, .iconst (0), 0, 0) :: c_X_isWithin_15
def c_X_isWithin_11 : List eg_I := .inl (11, 3, .goto (4), 15, 0) :: []
def c_X_isWithin_10 : List eg_I := .inl (10, 1, .iconst (1), 0, 0) :: c_X_isWithin_11
def c_X_isWithin_7 : List eg_I := .inl (7, 3, .if_icmp .gt (7), 14, 0) :: c_X_isWithin_10
def c_X_isWithin_6 : List eg_I := .inl (6, 1, .iload 2, 0, 0) :: c_X_isWithin_7
def c_X_isWithin_5 : List eg_I := .inl (5, 1, .iload 0, 0, 0) :: c_X_isWithin_6
def c_X_isWithin_2 : List eg_I := .inl (2, 3, .if_icmp .lt (12), 14, 0) :: c_X_isWithin_5
def c_X_isWithin_1 : List eg_I := .inl (1, 1, .iload 1, 0, 0) :: c_X_isWithin_2
def c_X_isWithin_0 : List eg_I := .inl (0, 1, .iload 0, 0, 0) :: c_X_isWithin_1
section
variable {rm : Room} {K : Nat → Nat → Nat → eg_Lo → List Value → List eg_E → Prop} {Q : Option Value → List eg_E → Prop} {kc ks : Nat} {loc : eg_Lo} {st : List Value} {h : List eg_E}
theorem s_X_isWithin_0 {x : Int32} {l : eg_Lo} : wps rm K Q c_X_isWithin_0 kc ks (some (.int x) :: l) (st) h = wps rm K Q c_X_isWithin_1 kc ks (some (.int x) :: l) (.int x :: st) h := gk_iload rfl
theorem s_X_isWithin_1 {x : Int32} {l0 : Option Value} {l : eg_Lo} : wps rm K Q c_X_isWithin_1 kc ks (l0 :: some (.int x) :: l) (st) h = wps rm K Q c_X_isWithin_2 kc ks (l0 :: some (.int x) :: l) (.int x :: st) h := gk_iload rfl
theorem s_X_isWithin_2 {x y : Int32} : wps rm K Q c_X_isWithin_2 kc ks loc (.int y :: .int x :: st) h = ((x < y → K 14 kc ks loc st h) ∧ (¬ x < y → wps rm K Q c_X_isWithin_5 kc ks loc (st) h)) := gk_if2_lt
theorem s_X_isWithin_5 {x : Int32} {l : eg_Lo} : wps rm K Q c_X_isWithin_5 kc ks (some (.int x) :: l) (st) h = wps rm K Q c_X_isWithin_6 kc ks (some (.int x) :: l) (.int x :: st) h := gk_iload rfl
theorem s_X_isWithin_6 {x : Int32} {l0 l1 : Option Value} {l : eg_Lo} : wps rm K Q c_X_isWithin_6 kc ks (l0 :: l1 :: some (.int x) :: l) (st) h = wps rm K Q c_X_isWithin_7 kc ks (l0 :: l1 :: some (.int x) :: l) (.int x :: st) h := gk_iload rfl
theorem s_X_isWithin_7 {x y : Int32} : wps rm K Q c_X_isWithin_7 kc ks loc (.int y :: .int x :: st) h = ((y < x → K 14 kc ks loc st h) ∧ (¬ y < x → wps rm K Q c_X_isWithin_10 kc ks loc (st) h)) := gk_if2_gt
theorem s_X_isWithin_10  : wps rm K Q c_X_isWithin_10 kc ks loc (st) h = wps rm K Q c_X_isWithin_11 kc ks loc (.int (1) :: st) h := gk_ic (by decide)
theorem s_X_isWithin_11  : wps rm K Q c_X_isWithin_11 kc ks loc (st) h = K 15 kc ks loc st h := gk_goto
theorem s_X_isWithin_14  : wps rm K Q c_X_isWithin_14 kc ks loc (st) h = wps rm K Q c_X_isWithin_15 kc ks loc (.int (0) :: st) h := gk_ic (by decide)
theorem s_X_isWithin_15 {x : Int32} : wps rm K Q c_X_isWithin_15 kc ks loc ([.int x]) h = (kc = rm.cells ∧ ((1 : Nat) = 1 → x = 0 ∨ x = 1) ∧ Q (some (.int x)) h) := gk_iret
def T_X_isWithin : List (Nat × List eg_I) := [(14, c_X_isWithin_14), (15, c_X_isWithin_15)]
theorem j_X_isWithin_14 {R : Nat → Nat → Nat → eg_Lo → List Value → List eg_E → Prop} {f pc0 : Nat} : eg_run rm R Q T_X_isWithin (f + 1) 14 kc ks loc st h = wps rm (eg_run rm R Q T_X_isWithin f) Q c_X_isWithin_14 kc ks loc st h := rfl
theorem j_X_isWithin_15 {R : Nat → Nat → Nat → eg_Lo → List Value → List eg_E → Prop} {f pc0 : Nat} : eg_run rm R Q T_X_isWithin (f + 1) 15 kc ks loc st h = wps rm (eg_run rm R Q T_X_isWithin f) Q c_X_isWithin_15 kc ks loc st h := rfl
end
theorem y_X_isWithin_0 : eg_seq m_X_isWithin 0 c_X_isWithin_0 = true := by decide +kernel
theorem y_X_isWithin_14 : eg_seq m_X_isWithin 14 c_X_isWithin_14 = true := by decide +kernel
theorem q_X_isWithin : ∀ q ∈ T_X_isWithin, eg_seq m_X_isWithin q.1 q.2 = true := by
  intro q hq
  simp only [T_X_isWithin, List.mem_cons, List.not_mem_nil, or_false] at hq
  rcases hq with rfl | rfl
  · exact y_X_isWithin_14
  · exact (eg_seq_drop y_X_isWithin_14 1 : eg_seq m_X_isWithin 15 c_X_isWithin_15 = true)
theorem b_X_isWithin {as : List Value} {h : List eg_E} {Q : Option Value → List eg_E → Prop} (hf : (eg_fl as).length ≤ 3) (hw : wps (eg_rm m_X_isWithin) (eg_run (eg_rm m_X_isWithin) (eg_R m_X_isWithin Q (h.length + 0)) Q T_X_isWithin 4) Q c_X_isWithin_0 0 0 (eg_entry 3 as) [] h) : eg_Runs n_X_isWithin as h Q := eg_begin2 (d := m_X_isWithin) rfl (by decide) y_X_isWithin_0 q_X_isWithin hf hw
/-! ===== X_isPlace ===== -/
def c_X_isPlace_31 : List eg_I := .inl (31, 1, .ireturn, 0, 1) :: []
def c_X_isPlace_30 : List eg_I := .inl (30, 1, .iconst (0), 0, 0) :: c_X_isPlace_31
def c_X_isPlace_27 : List eg_I := .inl (27, 3, .goto (4), 31, 0) :: []
def c_X_isPlace_26 : List eg_I := .inl (26, 1, .iconst (1), 0, 0) :: c_X_isPlace_27
def c_X_isPlace_23 : List eg_I := .inl (23, 3, .ifCond .eq (7), 30, 0) :: c_X_isPlace_26
def c_X_isPlace_20 : List eg_I := .inr (20, 0, 80, n_X_isWithin, 3, 11, 0, 0) :: c_X_isPlace_23
def c_X_isPlace_17 : List eg_I := .inl (17, 3, .iconst (300), 0, 0) :: c_X_isPlace_20
def c_X_isPlace_14 : List eg_I := .inl (14, 3, .iconst (-300), 0, 0) :: c_X_isPlace_17
def c_X_isPlace_13 : List eg_I := .inl (13, 1, .iload 1, 0, 0) :: c_X_isPlace_14
def c_X_isPlace_10 : List eg_I := .inl (10, 3, .ifCond .eq (20), 30, 0) :: c_X_isPlace_13
def c_X_isPlace_7 : List eg_I := .inr (7, 0, 80, n_X_isWithin, 3, 11, 0, 0) :: c_X_isPlace_10
def c_X_isPlace_4 : List eg_I := .inl (4, 3, .iconst (300), 0, 0) :: c_X_isPlace_7
def c_X_isPlace_1 : List eg_I := .inl (1, 3, .iconst (-300), 0, 0) :: c_X_isPlace_4
def c_X_isPlace_0 : List eg_I := .inl (0, 1, .iload 0, 0, 0) :: c_X_isPlace_1
section
variable {rm : Room} {K : Nat → Nat → Nat → eg_Lo → List Value → List eg_E → Prop} {Q : Option Value → List eg_E → Prop} {kc ks : Nat} {loc : eg_Lo} {st : List Value} {h : List eg_E}
theorem s_X_isPlace_0 {x : Int32} {l : eg_Lo} : wps rm K Q c_X_isPlace_0 kc ks (some (.int x) :: l) (st) h = wps rm K Q c_X_isPlace_1 kc ks (some (.int x) :: l) (.int x :: st) h := gk_iload rfl
theorem s_X_isPlace_1  : wps rm K Q c_X_isPlace_1 kc ks loc (st) h = wps rm K Q c_X_isPlace_4 kc ks loc (.int (-300) :: st) h := gk_ic (by decide)
theorem s_X_isPlace_4  : wps rm K Q c_X_isPlace_4 kc ks loc (st) h = wps rm K Q c_X_isPlace_7 kc ks loc (.int (300) :: st) h := gk_ic (by decide)
theorem s_X_isPlace_7  {a1 : Value} {a2 : Value} {a3 : Value} : wps rm K Q c_X_isPlace_7 kc ks loc (a3 :: a2 :: a1 :: st) h = (st.length ≤ 4 ∧ eg_Cs n_X_isWithin [a1, a2, a3] h (fun v h9 => wps rm K Q c_X_isPlace_10 kc ks loc (v.toList ++ st) h9)) := eg_c0_3
theorem s_X_isPlace_10 {x : Int32} : wps rm K Q c_X_isPlace_10 kc ks loc (.int x :: st) h = ((x = 0 → K 30 kc ks loc st h) ∧ (¬ x = 0 → wps rm K Q c_X_isPlace_13 kc ks loc (st) h)) := gk_if1_eq
theorem s_X_isPlace_13 {x : Int32} {l0 : Option Value} {l : eg_Lo} : wps rm K Q c_X_isPlace_13 kc ks (l0 :: some (.int x) :: l) (st) h = wps rm K Q c_X_isPlace_14 kc ks (l0 :: some (.int x) :: l) (.int x :: st) h := gk_iload rfl
theorem s_X_isPlace_14  : wps rm K Q c_X_isPlace_14 kc ks loc (st) h = wps rm K Q c_X_isPlace_17 kc ks loc (.int (-300) :: st) h := gk_ic (by decide)
theorem s_X_isPlace_17  : wps rm K Q c_X_isPlace_17 kc ks loc (st) h = wps rm K Q c_X_isPlace_20 kc ks loc (.int (300) :: st) h := gk_ic (by decide)
theorem s_X_isPlace_20  {a1 : Value} {a2 : Value} {a3 : Value} : wps rm K Q c_X_isPlace_20 kc ks loc (a3 :: a2 :: a1 :: st) h = (st.length ≤ 4 ∧ eg_Cs n_X_isWithin [a1, a2, a3] h (fun v h9 => wps rm K Q c_X_isPlace_23 kc ks loc (v.toList ++ st) h9)) := eg_c0_3
theorem s_X_isPlace_23 {x : Int32} : wps rm K Q c_X_isPlace_23 kc ks loc (.int x :: st) h = ((x = 0 → K 30 kc ks loc st h) ∧ (¬ x = 0 → wps rm K Q c_X_isPlace_26 kc ks loc (st) h)) := gk_if1_eq
theorem s_X_isPlace_26  : wps rm K Q c_X_isPlace_26 kc ks loc (st) h = wps rm K Q c_X_isPlace_27 kc ks loc (.int (1) :: st) h := gk_ic (by decide)
theorem s_X_isPlace_27  : wps rm K Q c_X_isPlace_27 kc ks loc (st) h = K 31 kc ks loc st h := gk_goto
theorem s_X_isPlace_30  : wps rm K Q c_X_isPlace_30 kc ks loc (st) h = wps rm K Q c_X_isPlace_31 kc ks loc (.int (0) :: st) h := gk_ic (by decide)
theorem s_X_isPlace_31 {x : Int32} : wps rm K Q c_X_isPlace_31 kc ks loc ([.int x]) h = (kc = rm.cells ∧ ((1 : Nat) = 1 → x = 0 ∨ x = 1) ∧ Q (some (.int x)) h) := gk_iret
def T_X_isPlace : List (Nat × List eg_I) := [(30, c_X_isPlace_30), (31, c_X_isPlace_31)]
theorem j_X_isPlace_30 {R : Nat → Nat → Nat → eg_Lo → List Value → List eg_E → Prop} {f pc0 : Nat} : eg_run rm R Q T_X_isPlace (f + 1) 30 kc ks loc st h = wps rm (eg_run rm R Q T_X_isPlace f) Q c_X_isPlace_30 kc ks loc st h := rfl
theorem j_X_isPlace_31 {R : Nat → Nat → Nat → eg_Lo → List Value → List eg_E → Prop} {f pc0 : Nat} : eg_run rm R Q T_X_isPlace (f + 1) 31 kc ks loc st h = wps rm (eg_run rm R Q T_X_isPlace f) Q c_X_isPlace_31 kc ks loc st h := rfl
end
theorem y_X_isPlace_0 : eg_seq m_X_isPlace 0 c_X_isPlace_0 = true := by decide +kernel
theorem y_X_isPlace_30 : eg_seq m_X_isPlace 30 c_X_isPlace_30 = true := by decide +kernel
theorem q_X_isPlace : ∀ q ∈ T_X_isPlace, eg_seq m_X_isPlace q.1 q.2 = true := by
  intro q hq
  simp only [T_X_isPlace, List.mem_cons, List.not_mem_nil, or_false] at hq
  rcases hq with rfl | rfl
  · exact y_X_isPlace_30
  · exact (eg_seq_drop y_X_isPlace_30 1 : eg_seq m_X_isPlace 31 c_X_isPlace_31 = true)
theorem b_X_isPlace {as : List Value} {h : List eg_E} {Q : Option Value → List eg_E → Prop} (hf : (eg_fl as).length ≤ 2) (hw : wps (eg_rm m_X_isPlace) (eg_run (eg_rm m_X_isPlace) (eg_R m_X_isPlace Q (h.length + 0)) Q T_X_isPlace 4) Q c_X_isPlace_0 0 0 (eg_entry 2 as) [] h) : eg_Runs n_X_isPlace as h Q := eg_begin2 (d := m_X_isPlace) rfl (by decide) y_X_isPlace_0 q_X_isPlace hf hw
/-! ===== X_isDirection ===== -/
def c_X_isDirection_38 : List eg_I := .inl (38, 1, .ireturn, 0, 1) :: []
def c_X_isDirection_37 : List eg_I := .inl (37, 1, .iconst (0), 0, 0) :: c_X_isDirection_38
def c_X_isDirection_34 : List eg_I := .inl (34, 3, .goto (4), 38, 0) :: []
def c_X_isDirection_33 : List eg_I := .inl (33, 1, .iconst (1), 0, 0) :: c_X_isDirection_34
def c_X_isDirection_30 : List eg_I := .inl (30, 3, .ifCond .eq (7), 37, 0) :: c_X_isDirection_33
def c_X_isDirection_27 : List eg_I := .inr (27, 0, 80, n_X_isWithin, 3, 11, 0, 0) :: c_X_isDirection_30
def c_X_isDirection_25 : List eg_I := .inl (25, 2, .iconst (100), 0, 0) :: c_X_isDirection_27
def c_X_isDirection_23 : List eg_I := .inl (23, 2, .iconst (-100), 0, 0) :: c_X_isDirection_25
def c_X_isDirection_22 : List eg_I := .inl (22, 1, .iload 2, 0, 0) :: c_X_isDirection_23
def c_X_isDirection_19 : List eg_I := .inl (19, 3, .ifCond .eq (18), 37, 0) :: c_X_isDirection_22
def c_X_isDirection_16 : List eg_I := .inr (16, 0, 80, n_X_isWithin, 3, 11, 0, 0) :: c_X_isDirection_19
def c_X_isDirection_14 : List eg_I := .inl (14, 2, .iconst (100), 0, 0) :: c_X_isDirection_16
def c_X_isDirection_12 : List eg_I := .inl (12, 2, .iconst (-100), 0, 0) :: c_X_isDirection_14
def c_X_isDirection_11 : List eg_I := .inl (11, 1, .iload 1, 0, 0) :: c_X_isDirection_12
def c_X_isDirection_8 : List eg_I := .inl (8, 3, .ifCond .eq (29), 37, 0) :: c_X_isDirection_11
def c_X_isDirection_5 : List eg_I := .inr (5, 0, 80, n_X_isWithin, 3, 11, 0, 0) :: c_X_isDirection_8
def c_X_isDirection_3 : List eg_I := .inl (3, 2, .iconst (100), 0, 0) :: c_X_isDirection_5
def c_X_isDirection_1 : List eg_I := .inl (1, 2, .iconst (-100), 0, 0) :: c_X_isDirection_3
def c_X_isDirection_0 : List eg_I := .inl (0, 1, .iload 0, 0, 0) :: c_X_isDirection_1
section
variable {rm : Room} {K : Nat → Nat → Nat → eg_Lo → List Value → List eg_E → Prop} {Q : Option Value → List eg_E → Prop} {kc ks : Nat} {loc : eg_Lo} {st : List Value} {h : List eg_E}
theorem s_X_isDirection_0 {x : Int32} {l : eg_Lo} : wps rm K Q c_X_isDirection_0 kc ks (some (.int x) :: l) (st) h = wps rm K Q c_X_isDirection_1 kc ks (some (.int x) :: l) (.int x :: st) h := gk_iload rfl
theorem s_X_isDirection_1  : wps rm K Q c_X_isDirection_1 kc ks loc (st) h = wps rm K Q c_X_isDirection_3 kc ks loc (.int (-100) :: st) h := gk_ic (by decide)
theorem s_X_isDirection_3  : wps rm K Q c_X_isDirection_3 kc ks loc (st) h = wps rm K Q c_X_isDirection_5 kc ks loc (.int (100) :: st) h := gk_ic (by decide)
theorem s_X_isDirection_5  {a1 : Value} {a2 : Value} {a3 : Value} : wps rm K Q c_X_isDirection_5 kc ks loc (a3 :: a2 :: a1 :: st) h = (st.length ≤ 4 ∧ eg_Cs n_X_isWithin [a1, a2, a3] h (fun v h9 => wps rm K Q c_X_isDirection_8 kc ks loc (v.toList ++ st) h9)) := eg_c0_3
theorem s_X_isDirection_8 {x : Int32} : wps rm K Q c_X_isDirection_8 kc ks loc (.int x :: st) h = ((x = 0 → K 37 kc ks loc st h) ∧ (¬ x = 0 → wps rm K Q c_X_isDirection_11 kc ks loc (st) h)) := gk_if1_eq
theorem s_X_isDirection_11 {x : Int32} {l0 : Option Value} {l : eg_Lo} : wps rm K Q c_X_isDirection_11 kc ks (l0 :: some (.int x) :: l) (st) h = wps rm K Q c_X_isDirection_12 kc ks (l0 :: some (.int x) :: l) (.int x :: st) h := gk_iload rfl
theorem s_X_isDirection_12  : wps rm K Q c_X_isDirection_12 kc ks loc (st) h = wps rm K Q c_X_isDirection_14 kc ks loc (.int (-100) :: st) h := gk_ic (by decide)
theorem s_X_isDirection_14  : wps rm K Q c_X_isDirection_14 kc ks loc (st) h = wps rm K Q c_X_isDirection_16 kc ks loc (.int (100) :: st) h := gk_ic (by decide)
theorem s_X_isDirection_16  {a1 : Value} {a2 : Value} {a3 : Value} : wps rm K Q c_X_isDirection_16 kc ks loc (a3 :: a2 :: a1 :: st) h = (st.length ≤ 4 ∧ eg_Cs n_X_isWithin [a1, a2, a3] h (fun v h9 => wps rm K Q c_X_isDirection_19 kc ks loc (v.toList ++ st) h9)) := eg_c0_3
theorem s_X_isDirection_19 {x : Int32} : wps rm K Q c_X_isDirection_19 kc ks loc (.int x :: st) h = ((x = 0 → K 37 kc ks loc st h) ∧ (¬ x = 0 → wps rm K Q c_X_isDirection_22 kc ks loc (st) h)) := gk_if1_eq
theorem s_X_isDirection_22 {x : Int32} {l0 l1 : Option Value} {l : eg_Lo} : wps rm K Q c_X_isDirection_22 kc ks (l0 :: l1 :: some (.int x) :: l) (st) h = wps rm K Q c_X_isDirection_23 kc ks (l0 :: l1 :: some (.int x) :: l) (.int x :: st) h := gk_iload rfl
theorem s_X_isDirection_23  : wps rm K Q c_X_isDirection_23 kc ks loc (st) h = wps rm K Q c_X_isDirection_25 kc ks loc (.int (-100) :: st) h := gk_ic (by decide)
theorem s_X_isDirection_25  : wps rm K Q c_X_isDirection_25 kc ks loc (st) h = wps rm K Q c_X_isDirection_27 kc ks loc (.int (100) :: st) h := gk_ic (by decide)
theorem s_X_isDirection_27  {a1 : Value} {a2 : Value} {a3 : Value} : wps rm K Q c_X_isDirection_27 kc ks loc (a3 :: a2 :: a1 :: st) h = (st.length ≤ 4 ∧ eg_Cs n_X_isWithin [a1, a2, a3] h (fun v h9 => wps rm K Q c_X_isDirection_30 kc ks loc (v.toList ++ st) h9)) := eg_c0_3
theorem s_X_isDirection_30 {x : Int32} : wps rm K Q c_X_isDirection_30 kc ks loc (.int x :: st) h = ((x = 0 → K 37 kc ks loc st h) ∧ (¬ x = 0 → wps rm K Q c_X_isDirection_33 kc ks loc (st) h)) := gk_if1_eq
theorem s_X_isDirection_33  : wps rm K Q c_X_isDirection_33 kc ks loc (st) h = wps rm K Q c_X_isDirection_34 kc ks loc (.int (1) :: st) h := gk_ic (by decide)
theorem s_X_isDirection_34  : wps rm K Q c_X_isDirection_34 kc ks loc (st) h = K 38 kc ks loc st h := gk_goto
theorem s_X_isDirection_37  : wps rm K Q c_X_isDirection_37 kc ks loc (st) h = wps rm K Q c_X_isDirection_38 kc ks loc (.int (0) :: st) h := gk_ic (by decide)
theorem s_X_isDirection_38 {x : Int32} : wps rm K Q c_X_isDirection_38 kc ks loc ([.int x]) h = (kc = rm.cells ∧ ((1 : Nat) = 1 → x = 0 ∨ x = 1) ∧ Q (some (.int x)) h) := gk_iret
def T_X_isDirection : List (Nat × List eg_I) := [(37, c_X_isDirection_37), (38, c_X_isDirection_38)]
theorem j_X_isDirection_37 {R : Nat → Nat → Nat → eg_Lo → List Value → List eg_E → Prop} {f pc0 : Nat} : eg_run rm R Q T_X_isDirection (f + 1) 37 kc ks loc st h = wps rm (eg_run rm R Q T_X_isDirection f) Q c_X_isDirection_37 kc ks loc st h := rfl
theorem j_X_isDirection_38 {R : Nat → Nat → Nat → eg_Lo → List Value → List eg_E → Prop} {f pc0 : Nat} : eg_run rm R Q T_X_isDirection (f + 1) 38 kc ks loc st h = wps rm (eg_run rm R Q T_X_isDirection f) Q c_X_isDirection_38 kc ks loc st h := rfl
end
theorem y_X_isDirection_0 : eg_seq m_X_isDirection 0 c_X_isDirection_0 = true := by decide +kernel
theorem y_X_isDirection_37 : eg_seq m_X_isDirection 37 c_X_isDirection_37 = true := by decide +kernel
theorem q_X_isDirection : ∀ q ∈ T_X_isDirection, eg_seq m_X_isDirection q.1 q.2 = true := by
  intro q hq
  simp only [T_X_isDirection, List.mem_cons, List.not_mem_nil, or_false] at hq
  rcases hq with rfl | rfl
  · exact y_X_isDirection_37
  · exact (eg_seq_drop y_X_isDirection_37 1 : eg_seq m_X_isDirection 38 c_X_isDirection_38 = true)
theorem b_X_isDirection {as : List Value} {h : List eg_E} {Q : Option Value → List eg_E → Prop} (hf : (eg_fl as).length ≤ 3) (hw : wps (eg_rm m_X_isDirection) (eg_run (eg_rm m_X_isDirection) (eg_R m_X_isDirection Q (h.length + 0)) Q T_X_isDirection 4) Q c_X_isDirection_0 0 0 (eg_entry 3 as) [] h) : eg_Runs n_X_isDirection as h Q := eg_begin2 (d := m_X_isDirection) rfl (by decide) y_X_isDirection_0 q_X_isDirection hf hw
/-! ===== X_isBoxSide ===== -/
def c_X_isBoxSide_38 : List eg_I := .inl (38, 1, .ireturn, 0, 1) :: []
def c_X_isBoxSide_37 : List eg_I := .inl (37, 1, .iconst (0), 0, 0) :: c_X_isBoxSide_38
def c_X_isBoxSide_34 : List eg_I := .inl (34, 3, .goto (4), 38, 0) :: []
def c_X_isBoxSide_33 : List eg_I := .inl (33, 1, .iconst (1), 0, 0) :: c_X_isBoxSide_34
def c_X_isBoxSide_30 : List eg_I := .inl (30, 3, .if_icmp .gt (7), 37, 0) :: c_X_isBoxSide_33
def c_X_isBoxSide_27 : List eg_I := .inl (27, 3, .iconst (300), 0, 0) :: c_X_isBoxSide_30
def c_X_isBoxSide_26 : List eg_I := .inl (26, 1, .iadd, 0, 0) :: c_X_isBoxSide_27
def c_X_isBoxSide_25 : List eg_I := .inl (25, 1, .iload 1, 0, 0) :: c_X_isBoxSide_26
def c_X_isBoxSide_24 : List eg_I := .inl (24, 1, .iload 0, 0, 0) :: c_X_isBoxSide_25
def c_X_isBoxSide_21 : List eg_I := .inl (21, 3, .ifCond .eq (16), 37, 0) :: c_X_isBoxSide_24
def c_X_isBoxSide_18 : List eg_I := .inr (18, 0, 80, n_X_isWithin, 3, 11, 0, 0) :: c_X_isBoxSide_21
def c_X_isBoxSide_15 : List eg_I := .inl (15, 3, .iconst (300), 0, 0) :: c_X_isBoxSide_18
def c_X_isBoxSide_14 : List eg_I := .inl (14, 1, .iconst (1), 0, 0) :: c_X_isBoxSide_15
def c_X_isBoxSide_13 : List eg_I := .inl (13, 1, .iload 1, 0, 0) :: c_X_isBoxSide_14
def c_X_isBoxSide_10 : List eg_I := .inl (10, 3, .ifCond .eq (27), 37, 0) :: c_X_isBoxSide_13
def c_X_isBoxSide_7 : List eg_I := .inr (7, 0, 80, n_X_isWithin, 3, 11, 0, 0) :: c_X_isBoxSide_10
def c_X_isBoxSide_4 : List eg_I := .inl (4, 3, .iconst (300), 0, 0) :: c_X_isBoxSide_7
def c_X_isBoxSide_1 : List eg_I := .inl (1, 3, .iconst (-300), 0, 0) :: c_X_isBoxSide_4
def c_X_isBoxSide_0 : List eg_I := .inl (0, 1, .iload 0, 0, 0) :: c_X_isBoxSide_1
section
variable {rm : Room} {K : Nat → Nat → Nat → eg_Lo → List Value → List eg_E → Prop} {Q : Option Value → List eg_E → Prop} {kc ks : Nat} {loc : eg_Lo} {st : List Value} {h : List eg_E}
theorem s_X_isBoxSide_0 {x : Int32} {l : eg_Lo} : wps rm K Q c_X_isBoxSide_0 kc ks (some (.int x) :: l) (st) h = wps rm K Q c_X_isBoxSide_1 kc ks (some (.int x) :: l) (.int x :: st) h := gk_iload rfl
theorem s_X_isBoxSide_1  : wps rm K Q c_X_isBoxSide_1 kc ks loc (st) h = wps rm K Q c_X_isBoxSide_4 kc ks loc (.int (-300) :: st) h := gk_ic (by decide)
theorem s_X_isBoxSide_4  : wps rm K Q c_X_isBoxSide_4 kc ks loc (st) h = wps rm K Q c_X_isBoxSide_7 kc ks loc (.int (300) :: st) h := gk_ic (by decide)
theorem s_X_isBoxSide_7  {a1 : Value} {a2 : Value} {a3 : Value} : wps rm K Q c_X_isBoxSide_7 kc ks loc (a3 :: a2 :: a1 :: st) h = (st.length ≤ 4 ∧ eg_Cs n_X_isWithin [a1, a2, a3] h (fun v h9 => wps rm K Q c_X_isBoxSide_10 kc ks loc (v.toList ++ st) h9)) := eg_c0_3
theorem s_X_isBoxSide_10 {x : Int32} : wps rm K Q c_X_isBoxSide_10 kc ks loc (.int x :: st) h = ((x = 0 → K 37 kc ks loc st h) ∧ (¬ x = 0 → wps rm K Q c_X_isBoxSide_13 kc ks loc (st) h)) := gk_if1_eq
theorem s_X_isBoxSide_13 {x : Int32} {l0 : Option Value} {l : eg_Lo} : wps rm K Q c_X_isBoxSide_13 kc ks (l0 :: some (.int x) :: l) (st) h = wps rm K Q c_X_isBoxSide_14 kc ks (l0 :: some (.int x) :: l) (.int x :: st) h := gk_iload rfl
theorem s_X_isBoxSide_14  : wps rm K Q c_X_isBoxSide_14 kc ks loc (st) h = wps rm K Q c_X_isBoxSide_15 kc ks loc (.int (1) :: st) h := gk_ic (by decide)
theorem s_X_isBoxSide_15  : wps rm K Q c_X_isBoxSide_15 kc ks loc (st) h = wps rm K Q c_X_isBoxSide_18 kc ks loc (.int (300) :: st) h := gk_ic (by decide)
theorem s_X_isBoxSide_18  {a1 : Value} {a2 : Value} {a3 : Value} : wps rm K Q c_X_isBoxSide_18 kc ks loc (a3 :: a2 :: a1 :: st) h = (st.length ≤ 4 ∧ eg_Cs n_X_isWithin [a1, a2, a3] h (fun v h9 => wps rm K Q c_X_isBoxSide_21 kc ks loc (v.toList ++ st) h9)) := eg_c0_3
theorem s_X_isBoxSide_21 {x : Int32} : wps rm K Q c_X_isBoxSide_21 kc ks loc (.int x :: st) h = ((x = 0 → K 37 kc ks loc st h) ∧ (¬ x = 0 → wps rm K Q c_X_isBoxSide_24 kc ks loc (st) h)) := gk_if1_eq
theorem s_X_isBoxSide_24 {x : Int32} {l : eg_Lo} : wps rm K Q c_X_isBoxSide_24 kc ks (some (.int x) :: l) (st) h = wps rm K Q c_X_isBoxSide_25 kc ks (some (.int x) :: l) (.int x :: st) h := gk_iload rfl
theorem s_X_isBoxSide_25 {x : Int32} {l0 : Option Value} {l : eg_Lo} : wps rm K Q c_X_isBoxSide_25 kc ks (l0 :: some (.int x) :: l) (st) h = wps rm K Q c_X_isBoxSide_26 kc ks (l0 :: some (.int x) :: l) (.int x :: st) h := gk_iload rfl
theorem s_X_isBoxSide_26 {x y : Int32} : wps rm K Q c_X_isBoxSide_26 kc ks loc (.int y :: .int x :: st) h = wps rm K Q c_X_isBoxSide_27 kc ks loc (.int (x + y) :: st) h := gk_iadd
theorem s_X_isBoxSide_27  : wps rm K Q c_X_isBoxSide_27 kc ks loc (st) h = wps rm K Q c_X_isBoxSide_30 kc ks loc (.int (300) :: st) h := gk_ic (by decide)
theorem s_X_isBoxSide_30 {x y : Int32} : wps rm K Q c_X_isBoxSide_30 kc ks loc (.int y :: .int x :: st) h = ((y < x → K 37 kc ks loc st h) ∧ (¬ y < x → wps rm K Q c_X_isBoxSide_33 kc ks loc (st) h)) := gk_if2_gt
theorem s_X_isBoxSide_33  : wps rm K Q c_X_isBoxSide_33 kc ks loc (st) h = wps rm K Q c_X_isBoxSide_34 kc ks loc (.int (1) :: st) h := gk_ic (by decide)
theorem s_X_isBoxSide_34  : wps rm K Q c_X_isBoxSide_34 kc ks loc (st) h = K 38 kc ks loc st h := gk_goto
theorem s_X_isBoxSide_37  : wps rm K Q c_X_isBoxSide_37 kc ks loc (st) h = wps rm K Q c_X_isBoxSide_38 kc ks loc (.int (0) :: st) h := gk_ic (by decide)
theorem s_X_isBoxSide_38 {x : Int32} : wps rm K Q c_X_isBoxSide_38 kc ks loc ([.int x]) h = (kc = rm.cells ∧ ((1 : Nat) = 1 → x = 0 ∨ x = 1) ∧ Q (some (.int x)) h) := gk_iret
def T_X_isBoxSide : List (Nat × List eg_I) := [(37, c_X_isBoxSide_37), (38, c_X_isBoxSide_38)]
theorem j_X_isBoxSide_37 {R : Nat → Nat → Nat → eg_Lo → List Value → List eg_E → Prop} {f pc0 : Nat} : eg_run rm R Q T_X_isBoxSide (f + 1) 37 kc ks loc st h = wps rm (eg_run rm R Q T_X_isBoxSide f) Q c_X_isBoxSide_37 kc ks loc st h := rfl
theorem j_X_isBoxSide_38 {R : Nat → Nat → Nat → eg_Lo → List Value → List eg_E → Prop} {f pc0 : Nat} : eg_run rm R Q T_X_isBoxSide (f + 1) 38 kc ks loc st h = wps rm (eg_run rm R Q T_X_isBoxSide f) Q c_X_isBoxSide_38 kc ks loc st h := rfl
end
theorem y_X_isBoxSide_0 : eg_seq m_X_isBoxSide 0 c_X_isBoxSide_0 = true := by decide +kernel
theorem y_X_isBoxSide_37 : eg_seq m_X_isBoxSide 37 c_X_isBoxSide_37 = true := by decide +kernel
theorem q_X_isBoxSide : ∀ q ∈ T_X_isBoxSide, eg_seq m_X_isBoxSide q.1 q.2 = true := by
  intro q hq
  simp only [T_X_isBoxSide, List.mem_cons, List.not_mem_nil, or_false] at hq
  rcases hq with rfl | rfl
  · exact y_X_isBoxSide_37
  · exact (eg_seq_drop y_X_isBoxSide_37 1 : eg_seq m_X_isBoxSide 38 c_X_isBoxSide_38 = true)
theorem b_X_isBoxSide {as : List Value} {h : List eg_E} {Q : Option Value → List eg_E → Prop} (hf : (eg_fl as).length ≤ 2) (hw : wps (eg_rm m_X_isBoxSide) (eg_run (eg_rm m_X_isBoxSide) (eg_R m_X_isBoxSide Q (h.length + 0)) Q T_X_isBoxSide 4) Q c_X_isBoxSide_0 0 0 (eg_entry 2 as) [] h) : eg_Runs n_X_isBoxSide as h Q := eg_begin2 (d := m_X_isBoxSide) rfl (by decide) y_X_isBoxSide_0 q_X_isBoxSide hf hw
/-! ===== X_isPart ===== -/
def c_X_isPart_6 : List eg_I := .inl (6, 1, .ireturn, 0, 1) :: []
def c_X_isPart_3 : List eg_I := .inr (3, 0, 80, n_X_isWithin, 3, 11, 0, 0) :: c_X_isPart_6
def c_X_isPart_2 : List eg_I := .inl (2, 1, .iconst (3), 0, 0) :: c_X_isPart_3
def c_X_isPart_1 : List eg_I := .inl (1, 1, .iconst (0), 0, 0) :: c_X_isPart_2
def c_X_isPart_0 : List eg_I := .inl (0, 1, .iload 0, 0, 0) :: c_X_isPart_1
section
variable {rm : Room} {K : Nat → Nat → Nat → eg_Lo → List Value → List eg_E → Prop} {Q : Option Value → List eg_E → Prop} {kc ks : Nat} {loc : eg_Lo} {st : List Value} {h : List eg_E}
theorem s_X_isPart_0 {x : Int32} {l : eg_Lo} : wps rm K Q c_X_isPart_0 kc ks (some (.int x) :: l) (st) h = wps rm K Q c_X_isPart_1 kc ks (some (.int x) :: l) (.int x :: st) h := gk_iload rfl
theorem s_X_isPart_1  : wps rm K Q c_X_isPart_1 kc ks loc (st) h = wps rm K Q c_X_isPart_2 kc ks loc (.int (0) :: st) h := gk_ic (by decide)
theorem s_X_isPart_2  : wps rm K Q c_X_isPart_2 kc ks loc (st) h = wps rm K Q c_X_isPart_3 kc ks loc (.int (3) :: st) h := gk_ic (by decide)
theorem s_X_isPart_3  {a1 : Value} {a2 : Value} {a3 : Value} : wps rm K Q c_X_isPart_3 kc ks loc (a3 :: a2 :: a1 :: st) h = (st.length ≤ 4 ∧ eg_Cs n_X_isWithin [a1, a2, a3] h (fun v h9 => wps rm K Q c_X_isPart_6 kc ks loc (v.toList ++ st) h9)) := eg_c0_3
theorem s_X_isPart_6 {x : Int32} : wps rm K Q c_X_isPart_6 kc ks loc ([.int x]) h = (kc = rm.cells ∧ ((1 : Nat) = 1 → x = 0 ∨ x = 1) ∧ Q (some (.int x)) h) := gk_iret
def T_X_isPart : List (Nat × List eg_I) := []
end
theorem y_X_isPart_0 : eg_seq m_X_isPart 0 c_X_isPart_0 = true := by decide +kernel
theorem q_X_isPart : ∀ q ∈ T_X_isPart, eg_seq m_X_isPart q.1 q.2 = true := by
  intro q hq
  cases hq
theorem b_X_isPart {as : List Value} {h : List eg_E} {Q : Option Value → List eg_E → Prop} (hf : (eg_fl as).length ≤ 1) (hw : wps (eg_rm m_X_isPart) (eg_run (eg_rm m_X_isPart) (eg_R m_X_isPart Q (h.length + 0)) Q T_X_isPart 2) Q c_X_isPart_0 0 0 (eg_entry 1 as) [] h) : eg_Runs n_X_isPart as h Q := eg_begin2 (d := m_X_isPart) rfl (by decide) y_X_isPart_0 q_X_isPart hf hw
/-! ===== X_isSheet ===== -/
def c_X_isSheet_6 : List eg_I := .inl (6, 1, .ireturn, 0, 1) :: []
def c_X_isSheet_3 : List eg_I := .inr (3, 0, 80, n_X_isWithin, 3, 11, 0, 0) :: c_X_isSheet_6
def c_X_isSheet_2 : List eg_I := .inl (2, 1, .iconst (3), 0, 0) :: c_X_isSheet_3
def c_X_isSheet_1 : List eg_I := .inl (1, 1, .iconst (0), 0, 0) :: c_X_isSheet_2
def c_X_isSheet_0 : List eg_I := .inl (0, 1, .iload 0, 0, 0) :: c_X_isSheet_1
section
variable {rm : Room} {K : Nat → Nat → Nat → eg_Lo → List Value → List eg_E → Prop} {Q : Option Value → List eg_E → Prop} {kc ks : Nat} {loc : eg_Lo} {st : List Value} {h : List eg_E}
theorem s_X_isSheet_0 {x : Int32} {l : eg_Lo} : wps rm K Q c_X_isSheet_0 kc ks (some (.int x) :: l) (st) h = wps rm K Q c_X_isSheet_1 kc ks (some (.int x) :: l) (.int x :: st) h := gk_iload rfl
theorem s_X_isSheet_1  : wps rm K Q c_X_isSheet_1 kc ks loc (st) h = wps rm K Q c_X_isSheet_2 kc ks loc (.int (0) :: st) h := gk_ic (by decide)
theorem s_X_isSheet_2  : wps rm K Q c_X_isSheet_2 kc ks loc (st) h = wps rm K Q c_X_isSheet_3 kc ks loc (.int (3) :: st) h := gk_ic (by decide)
theorem s_X_isSheet_3  {a1 : Value} {a2 : Value} {a3 : Value} : wps rm K Q c_X_isSheet_3 kc ks loc (a3 :: a2 :: a1 :: st) h = (st.length ≤ 4 ∧ eg_Cs n_X_isWithin [a1, a2, a3] h (fun v h9 => wps rm K Q c_X_isSheet_6 kc ks loc (v.toList ++ st) h9)) := eg_c0_3
theorem s_X_isSheet_6 {x : Int32} : wps rm K Q c_X_isSheet_6 kc ks loc ([.int x]) h = (kc = rm.cells ∧ ((1 : Nat) = 1 → x = 0 ∨ x = 1) ∧ Q (some (.int x)) h) := gk_iret
def T_X_isSheet : List (Nat × List eg_I) := []
end
theorem y_X_isSheet_0 : eg_seq m_X_isSheet 0 c_X_isSheet_0 = true := by decide +kernel
theorem q_X_isSheet : ∀ q ∈ T_X_isSheet, eg_seq m_X_isSheet q.1 q.2 = true := by
  intro q hq
  cases hq
theorem b_X_isSheet {as : List Value} {h : List eg_E} {Q : Option Value → List eg_E → Prop} (hf : (eg_fl as).length ≤ 1) (hw : wps (eg_rm m_X_isSheet) (eg_run (eg_rm m_X_isSheet) (eg_R m_X_isSheet Q (h.length + 0)) Q T_X_isSheet 2) Q c_X_isSheet_0 0 0 (eg_entry 1 as) [] h) : eg_Runs n_X_isSheet as h Q := eg_begin2 (d := m_X_isSheet) rfl (by decide) y_X_isSheet_0 q_X_isSheet hf hw
/-! ===== X_isFigure ===== -/
def c_X_isFigure_6 : List eg_I := .inl (6, 1, .ireturn, 0, 1) :: []
def c_X_isFigure_3 : List eg_I := .inr (3, 0, 80, n_X_isWithin, 3, 11, 0, 0) :: c_X_isFigure_6
def c_X_isFigure_2 : List eg_I := .inl (2, 1, .iconst (5), 0, 0) :: c_X_isFigure_3
def c_X_isFigure_1 : List eg_I := .inl (1, 1, .iconst (0), 0, 0) :: c_X_isFigure_2
def c_X_isFigure_0 : List eg_I := .inl (0, 1, .iload 0, 0, 0) :: c_X_isFigure_1
section
variable {rm : Room} {K : Nat → Nat → Nat → eg_Lo → List Value → List eg_E → Prop} {Q : Option Value → List eg_E → Prop} {kc ks : Nat} {loc : eg_Lo} {st : List Value} {h : List eg_E}
theorem s_X_isFigure_0 {x : Int32} {l : eg_Lo} : wps rm K Q c_X_isFigure_0 kc ks (some (.int x) :: l) (st) h = wps rm K Q c_X_isFigure_1 kc ks (some (.int x) :: l) (.int x :: st) h := gk_iload rfl
theorem s_X_isFigure_1  : wps rm K Q c_X_isFigure_1 kc ks loc (st) h = wps rm K Q c_X_isFigure_2 kc ks loc (.int (0) :: st) h := gk_ic (by decide)
theorem s_X_isFigure_2  : wps rm K Q c_X_isFigure_2 kc ks loc (st) h = wps rm K Q c_X_isFigure_3 kc ks loc (.int (5) :: st) h := gk_ic (by decide)
theorem s_X_isFigure_3  {a1 : Value} {a2 : Value} {a3 : Value} : wps rm K Q c_X_isFigure_3 kc ks loc (a3 :: a2 :: a1 :: st) h = (st.length ≤ 4 ∧ eg_Cs n_X_isWithin [a1, a2, a3] h (fun v h9 => wps rm K Q c_X_isFigure_6 kc ks loc (v.toList ++ st) h9)) := eg_c0_3
theorem s_X_isFigure_6 {x : Int32} : wps rm K Q c_X_isFigure_6 kc ks loc ([.int x]) h = (kc = rm.cells ∧ ((1 : Nat) = 1 → x = 0 ∨ x = 1) ∧ Q (some (.int x)) h) := gk_iret
def T_X_isFigure : List (Nat × List eg_I) := []
end
theorem y_X_isFigure_0 : eg_seq m_X_isFigure 0 c_X_isFigure_0 = true := by decide +kernel
theorem q_X_isFigure : ∀ q ∈ T_X_isFigure, eg_seq m_X_isFigure q.1 q.2 = true := by
  intro q hq
  cases hq
theorem b_X_isFigure {as : List Value} {h : List eg_E} {Q : Option Value → List eg_E → Prop} (hf : (eg_fl as).length ≤ 1) (hw : wps (eg_rm m_X_isFigure) (eg_run (eg_rm m_X_isFigure) (eg_R m_X_isFigure Q (h.length + 0)) Q T_X_isFigure 2) Q c_X_isFigure_0 0 0 (eg_entry 1 as) [] h) : eg_Runs n_X_isFigure as h Q := eg_begin2 (d := m_X_isFigure) rfl (by decide) y_X_isFigure_0 q_X_isFigure hf hw
/-! ===== X_isPoint ===== -/
def c_X_isPoint_31 : List eg_I := .inl (31, 1, .ireturn, 0, 1) :: []
def c_X_isPoint_30 : List eg_I := .inl (30, 1, .iconst (0), 0, 0) :: c_X_isPoint_31
def c_X_isPoint_27 : List eg_I := .inl (27, 3, .goto (4), 31, 0) :: []
def c_X_isPoint_26 : List eg_I := .inl (26, 1, .iconst (1), 0, 0) :: c_X_isPoint_27
def c_X_isPoint_23 : List eg_I := .inl (23, 3, .ifCond .eq (7), 30, 0) :: c_X_isPoint_26
def c_X_isPoint_20 : List eg_I := .inr (20, 0, 80, n_X_isWithin, 3, 11, 0, 0) :: c_X_isPoint_23
def c_X_isPoint_19 : List eg_I := .inl (19, 1, .isub, 0, 0) :: c_X_isPoint_20
def c_X_isPoint_18 : List eg_I := .inl (18, 1, .iconst (1), 0, 0) :: c_X_isPoint_19
def c_X_isPoint_15 : List eg_I := .inl (15, 3, .getfield 128, 8, 4) :: c_X_isPoint_18
def c_X_isPoint_14 : List eg_I := .inl (14, 1, .aaload, 0, 0) :: c_X_isPoint_15
def c_X_isPoint_13 : List eg_I := .inl (13, 1, .iload 1, 0, 0) :: c_X_isPoint_14
def c_X_isPoint_10 : List eg_I := .inl (10, 3, .getfield 11, 11, 0) :: c_X_isPoint_13
def c_X_isPoint_9 : List eg_I := .inl (9, 1, .aload 0, 0, 0) :: c_X_isPoint_10
def c_X_isPoint_8 : List eg_I := .inl (8, 1, .iconst (0), 0, 0) :: c_X_isPoint_9
def c_X_isPoint_7 : List eg_I := .inl (7, 1, .iload 2, 0, 0) :: c_X_isPoint_8
def c_X_isPoint_4 : List eg_I := .inl (4, 3, .ifCond .eq (26), 30, 0) :: c_X_isPoint_7
def c_X_isPoint_1 : List eg_I := .inr (1, 0, 72, n_X_isPart, 1, 11, 0, 0) :: c_X_isPoint_4
def c_X_isPoint_0 : List eg_I := .inl (0, 1, .iload 1, 0, 0) :: c_X_isPoint_1
section
variable {rm : Room} {K : Nat → Nat → Nat → eg_Lo → List Value → List eg_E → Prop} {Q : Option Value → List eg_E → Prop} {kc ks : Nat} {loc : eg_Lo} {st : List Value} {h : List eg_E}
theorem s_X_isPoint_0 {x : Int32} {l0 : Option Value} {l : eg_Lo} : wps rm K Q c_X_isPoint_0 kc ks (l0 :: some (.int x) :: l) (st) h = wps rm K Q c_X_isPoint_1 kc ks (l0 :: some (.int x) :: l) (.int x :: st) h := gk_iload rfl
theorem s_X_isPoint_1  {a1 : Value} : wps rm K Q c_X_isPoint_1 kc ks loc (a1 :: st) h = (st.length ≤ 4 ∧ eg_Cs n_X_isPart [a1] h (fun v h9 => wps rm K Q c_X_isPoint_4 kc ks loc (v.toList ++ st) h9)) := eg_c0_1
theorem s_X_isPoint_4 {x : Int32} : wps rm K Q c_X_isPoint_4 kc ks loc (.int x :: st) h = ((x = 0 → K 30 kc ks loc st h) ∧ (¬ x = 0 → wps rm K Q c_X_isPoint_7 kc ks loc (st) h)) := gk_if1_eq
theorem s_X_isPoint_7 {x : Int32} {l0 l1 : Option Value} {l : eg_Lo} : wps rm K Q c_X_isPoint_7 kc ks (l0 :: l1 :: some (.int x) :: l) (st) h = wps rm K Q c_X_isPoint_8 kc ks (l0 :: l1 :: some (.int x) :: l) (.int x :: st) h := gk_iload rfl
theorem s_X_isPoint_8  : wps rm K Q c_X_isPoint_8 kc ks loc (st) h = wps rm K Q c_X_isPoint_9 kc ks loc (.int (0) :: st) h := gk_ic (by decide)
theorem s_X_isPoint_9 {x : Nat} {l : eg_Lo} : wps rm K Q c_X_isPoint_9 kc ks (some (.ref x) :: l) (st) h = wps rm K Q c_X_isPoint_10 kc ks (some (.ref x) :: l) (.ref x :: st) h := gk_aload rfl
theorem s_X_isPoint_10 {x : Nat} : wps rm K Q c_X_isPoint_10 kc ks loc (.ref (x + 1) :: st) h = eg_gf h x 11 0 (fun v => wps rm K Q c_X_isPoint_13 kc ks loc (v :: st) h) := gk_gf
theorem s_X_isPoint_13 {x : Int32} {l0 : Option Value} {l : eg_Lo} : wps rm K Q c_X_isPoint_13 kc ks (l0 :: some (.int x) :: l) (st) h = wps rm K Q c_X_isPoint_14 kc ks (l0 :: some (.int x) :: l) (.int x :: st) h := gk_iload rfl
theorem s_X_isPoint_14 {x : Nat} {i : Int32} : wps rm K Q c_X_isPoint_14 kc ks loc (.int i :: .ref (x + 1) :: st) h = eg_aa h x i (fun v => wps rm K Q c_X_isPoint_15 kc ks loc (v :: st) h) := gk_aaload
theorem s_X_isPoint_15 {x : Nat} : wps rm K Q c_X_isPoint_15 kc ks loc (.ref (x + 1) :: st) h = eg_gf h x 8 4 (fun v => wps rm K Q c_X_isPoint_18 kc ks loc (v :: st) h) := gk_gf
theorem s_X_isPoint_18  : wps rm K Q c_X_isPoint_18 kc ks loc (st) h = wps rm K Q c_X_isPoint_19 kc ks loc (.int (1) :: st) h := gk_ic (by decide)
theorem s_X_isPoint_19 {x y : Int32} : wps rm K Q c_X_isPoint_19 kc ks loc (.int y :: .int x :: st) h = wps rm K Q c_X_isPoint_20 kc ks loc (.int (x - y) :: st) h := gk_isub
theorem s_X_isPoint_20  {a1 : Value} {a2 : Value} {a3 : Value} : wps rm K Q c_X_isPoint_20 kc ks loc (a3 :: a2 :: a1 :: st) h = (st.length ≤ 4 ∧ eg_Cs n_X_isWithin [a1, a2, a3] h (fun v h9 => wps rm K Q c_X_isPoint_23 kc ks loc (v.toList ++ st) h9)) := eg_c0_3
theorem s_X_isPoint_23 {x : Int32} : wps rm K Q c_X_isPoint_23 kc ks loc (.int x :: st) h = ((x = 0 → K 30 kc ks loc st h) ∧ (¬ x = 0 → wps rm K Q c_X_isPoint_26 kc ks loc (st) h)) := gk_if1_eq
theorem s_X_isPoint_26  : wps rm K Q c_X_isPoint_26 kc ks loc (st) h = wps rm K Q c_X_isPoint_27 kc ks loc (.int (1) :: st) h := gk_ic (by decide)
theorem s_X_isPoint_27  : wps rm K Q c_X_isPoint_27 kc ks loc (st) h = K 31 kc ks loc st h := gk_goto
theorem s_X_isPoint_30  : wps rm K Q c_X_isPoint_30 kc ks loc (st) h = wps rm K Q c_X_isPoint_31 kc ks loc (.int (0) :: st) h := gk_ic (by decide)
theorem s_X_isPoint_31 {x : Int32} : wps rm K Q c_X_isPoint_31 kc ks loc ([.int x]) h = (kc = rm.cells ∧ ((1 : Nat) = 1 → x = 0 ∨ x = 1) ∧ Q (some (.int x)) h) := gk_iret
def T_X_isPoint : List (Nat × List eg_I) := [(30, c_X_isPoint_30), (31, c_X_isPoint_31)]
theorem j_X_isPoint_30 {R : Nat → Nat → Nat → eg_Lo → List Value → List eg_E → Prop} {f pc0 : Nat} : eg_run rm R Q T_X_isPoint (f + 1) 30 kc ks loc st h = wps rm (eg_run rm R Q T_X_isPoint f) Q c_X_isPoint_30 kc ks loc st h := rfl
theorem j_X_isPoint_31 {R : Nat → Nat → Nat → eg_Lo → List Value → List eg_E → Prop} {f pc0 : Nat} : eg_run rm R Q T_X_isPoint (f + 1) 31 kc ks loc st h = wps rm (eg_run rm R Q T_X_isPoint f) Q c_X_isPoint_31 kc ks loc st h := rfl
end
theorem y_X_isPoint_0 : eg_seq m_X_isPoint 0 c_X_isPoint_0 = true := by decide +kernel
theorem y_X_isPoint_30 : eg_seq m_X_isPoint 30 c_X_isPoint_30 = true := by decide +kernel
theorem q_X_isPoint : ∀ q ∈ T_X_isPoint, eg_seq m_X_isPoint q.1 q.2 = true := by
  intro q hq
  simp only [T_X_isPoint, List.mem_cons, List.not_mem_nil, or_false] at hq
  rcases hq with rfl | rfl
  · exact y_X_isPoint_30
  · exact (eg_seq_drop y_X_isPoint_30 1 : eg_seq m_X_isPoint 31 c_X_isPoint_31 = true)
theorem b_X_isPoint {as : List Value} {h : List eg_E} {Q : Option Value → List eg_E → Prop} (hf : (eg_fl as).length ≤ 3) (hw : wps (eg_rm m_X_isPoint) (eg_run (eg_rm m_X_isPoint) (eg_R m_X_isPoint Q (h.length + 0)) Q T_X_isPoint 4) Q c_X_isPoint_0 0 0 (eg_entry 3 as) [] h) : eg_Runs n_X_isPoint as h Q := eg_begin2 (d := m_X_isPoint) rfl (by decide) y_X_isPoint_0 q_X_isPoint hf hw
/-! ===== X_mendPoint ===== -/
def c_X_mendPoint_90 : List eg_I := .inl (90, 1, .ireturn, 0, 1) :: []
def c_X_mendPoint_89 : List eg_I := .inl (89, 1, .iconst (0), 0, 0) :: c_X_mendPoint_90
def c_X_mendPoint_86 : List eg_I := .inl (86, 3, .goto (4), 90, 0) :: []
def c_X_mendPoint_85 : List eg_I := .inl (85, 1, .iconst (1), 0, 0) :: c_X_mendPoint_86
def c_X_mendPoint_82 : List eg_I := .inl (82, 3, .if_icmp .eq (7), 89, 0) :: c_X_mendPoint_85
def c_X_mendPoint_80 : List eg_I := .inl (80, 2, .iload 4, 0, 0) :: c_X_mendPoint_82
def c_X_mendPoint_79 : List eg_I := .inl (79, 1, .iaload, 0, 0) :: c_X_mendPoint_80
def c_X_mendPoint_78 : List eg_I := .inl (78, 1, .iload 2, 0, 0) :: c_X_mendPoint_79
def c_X_mendPoint_75 : List eg_I := .inl (75, 3, .getfield 119, 8, 1) :: c_X_mendPoint_78
def c_X_mendPoint_74 : List eg_I := .inl (74, 1, .aload 1, 0, 0) :: c_X_mendPoint_75
def c_X_mendPoint_71 : List eg_I := .inl (71, 3, .if_icmp .ne (14), 85, 0) :: c_X_mendPoint_74
def c_X_mendPoint_70 : List eg_I := .inl (70, 1, .iload 3, 0, 0) :: c_X_mendPoint_71
def c_X_mendPoint_69 : List eg_I := .inl (69, 1, .iaload, 0, 0) :: c_X_mendPoint_70
def c_X_mendPoint_68 : List eg_I := .inl (68, 1, .iload 2, 0, 0) :: c_X_mendPoint_69
def c_X_mendPoint_65 : List eg_I := .inl (65, 3, .getfield 115, 8, 0) :: c_X_mendPoint_68
def c_X_mendPoint_64 : List eg_I := .inl (64, 1, .aload 1, 0, 0) :: c_X_mendPoint_65
def c_X_mendPoint_63 : List eg_I := .inl (63, 1, .iastore, 0, 0) :: c_X_mendPoint_64
def c_X_mendPoint_60 : List eg_I := .inr (60, 0, 314, n_X_cut, 1, 11, 0, 0) :: c_X_mendPoint_63
def c_X_mendPoint_59 : List eg_I := .inl (59, 1, .isub, 0, 0) :: c_X_mendPoint_60
def c_X_mendPoint_56 : List eg_I := .inr (56, 0, 142, n_Grid_tooGreat, 3, 6, 0, 0) :: c_X_mendPoint_59
def c_X_mendPoint_54 : List eg_I := .inl (54, 2, .iload 4, 0, 0) :: c_X_mendPoint_56
def c_X_mendPoint_53 : List eg_I := .inl (53, 1, .iload 3, 0, 0) :: c_X_mendPoint_54
def c_X_mendPoint_50 : List eg_I := .inl (50, 3, .getfield 139, 6, 1) :: c_X_mendPoint_53
def c_X_mendPoint_47 : List eg_I := .inl (47, 3, .getfield 30, 11, 3) :: c_X_mendPoint_50
def c_X_mendPoint_46 : List eg_I := .inl (46, 1, .aload 0, 0, 0) :: c_X_mendPoint_47
def c_X_mendPoint_44 : List eg_I := .inl (44, 2, .iload 4, 0, 0) :: c_X_mendPoint_46
def c_X_mendPoint_43 : List eg_I := .inl (43, 1, .iload 2, 0, 0) :: c_X_mendPoint_44
def c_X_mendPoint_40 : List eg_I := .inl (40, 3, .getfield 119, 8, 1) :: c_X_mendPoint_43
def c_X_mendPoint_39 : List eg_I := .inl (39, 1, .aload 1, 0, 0) :: c_X_mendPoint_40
def c_X_mendPoint_38 : List eg_I := .inl (38, 1, .iastore, 0, 0) :: c_X_mendPoint_39
def c_X_mendPoint_35 : List eg_I := .inr (35, 0, 314, n_X_cut, 1, 11, 0, 0) :: c_X_mendPoint_38
def c_X_mendPoint_34 : List eg_I := .inl (34, 1, .isub, 0, 0) :: c_X_mendPoint_35
def c_X_mendPoint_31 : List eg_I := .inr (31, 0, 142, n_Grid_tooGreat, 3, 6, 0, 0) :: c_X_mendPoint_34
def c_X_mendPoint_29 : List eg_I := .inl (29, 2, .iload 4, 0, 0) :: c_X_mendPoint_31
def c_X_mendPoint_28 : List eg_I := .inl (28, 1, .iload 3, 0, 0) :: c_X_mendPoint_29
def c_X_mendPoint_25 : List eg_I := .inl (25, 3, .getfield 136, 6, 0) :: c_X_mendPoint_28
def c_X_mendPoint_22 : List eg_I := .inl (22, 3, .getfield 30, 11, 3) :: c_X_mendPoint_25
def c_X_mendPoint_21 : List eg_I := .inl (21, 1, .aload 0, 0, 0) :: c_X_mendPoint_22
def c_X_mendPoint_20 : List eg_I := .inl (20, 1, .iload 3, 0, 0) :: c_X_mendPoint_21
def c_X_mendPoint_19 : List eg_I := .inl (19, 1, .iload 2, 0, 0) :: c_X_mendPoint_20
def c_X_mendPoint_16 : List eg_I := .inl (16, 3, .getfield 115, 8, 0) :: c_X_mendPoint_19
def c_X_mendPoint_15 : List eg_I := .inl (15, 1, .aload 1, 0, 0) :: c_X_mendPoint_16
def c_X_mendPoint_13 : List eg_I := .inl (13, 2, .istore 4, 0, 0) :: c_X_mendPoint_15
def c_X_mendPoint_12 : List eg_I := .inl (12, 1, .iaload, 0, 0) :: c_X_mendPoint_13
def c_X_mendPoint_11 : List eg_I := .inl (11, 1, .iload 2, 0, 0) :: c_X_mendPoint_12
def c_X_mendPoint_8 : List eg_I := .inl (8, 3, .getfield 119, 8, 1) :: c_X_mendPoint_11
def c_X_mendPoint_7 : List eg_I := .inl (7, 1, .aload 1, 0, 0) :: c_X_mendPoint_8
def c_X_mendPoint_6 : List eg_I := .inl (6, 1, .istore 3, 0, 0) :: c_X_mendPoint_7
def c_X_mendPoint_5 : List eg_I := .inl (5, 1, .iaload, 0, 0) :: c_X_mendPoint_6
def c_X_mendPoint_4 : List eg_I := .inl (4, 1, .iload 2, 0, 0) :: c_X_mendPoint_5
def c_X_mendPoint_1 : List eg_I := .inl (1, 3, .getfield 115, 8, 0) :: c_X_mendPoint_4
def c_X_mendPoint_0 : List eg_I := .inl (0, 1, .aload 1, 0, 0) :: c_X_mendPoint_1
section
variable {rm : Room} {K : Nat → Nat → Nat → eg_Lo → List Value → List eg_E → Prop} {Q : Option Value → List eg_E → Prop} {kc ks : Nat} {loc : eg_Lo} {st : List Value} {h : List eg_E}
theorem s_X_mendPoint_0 {x : Nat} {l0 : Option Value} {l : eg_Lo} : wps rm K Q c_X_mendPoint_0 kc ks (l0 :: some (.ref x) :: l) (st) h = wps rm K Q c_X_mendPoint_1 kc ks (l0 :: some (.ref x) :: l) (.ref x :: st) h := gk_aload rfl
theorem s_X_mendPoint_1 {x : Nat} : wps rm K Q c_X_mendPoint_1 kc ks loc (.ref (x + 1) :: st) h = eg_gf h x 8 0 (fun v => wps rm K Q c_X_mendPoint_4 kc ks loc (v :: st) h) := gk_gf
theorem s_X_mendPoint_4 {x : Int32} {l0 l1 : Option Value} {l : eg_Lo} : wps rm K Q c_X_mendPoint_4 kc ks (l0 :: l1 :: some (.int x) :: l) (st) h = wps rm K Q c_X_mendPoint_5 kc ks (l0 :: l1 :: some (.int x) :: l) (.int x :: st) h := gk_iload rfl
theorem s_X_mendPoint_5 {x : Nat} {i : Int32} : wps rm K Q c_X_mendPoint_5 kc ks loc (.int i :: .ref (x + 1) :: st) h = eg_ia h x i (fun v => wps rm K Q c_X_mendPoint_6 kc ks loc (.int v :: st) h) := gk_iaload
theorem s_X_mendPoint_6 {x : Int32} : wps rm K Q c_X_mendPoint_6 kc ks loc (.int x :: st) h = wps rm K Q c_X_mendPoint_7 kc ks (eg_set1 loc 3 (.int x)) (st) h := gk_istore
theorem s_X_mendPoint_7 {x : Nat} {l0 : Option Value} {l : eg_Lo} : wps rm K Q c_X_mendPoint_7 kc ks (l0 :: some (.ref x) :: l) (st) h = wps rm K Q c_X_mendPoint_8 kc ks (l0 :: some (.ref x) :: l) (.ref x :: st) h := gk_aload rfl
theorem s_X_mendPoint_8 {x : Nat} : wps rm K Q c_X_mendPoint_8 kc ks loc (.ref (x + 1) :: st) h = eg_gf h x 8 1 (fun v => wps rm K Q c_X_mendPoint_11 kc ks loc (v :: st) h) := gk_gf
theorem s_X_mendPoint_11 {x : Int32} {l0 l1 : Option Value} {l : eg_Lo} : wps rm K Q c_X_mendPoint_11 kc ks (l0 :: l1 :: some (.int x) :: l) (st) h = wps rm K Q c_X_mendPoint_12 kc ks (l0 :: l1 :: some (.int x) :: l) (.int x :: st) h := gk_iload rfl
theorem s_X_mendPoint_12 {x : Nat} {i : Int32} : wps rm K Q c_X_mendPoint_12 kc ks loc (.int i :: .ref (x + 1) :: st) h = eg_ia h x i (fun v => wps rm K Q c_X_mendPoint_13 kc ks loc (.int v :: st) h) := gk_iaload
theorem s_X_mendPoint_13 {x : Int32} : wps rm K Q c_X_mendPoint_13 kc ks loc (.int x :: st) h = wps rm K Q c_X_mendPoint_15 kc ks (eg_set1 loc 4 (.int x)) (st) h := gk_istore
theorem s_X_mendPoint_15 {x : Nat} {l0 : Option Value} {l : eg_Lo} : wps rm K Q c_X_mendPoint_15 kc ks (l0 :: some (.ref x) :: l) (st) h = wps rm K Q c_X_mendPoint_16 kc ks (l0 :: some (.ref x) :: l) (.ref x :: st) h := gk_aload rfl
theorem s_X_mendPoint_16 {x : Nat} : wps rm K Q c_X_mendPoint_16 kc ks loc (.ref (x + 1) :: st) h = eg_gf h x 8 0 (fun v => wps rm K Q c_X_mendPoint_19 kc ks loc (v :: st) h) := gk_gf
theorem s_X_mendPoint_19 {x : Int32} {l0 l1 : Option Value} {l : eg_Lo} : wps rm K Q c_X_mendPoint_19 kc ks (l0 :: l1 :: some (.int x) :: l) (st) h = wps rm K Q c_X_mendPoint_20 kc ks (l0 :: l1 :: some (.int x) :: l) (.int x :: st) h := gk_iload rfl
theorem s_X_mendPoint_20 {x : Int32} {l0 l1 l2 : Option Value} {l : eg_Lo} : wps rm K Q c_X_mendPoint_20 kc ks (l0 :: l1 :: l2 :: some (.int x) :: l) (st) h = wps rm K Q c_X_mendPoint_21 kc ks (l0 :: l1 :: l2 :: some (.int x) :: l) (.int x :: st) h := gk_iload rfl
theorem s_X_mendPoint_21 {x : Nat} {l : eg_Lo} : wps rm K Q c_X_mendPoint_21 kc ks (some (.ref x) :: l) (st) h = wps rm K Q c_X_mendPoint_22 kc ks (some (.ref x) :: l) (.ref x :: st) h := gk_aload rfl
theorem s_X_mendPoint_22 {x : Nat} : wps rm K Q c_X_mendPoint_22 kc ks loc (.ref (x + 1) :: st) h = eg_gf h x 11 3 (fun v => wps rm K Q c_X_mendPoint_25 kc ks loc (v :: st) h) := gk_gf
theorem s_X_mendPoint_25 {x : Nat} : wps rm K Q c_X_mendPoint_25 kc ks loc (.ref (x + 1) :: st) h = eg_gf h x 6 0 (fun v => wps rm K Q c_X_mendPoint_28 kc ks loc (v :: st) h) := gk_gf
theorem s_X_mendPoint_28 {x : Int32} {l0 l1 l2 : Option Value} {l : eg_Lo} : wps rm K Q c_X_mendPoint_28 kc ks (l0 :: l1 :: l2 :: some (.int x) :: l) (st) h = wps rm K Q c_X_mendPoint_29 kc ks (l0 :: l1 :: l2 :: some (.int x) :: l) (.int x :: st) h := gk_iload rfl
theorem s_X_mendPoint_29 {x : Int32} {l0 l1 l2 l3 : Option Value} {l : eg_Lo} : wps rm K Q c_X_mendPoint_29 kc ks (l0 :: l1 :: l2 :: l3 :: some (.int x) :: l) (st) h = wps rm K Q c_X_mendPoint_31 kc ks (l0 :: l1 :: l2 :: l3 :: some (.int x) :: l) (.int x :: st) h := gk_iload rfl
theorem s_X_mendPoint_31  {a1 : Value} {a2 : Value} {a3 : Value} : wps rm K Q c_X_mendPoint_31 kc ks loc (a3 :: a2 :: a1 :: st) h = (st.length ≤ 4 ∧ eg_Cs n_Grid_tooGreat [a1, a2, a3] h (fun v h9 => wps rm K Q c_X_mendPoint_34 kc ks loc (v.toList ++ st) h9)) := eg_c0_3
theorem s_X_mendPoint_34 {x y : Int32} : wps rm K Q c_X_mendPoint_34 kc ks loc (.int y :: .int x :: st) h = wps rm K Q c_X_mendPoint_35 kc ks loc (.int (x - y) :: st) h := gk_isub
theorem s_X_mendPoint_35  {a1 : Value} : wps rm K Q c_X_mendPoint_35 kc ks loc (a1 :: st) h = (st.length ≤ 4 ∧ eg_Cs n_X_cut [a1] h (fun v h9 => wps rm K Q c_X_mendPoint_38 kc ks loc (v.toList ++ st) h9)) := eg_c0_1
theorem s_X_mendPoint_38 {x : Nat} {i : Int32} {v : Int32} : wps rm K Q c_X_mendPoint_38 kc ks loc (.int v :: .int i :: .ref (x + 1) :: st) h = eg_is h x i v (fun h9 => wps rm K Q c_X_mendPoint_39 kc ks loc (st) h9) := gk_iastore
theorem s_X_mendPoint_39 {x : Nat} {l0 : Option Value} {l : eg_Lo} : wps rm K Q c_X_mendPoint_39 kc ks (l0 :: some (.ref x) :: l) (st) h = wps rm K Q c_X_mendPoint_40 kc ks (l0 :: some (.ref x) :: l) (.ref x :: st) h := gk_aload rfl
theorem s_X_mendPoint_40 {x : Nat} : wps rm K Q c_X_mendPoint_40 kc ks loc (.ref (x + 1) :: st) h = eg_gf h x 8 1 (fun v => wps rm K Q c_X_mendPoint_43 kc ks loc (v :: st) h) := gk_gf
theorem s_X_mendPoint_43 {x : Int32} {l0 l1 : Option Value} {l : eg_Lo} : wps rm K Q c_X_mendPoint_43 kc ks (l0 :: l1 :: some (.int x) :: l) (st) h = wps rm K Q c_X_mendPoint_44 kc ks (l0 :: l1 :: some (.int x) :: l) (.int x :: st) h := gk_iload rfl
theorem s_X_mendPoint_44 {x : Int32} {l0 l1 l2 l3 : Option Value} {l : eg_Lo} : wps rm K Q c_X_mendPoint_44 kc ks (l0 :: l1 :: l2 :: l3 :: some (.int x) :: l) (st) h = wps rm K Q c_X_mendPoint_46 kc ks (l0 :: l1 :: l2 :: l3 :: some (.int x) :: l) (.int x :: st) h := gk_iload rfl
theorem s_X_mendPoint_46 {x : Nat} {l : eg_Lo} : wps rm K Q c_X_mendPoint_46 kc ks (some (.ref x) :: l) (st) h = wps rm K Q c_X_mendPoint_47 kc ks (some (.ref x) :: l) (.ref x :: st) h := gk_aload rfl
theorem s_X_mendPoint_47 {x : Nat} : wps rm K Q c_X_mendPoint_47 kc ks loc (.ref (x + 1) :: st) h = eg_gf h x 11 3 (fun v => wps rm K Q c_X_mendPoint_50 kc ks loc (v :: st) h) := gk_gf
theorem s_X_mendPoint_50 {x : Nat} : wps rm K Q c_X_mendPoint_50 kc ks loc (.ref (x + 1) :: st) h = eg_gf h x 6 1 (fun v => wps rm K Q c_X_mendPoint_53 kc ks loc (v :: st) h) := gk_gf
theorem s_X_mendPoint_53 {x : Int32} {l0 l1 l2 : Option Value} {l : eg_Lo} : wps rm K Q c_X_mendPoint_53 kc ks (l0 :: l1 :: l2 :: some (.int x) :: l) (st) h = wps rm K Q c_X_mendPoint_54 kc ks (l0 :: l1 :: l2 :: some (.int x) :: l) (.int x :: st) h := gk_iload rfl
theorem s_X_mendPoint_54 {x : Int32} {l0 l1 l2 l3 : Option Value} {l : eg_Lo} : wps rm K Q c_X_mendPoint_54 kc ks (l0 :: l1 :: l2 :: l3 :: some (.int x) :: l) (st) h = wps rm K Q c_X_mendPoint_56 kc ks (l0 :: l1 :: l2 :: l3 :: some (.int x) :: l) (.int x :: st) h := gk_iload rfl
theorem s_X_mendPoint_56  {a1 : Value} {a2 : Value} {a3 : Value} : wps rm K Q c_X_mendPoint_56 kc ks loc (a3 :: a2 :: a1 :: st) h = (st.length ≤ 4 ∧ eg_Cs n_Grid_tooGreat [a1, a2, a3] h (fun v h9 => wps rm K Q c_X_mendPoint_59 kc ks loc (v.toList ++ st) h9)) := eg_c0_3
theorem s_X_mendPoint_59 {x y : Int32} : wps rm K Q c_X_mendPoint_59 kc ks loc (.int y :: .int x :: st) h = wps rm K Q c_X_mendPoint_60 kc ks loc (.int (x - y) :: st) h := gk_isub
theorem s_X_mendPoint_60  {a1 : Value} : wps rm K Q c_X_mendPoint_60 kc ks loc (a1 :: st) h = (st.length ≤ 4 ∧ eg_Cs n_X_cut [a1] h (fun v h9 => wps rm K Q c_X_mendPoint_63 kc ks loc (v.toList ++ st) h9)) := eg_c0_1
theorem s_X_mendPoint_63 {x : Nat} {i : Int32} {v : Int32} : wps rm K Q c_X_mendPoint_63 kc ks loc (.int v :: .int i :: .ref (x + 1) :: st) h = eg_is h x i v (fun h9 => wps rm K Q c_X_mendPoint_64 kc ks loc (st) h9) := gk_iastore
theorem s_X_mendPoint_64 {x : Nat} {l0 : Option Value} {l : eg_Lo} : wps rm K Q c_X_mendPoint_64 kc ks (l0 :: some (.ref x) :: l) (st) h = wps rm K Q c_X_mendPoint_65 kc ks (l0 :: some (.ref x) :: l) (.ref x :: st) h := gk_aload rfl
theorem s_X_mendPoint_65 {x : Nat} : wps rm K Q c_X_mendPoint_65 kc ks loc (.ref (x + 1) :: st) h = eg_gf h x 8 0 (fun v => wps rm K Q c_X_mendPoint_68 kc ks loc (v :: st) h) := gk_gf
theorem s_X_mendPoint_68 {x : Int32} {l0 l1 : Option Value} {l : eg_Lo} : wps rm K Q c_X_mendPoint_68 kc ks (l0 :: l1 :: some (.int x) :: l) (st) h = wps rm K Q c_X_mendPoint_69 kc ks (l0 :: l1 :: some (.int x) :: l) (.int x :: st) h := gk_iload rfl
theorem s_X_mendPoint_69 {x : Nat} {i : Int32} : wps rm K Q c_X_mendPoint_69 kc ks loc (.int i :: .ref (x + 1) :: st) h = eg_ia h x i (fun v => wps rm K Q c_X_mendPoint_70 kc ks loc (.int v :: st) h) := gk_iaload
theorem s_X_mendPoint_70 {x : Int32} {l0 l1 l2 : Option Value} {l : eg_Lo} : wps rm K Q c_X_mendPoint_70 kc ks (l0 :: l1 :: l2 :: some (.int x) :: l) (st) h = wps rm K Q c_X_mendPoint_71 kc ks (l0 :: l1 :: l2 :: some (.int x) :: l) (.int x :: st) h := gk_iload rfl
theorem s_X_mendPoint_71 {x y : Int32} : wps rm K Q c_X_mendPoint_71 kc ks loc (.int y :: .int x :: st) h = ((¬ x = y → K 85 kc ks loc st h) ∧ (x = y → wps rm K Q c_X_mendPoint_74 kc ks loc (st) h)) := gk_if2_ne
theorem s_X_mendPoint_74 {x : Nat} {l0 : Option Value} {l : eg_Lo} : wps rm K Q c_X_mendPoint_74 kc ks (l0 :: some (.ref x) :: l) (st) h = wps rm K Q c_X_mendPoint_75 kc ks (l0 :: some (.ref x) :: l) (.ref x :: st) h := gk_aload rfl
theorem s_X_mendPoint_75 {x : Nat} : wps rm K Q c_X_mendPoint_75 kc ks loc (.ref (x + 1) :: st) h = eg_gf h x 8 1 (fun v => wps rm K Q c_X_mendPoint_78 kc ks loc (v :: st) h) := gk_gf
theorem s_X_mendPoint_78 {x : Int32} {l0 l1 : Option Value} {l : eg_Lo} : wps rm K Q c_X_mendPoint_78 kc ks (l0 :: l1 :: some (.int x) :: l) (st) h = wps rm K Q c_X_mendPoint_79 kc ks (l0 :: l1 :: some (.int x) :: l) (.int x :: st) h := gk_iload rfl
theorem s_X_mendPoint_79 {x : Nat} {i : Int32} : wps rm K Q c_X_mendPoint_79 kc ks loc (.int i :: .ref (x + 1) :: st) h = eg_ia h x i (fun v => wps rm K Q c_X_mendPoint_80 kc ks loc (.int v :: st) h) := gk_iaload
theorem s_X_mendPoint_80 {x : Int32} {l0 l1 l2 l3 : Option Value} {l : eg_Lo} : wps rm K Q c_X_mendPoint_80 kc ks (l0 :: l1 :: l2 :: l3 :: some (.int x) :: l) (st) h = wps rm K Q c_X_mendPoint_82 kc ks (l0 :: l1 :: l2 :: l3 :: some (.int x) :: l) (.int x :: st) h := gk_iload rfl
theorem s_X_mendPoint_82 {x y : Int32} : wps rm K Q c_X_mendPoint_82 kc ks loc (.int y :: .int x :: st) h = ((x = y → K 89 kc ks loc st h) ∧ (¬ x = y → wps rm K Q c_X_mendPoint_85 kc ks loc (st) h)) := gk_if2_eq
theorem s_X_mendPoint_85  : wps rm K Q c_X_mendPoint_85 kc ks loc (st) h = wps rm K Q c_X_mendPoint_86 kc ks loc (.int (1) :: st) h := gk_ic (by decide)
theorem s_X_mendPoint_86  : wps rm K Q c_X_mendPoint_86 kc ks loc (st) h = K 90 kc ks loc st h := gk_goto
theorem s_X_mendPoint_89  : wps rm K Q c_X_mendPoint_89 kc ks loc (st) h = wps rm K Q c_X_mendPoint_90 kc ks loc (.int (0) :: st) h := gk_ic (by decide)
theorem s_X_mendPoint_90 {x : Int32} : wps rm K Q c_X_mendPoint_90 kc ks loc ([.int x]) h = (kc = rm.cells ∧ ((1 : Nat) = 1 → x = 0 ∨ x = 1) ∧ Q (some (.int x)) h) := gk_iret
def T_X_mendPoint : List (Nat × List eg_I) := [(85, c_X_mendPoint_85), (89, c_X_mendPoint_89), (90, c_X_mendPoint_90)]
theorem j_X_mendPoint_85 {R : Nat → Nat → Nat → eg_Lo → List Value → List eg_E → Prop} {f pc0 : Nat} : eg_run rm R Q T_X_mendPoint (f + 1) 85 kc ks loc st h = wps rm (eg_run rm R Q T_X_mendPoint f) Q c_X_mendPoint_85 kc ks loc st h := rfl
theorem j_X_mendPoint_89 {R : Nat → Nat → Nat → eg_Lo → List Value → List eg_E → Prop} {f pc0 : Nat} : eg_run rm R Q T_X_mendPoint (f + 1) 89 kc ks loc st h = wps rm (eg_run rm R Q T_X_mendPoint f) Q c_X_mendPoint_89 kc ks loc st h := rfl
theorem j_X_mendPoint_90 {R : Nat → Nat → Nat → eg_Lo → List Value → List eg_E → Prop} {f pc0 : Nat} : eg_run rm R Q T_X_mendPoint (f + 1) 90 kc ks loc st h = wps rm (eg_run rm R Q T_X_mendPoint f) Q c_X_mendPoint_90 kc ks loc st h := rfl
end
theorem y_X_mendPoint_0 : eg_seq m_X_mendPoint 0 c_X_mendPoint_0 = true := by decide +kernel
theorem y_X_mendPoint_89 : eg_seq m_X_mendPoint 89 c_X_mendPoint_89 = true := by decide +kernel
theorem q_X_mendPoint : ∀ q ∈ T_X_mendPoint, eg_seq m_X_mendPoint q.1 q.2 = true := by
  intro q hq
  simp only [T_X_mendPoint, List.mem_cons, List.not_mem_nil, or_false] at hq
  rcases hq with rfl | rfl | rfl
  · exact (eg_seq_drop y_X_mendPoint_0 48 : eg_seq m_X_mendPoint 85 c_X_mendPoint_85 = true)
  · exact y_X_mendPoint_89
  · exact (eg_seq_drop y_X_mendPoint_89 1 : eg_seq m_X_mendPoint 90 c_X_mendPoint_90 = true)
theorem b_X_mendPoint {as : List Value} {h : List eg_E} {Q : Option Value → List eg_E → Prop} (hf : (eg_fl as).length ≤ 5) (hw : wps (eg_rm m_X_mendPoint) (eg_run (eg_rm m_X_mendPoint) (eg_R m_X_mendPoint Q (h.length + 0)) Q T_X_mendPoint 5) Q c_X_mendPoint_0 0 0 (eg_entry 5 as) [] h) : eg_Runs n_X_mendPoint as h Q := eg_begin2 (d := m_X_mendPoint) rfl (by decide) y_X_mendPoint_0 q_X_mendPoint hf hw
/-! ===== X_cut ===== -/
def c_X_cut_13 : List eg_I := .inl (13, 1, .ireturn, 0, 0) :: []
def c_X_cut_10 : List eg_I := .inr (10, 0, 254, n_Math_max, 2, 13, 0, 0) :: c_X_cut_13
def c_X_cut_7 : List eg_I := .inr (7, 0, 146, n_Math_min, 2, 13, 0, 0) :: c_X_cut_10
def c_X_cut_6 : List eg_I := .inl (6, 1, .iload 0, 0, 0) :: c_X_cut_7
def c_X_cut_3 : List eg_I := .inl (3, 3, .iconst (300), 0, 0) :: c_X_cut_6
def c_X_cut_0 : List eg_I := .inl (0, 3, .iconst (-300), 0, 0) :: c_X_cut_3
section
variable {rm : Room} {K : Nat → Nat → Nat → eg_Lo → List Value → List eg_E → Prop} {Q : Option Value → List eg_E → Prop} {kc ks : Nat} {loc : eg_Lo} {st : List Value} {h : List eg_E}
theorem s_X_cut_0  : wps rm K Q c_X_cut_0 kc ks loc (st) h = wps rm K Q c_X_cut_3 kc ks loc (.int (-300) :: st) h := gk_ic (by decide)
theorem s_X_cut_3  : wps rm K Q c_X_cut_3 kc ks loc (st) h = wps rm K Q c_X_cut_6 kc ks loc (.int (300) :: st) h := gk_ic (by decide)
theorem s_X_cut_6 {x : Int32} {l : eg_Lo} : wps rm K Q c_X_cut_6 kc ks (some (.int x) :: l) (st) h = wps rm K Q c_X_cut_7 kc ks (some (.int x) :: l) (.int x :: st) h := gk_iload rfl
theorem s_X_cut_7  {a1 : Value} {a2 : Value} : wps rm K Q c_X_cut_7 kc ks loc (a2 :: a1 :: st) h = (st.length ≤ 4 ∧ eg_Cs n_Math_min [a1, a2] h (fun v h9 => wps rm K Q c_X_cut_10 kc ks loc (v.toList ++ st) h9)) := eg_c0_2
theorem s_X_cut_10  {a1 : Value} {a2 : Value} : wps rm K Q c_X_cut_10 kc ks loc (a2 :: a1 :: st) h = (st.length ≤ 4 ∧ eg_Cs n_Math_max [a1, a2] h (fun v h9 => wps rm K Q c_X_cut_13 kc ks loc (v.toList ++ st) h9)) := eg_c0_2
theorem s_X_cut_13 {x : Int32} : wps rm K Q c_X_cut_13 kc ks loc ([.int x]) h = (kc = rm.cells ∧ (0 = 1 → x = 0 ∨ x = 1) ∧ Q (some (.int x)) h) := gk_iret
def T_X_cut : List (Nat × List eg_I) := []
end
theorem y_X_cut_0 : eg_seq m_X_cut 0 c_X_cut_0 = true := by decide +kernel
theorem q_X_cut : ∀ q ∈ T_X_cut, eg_seq m_X_cut q.1 q.2 = true := by
  intro q hq
  cases hq
theorem b_X_cut {as : List Value} {h : List eg_E} {Q : Option Value → List eg_E → Prop} (hf : (eg_fl as).length ≤ 1) (hw : wps (eg_rm m_X_cut) (eg_run (eg_rm m_X_cut) (eg_R m_X_cut Q (h.length + 0)) Q T_X_cut 2) Q c_X_cut_0 0 0 (eg_entry 1 as) [] h) : eg_Runs n_X_cut as h Q := eg_begin2 (d := m_X_cut) rfl (by decide) y_X_cut_0 q_X_cut hf hw
